theorem wmethodLink_RL_89_yL_addPart : Cond.methodLink RL 89 yL_addPart ∈ wsG := mG (seg3 (List.mem_of_getElem? (i := 230) rfl)) rfl
theorem wcodeWith_yL_addPart_cL_addPart_5_some_int_0_10_13_13_0_10_17_15 : Cond.codeWith yL_addPart cL_addPart 5 (some .int) [(0, 10, 13, 13), (0, 10, 17, 15)] ∈ wsG := mG (seg3 (List.mem_of_getElem? (i := 232) rfl)) rfl
theorem wstatic_yL_addPart : Cond.static yL_addPart ∈ wsG := mG (seg3 (List.mem_of_getElem? (i := 231) rfl)) rfl
theorem winitialized_RL : Cond.initialized RL ∈ wsG := mG (seg1 (List.mem_of_getElem? (i := 0) rfl)) rfl
theorem wmethodLink_RL_94_yX10_addPart : Cond.methodLink RL 94 yX10_addPart ∈ wsG := mG (seg5 (List.mem_of_getElem? (i := 70) rfl)) rfl
theorem winstanceMethod_yX10_addPart : Cond.instanceMethod yX10_addPart ∈ wsG := mG (seg5 (List.mem_of_getElem? (i := 71) rfl)) rfl
theorem wselects_RX10_yX10_addPart_yX10_addPart : Cond.selects RX10 yX10_addPart yX10_addPart ∈ wsG := mG (seg5 (List.mem_of_getElem? (i := 72) rfl)) rfl
theorem wcode_yX10_addPart_cX10_addPart_3_some_int : Cond.code yX10_addPart cX10_addPart 3 (some .int) ∈ wsG := mG (seg5 (List.mem_of_getElem? (i := 73) rfl)) rfl
theorem wmethodLink_RL_95_yX10_thrown : Cond.methodLink RL 95 yX10_thrown ∈ wsG := mG (seg5 (List.mem_of_getElem? (i := 66) rfl)) rfl
theorem winstanceMethod_yX10_thrown : Cond.instanceMethod yX10_thrown ∈ wsG := mG (seg5 (List.mem_of_getElem? (i := 67) rfl)) rfl
theorem wselects_RX10_yX10_thrown_yX10_thrown : Cond.selects RX10 yX10_thrown yX10_thrown ∈ wsG := mG (seg5 (List.mem_of_getElem? (i := 68) rfl)) rfl
theorem wcode_yX10_thrown_cX10_thrown_1_some_int : Cond.code yX10_thrown cX10_thrown 1 (some .int) ∈ wsG := mG (seg5 (List.mem_of_getElem? (i := 69) rfl)) rfl
theorem wmethodLink_RL_98_yL_setPart : Cond.methodLink RL 98 yL_setPart ∈ wsG := mG (seg4 (List.mem_of_getElem? (i := 42) rfl)) rfl
theorem wcodeWith_yL_setPart_cL_setPart_6_some_int_0_12_15_21_0_12_19_13 : Cond.codeWith yL_setPart cL_setPart 6 (some .int) [(0, 12, 15, 21), (0, 12, 19, 13)] ∈ wsG := mG (seg4 (List.mem_of_getElem? (i := 44) rfl)) rfl
theorem wstatic_yL_setPart : Cond.static yL_setPart ∈ wsG := mG (seg4 (List.mem_of_getElem? (i := 43) rfl)) rfl
theorem wmethodLink_RL_101_yX10_setPart : Cond.methodLink RL 101 yX10_setPart ∈ wsG := mG (seg5 (List.mem_of_getElem? (i := 102) rfl)) rfl
theorem winstanceMethod_yX10_setPart : Cond.instanceMethod yX10_setPart ∈ wsG := mG (seg5 (List.mem_of_getElem? (i := 103) rfl)) rfl
theorem wselects_RX10_yX10_setPart_yX10_setPart : Cond.selects RX10 yX10_setPart yX10_setPart ∈ wsG := mG (seg5 (List.mem_of_getElem? (i := 104) rfl)) rfl
theorem wcode_yX10_setPart_cX10_setPart_4_some_int : Cond.code yX10_setPart cX10_setPart 4 (some .int) ∈ wsG := mG (seg5 (List.mem_of_getElem? (i := 105) rfl)) rfl
theorem wmethodLink_RL_102_yL_removePart : Cond.methodLink RL 102 yL_removePart ∈ wsG := mG (seg4 (List.mem_of_getElem? (i := 52) rfl)) rfl
theorem wcodeWith_yL_removePart_cL_removePart_4_some_int_0_9_12_21 : Cond.codeWith yL_removePart cL_removePart 4 (some .int) [(0, 9, 12, 21)] ∈ wsG := mG (seg4 (List.mem_of_getElem? (i := 54) rfl)) rfl
theorem wstatic_yL_removePart : Cond.static yL_removePart ∈ wsG := mG (seg4 (List.mem_of_getElem? (i := 53) rfl)) rfl
theorem wmethodLink_RL_105_yX10_removePart : Cond.methodLink RL 105 yX10_removePart ∈ wsG := mG (seg5 (List.mem_of_getElem? (i := 118) rfl)) rfl
theorem winstanceMethod_yX10_removePart : Cond.instanceMethod yX10_removePart ∈ wsG := mG (seg5 (List.mem_of_getElem? (i := 119) rfl)) rfl
theorem wselects_RX10_yX10_removePart_yX10_removePart : Cond.selects RX10 yX10_removePart yX10_removePart ∈ wsG := mG (seg5 (List.mem_of_getElem? (i := 120) rfl)) rfl
theorem wcode_yX10_removePart_cX10_removePart_2_some_int : Cond.code yX10_removePart cX10_removePart 2 (some .int) ∈ wsG := mG (seg5 (List.mem_of_getElem? (i := 121) rfl)) rfl
theorem wmethodLink_RL_106_yL_splitPart : Cond.methodLink RL 106 yL_splitPart ∈ wsG := mG (seg4 (List.mem_of_getElem? (i := 61) rfl)) rfl
theorem wcodeWith_yL_splitPart_cL_splitPart_6_some_int_0_12_15_21_0_12_19_13_0_12_23_15 : Cond.codeWith yL_splitPart cL_splitPart 6 (some .int) [(0, 12, 15, 21), (0, 12, 19, 13), (0, 12, 23, 15)] ∈ wsG := mG (seg4 (List.mem_of_getElem? (i := 63) rfl)) rfl
theorem wstatic_yL_splitPart : Cond.static yL_splitPart ∈ wsG := mG (seg4 (List.mem_of_getElem? (i := 62) rfl)) rfl
theorem wmethodLink_RL_108_yX10_splitPart : Cond.methodLink RL 108 yX10_splitPart ∈ wsG := mG (seg5 (List.mem_of_getElem? (i := 126) rfl)) rfl
theorem winstanceMethod_yX10_splitPart : Cond.instanceMethod yX10_splitPart ∈ wsG := mG (seg5 (List.mem_of_getElem? (i := 127) rfl)) rfl
theorem wselects_RX10_yX10_splitPart_yX10_splitPart : Cond.selects RX10 yX10_splitPart yX10_splitPart ∈ wsG := mG (seg5 (List.mem_of_getElem? (i := 128) rfl)) rfl
theorem wcode_yX10_splitPart_cX10_splitPart_4_some_int : Cond.code yX10_splitPart cX10_splitPart 4 (some .int) ∈ wsG := mG (seg5 (List.mem_of_getElem? (i := 129) rfl)) rfl
theorem wmethodLink_RL_109_yX9_reverse : Cond.methodLink RL 109 yX9_reverse ∈ wsG := mG (seg2 (List.mem_of_getElem? (i := 2) rfl)) rfl
theorem winstanceMethod_yX9_reverse : Cond.instanceMethod yX9_reverse ∈ wsG := mG (seg2 (List.mem_of_getElem? (i := 3) rfl)) rfl
theorem wselects_RX9_yX9_reverse_yX9_reverse : Cond.selects RX9 yX9_reverse yX9_reverse ∈ wsG := mG (seg2 (List.mem_of_getElem? (i := 4) rfl)) rfl
theorem wcode_yX9_reverse_cX9_reverse_1_some_int : Cond.code yX9_reverse cX9_reverse 1 (some .int) ∈ wsG := mG (seg2 (List.mem_of_getElem? (i := 5) rfl)) rfl
theorem wmethodLink_RL_112_yX10_reverse : Cond.methodLink RL 112 yX10_reverse ∈ wsG := mG (seg5 (List.mem_of_getElem? (i := 138) rfl)) rfl
theorem winstanceMethod_yX10_reverse : Cond.instanceMethod yX10_reverse ∈ wsG := mG (seg5 (List.mem_of_getElem? (i := 139) rfl)) rfl
theorem wselects_RX10_yX10_reverse_yX10_reverse : Cond.selects RX10 yX10_reverse yX10_reverse ∈ wsG := mG (seg5 (List.mem_of_getElem? (i := 140) rfl)) rfl
theorem wcode_yX10_reverse_cX10_reverse_3_some_int : Cond.code yX10_reverse cX10_reverse 3 (some .int) ∈ wsG := mG (seg5 (List.mem_of_getElem? (i := 141) rfl)) rfl
theorem wmethodLink_RL_113_yL_setBench : Cond.methodLink RL 113 yL_setBench ∈ wsG := mG (seg4 (List.mem_of_getElem? (i := 70) rfl)) rfl
theorem wcodeWith_yL_setBench_cL_setBench_6_some_int_0_12_15_13 : Cond.codeWith yL_setBench cL_setBench 6 (some .int) [(0, 12, 15, 13)] ∈ wsG := mG (seg4 (List.mem_of_getElem? (i := 72) rfl)) rfl
theorem wstatic_yL_setBench : Cond.static yL_setBench ∈ wsG := mG (seg4 (List.mem_of_getElem? (i := 71) rfl)) rfl
theorem wmethodLink_RL_115_yX10_setBench : Cond.methodLink RL 115 yX10_setBench ∈ wsG := mG (seg5 (List.mem_of_getElem? (i := 150) rfl)) rfl
theorem winstanceMethod_yX10_setBench : Cond.instanceMethod yX10_setBench ∈ wsG := mG (seg5 (List.mem_of_getElem? (i := 151) rfl)) rfl
theorem wselects_RX10_yX10_setBench_yX10_setBench : Cond.selects RX10 yX10_setBench yX10_setBench ∈ wsG := mG (seg5 (List.mem_of_getElem? (i := 152) rfl)) rfl
theorem wcode_yX10_setBench_cX10_setBench_5_some_int : Cond.code yX10_setBench cX10_setBench 5 (some .int) ∈ wsG := mG (seg5 (List.mem_of_getElem? (i := 153) rfl)) rfl
theorem wmethodLink_RL_116_yL_addPulse : Cond.methodLink RL 116 yL_addPulse ∈ wsG := mG (seg4 (List.mem_of_getElem? (i := 79) rfl)) rfl
theorem wcodeWith_yL_addPulse_cL_addPulse_5_some_int_0_10_13_13_0_10_17_15 : Cond.codeWith yL_addPulse cL_addPulse 5 (some .int) [(0, 10, 13, 13), (0, 10, 17, 15)] ∈ wsG := mG (seg4 (List.mem_of_getElem? (i := 81) rfl)) rfl
theorem wstatic_yL_addPulse : Cond.static yL_addPulse ∈ wsG := mG (seg4 (List.mem_of_getElem? (i := 80) rfl)) rfl
theorem wmethodLink_RL_118_yX10_addPulse : Cond.methodLink RL 118 yX10_addPulse ∈ wsG := mG (seg5 (List.mem_of_getElem? (i := 160) rfl)) rfl
theorem winstanceMethod_yX10_addPulse : Cond.instanceMethod yX10_addPulse ∈ wsG := mG (seg5 (List.mem_of_getElem? (i := 161) rfl)) rfl
theorem wselects_RX10_yX10_addPulse_yX10_addPulse : Cond.selects RX10 yX10_addPulse yX10_addPulse ∈ wsG := mG (seg5 (List.mem_of_getElem? (i := 162) rfl)) rfl
theorem wcode_yX10_addPulse_cX10_addPulse_3_some_int : Cond.code yX10_addPulse cX10_addPulse 3 (some .int) ∈ wsG := mG (seg5 (List.mem_of_getElem? (i := 163) rfl)) rfl
theorem wmethodLink_RL_119_yL_removePulse : Cond.methodLink RL 119 yL_removePulse ∈ wsG := mG (seg4 (List.mem_of_getElem? (i := 88) rfl)) rfl
theorem wcodeWith_yL_removePulse_cL_removePulse_4_some_int_0_9_12_21_0_9_15_15 : Cond.codeWith yL_removePulse cL_removePulse 4 (some .int) [(0, 9, 12, 21), (0, 9, 15, 15)] ∈ wsG := mG (seg4 (List.mem_of_getElem? (i := 90) rfl)) rfl
theorem wstatic_yL_removePulse : Cond.static yL_removePulse ∈ wsG := mG (seg4 (List.mem_of_getElem? (i := 89) rfl)) rfl
theorem wmethodLink_RL_121_yX10_removePulse : Cond.methodLink RL 121 yX10_removePulse ∈ wsG := mG (seg5 (List.mem_of_getElem? (i := 174) rfl)) rfl
theorem winstanceMethod_yX10_removePulse : Cond.instanceMethod yX10_removePulse ∈ wsG := mG (seg5 (List.mem_of_getElem? (i := 175) rfl)) rfl
theorem wselects_RX10_yX10_removePulse_yX10_removePulse : Cond.selects RX10 yX10_removePulse yX10_removePulse ∈ wsG := mG (seg5 (List.mem_of_getElem? (i := 176) rfl)) rfl
theorem wcode_yX10_removePulse_cX10_removePulse_3_some_int : Cond.code yX10_removePulse cX10_removePulse 3 (some .int) ∈ wsG := mG (seg5 (List.mem_of_getElem? (i := 177) rfl)) rfl
theorem wmethodLink_RL_122_yL_part : Cond.methodLink RL 122 yL_part ∈ wsG := mG (seg4 (List.mem_of_getElem? (i := 103) rfl)) rfl
theorem wcodeWith_yL_part_cL_part_5_some_int_0_10_13_21_0_10_17_13 : Cond.codeWith yL_part cL_part 5 (some .int) [(0, 10, 13, 21), (0, 10, 17, 13)] ∈ wsG := mG (seg4 (List.mem_of_getElem? (i := 105) rfl)) rfl
theorem wstatic_yL_part : Cond.static yL_part ∈ wsG := mG (seg4 (List.mem_of_getElem? (i := 104) rfl)) rfl
theorem wmethodLink_RL_124_yX10_part : Cond.methodLink RL 124 yX10_part ∈ wsG := mG (seg5 (List.mem_of_getElem? (i := 180) rfl)) rfl
theorem winstanceMethod_yX10_part : Cond.instanceMethod yX10_part ∈ wsG := mG (seg5 (List.mem_of_getElem? (i := 181) rfl)) rfl
theorem wselects_RX10_yX10_part_yX10_part : Cond.selects RX10 yX10_part yX10_part ∈ wsG := mG (seg5 (List.mem_of_getElem? (i := 182) rfl)) rfl
theorem wcode_yX10_part_cX10_part_3_some_int : Cond.code yX10_part cX10_part 3 (some .int) ∈ wsG := mG (seg5 (List.mem_of_getElem? (i := 183) rfl)) rfl
theorem wmethodLink_RL_125_yL_bench : Cond.methodLink RL 125 yL_bench ∈ wsG := mG (seg4 (List.mem_of_getElem? (i := 111) rfl)) rfl
theorem wcodeWith_yL_bench_cL_bench_4_some_int_0_9_12_13 : Cond.codeWith yL_bench cL_bench 4 (some .int) [(0, 9, 12, 13)] ∈ wsG := mG (seg4 (List.mem_of_getElem? (i := 113) rfl)) rfl
theorem wstatic_yL_bench : Cond.static yL_bench ∈ wsG := mG (seg4 (List.mem_of_getElem? (i := 112) rfl)) rfl
theorem wmethodLink_RL_127_yX10_bench : Cond.methodLink RL 127 yX10_bench ∈ wsG := mG (seg5 (List.mem_of_getElem? (i := 188) rfl)) rfl
theorem winstanceMethod_yX10_bench : Cond.instanceMethod yX10_bench ∈ wsG := mG (seg5 (List.mem_of_getElem? (i := 189) rfl)) rfl
theorem wselects_RX10_yX10_bench_yX10_bench : Cond.selects RX10 yX10_bench yX10_bench ∈ wsG := mG (seg5 (List.mem_of_getElem? (i := 190) rfl)) rfl
theorem wcode_yX10_bench_cX10_bench_2_some_int : Cond.code yX10_bench cX10_bench 2 (some .int) ∈ wsG := mG (seg5 (List.mem_of_getElem? (i := 191) rfl)) rfl
theorem wmethodLink_RL_128_yL_echo : Cond.methodLink RL 128 yL_echo ∈ wsG := mG (seg4 (List.mem_of_getElem? (i := 115) rfl)) rfl
theorem wcodeWith_yL_echo_cL_echo_4_some_int_0_8_11_13 : Cond.codeWith yL_echo cL_echo 4 (some .int) [(0, 8, 11, 13)] ∈ wsG := mG (seg4 (List.mem_of_getElem? (i := 117) rfl)) rfl
theorem wstatic_yL_echo : Cond.static yL_echo ∈ wsG := mG (seg4 (List.mem_of_getElem? (i := 116) rfl)) rfl
theorem wmethodLink_RL_130_yX10_echo : Cond.methodLink RL 130 yX10_echo ∈ wsG := mG (seg5 (List.mem_of_getElem? (i := 197) rfl)) rfl
theorem winstanceMethod_yX10_echo : Cond.instanceMethod yX10_echo ∈ wsG := mG (seg5 (List.mem_of_getElem? (i := 198) rfl)) rfl
theorem wselects_RX10_yX10_echo_yX10_echo : Cond.selects RX10 yX10_echo yX10_echo ∈ wsG := mG (seg5 (List.mem_of_getElem? (i := 199) rfl)) rfl
theorem wcode_yX10_echo_cX10_echo_2_some_long : Cond.code yX10_echo cX10_echo 2 (some .long) ∈ wsG := mG (seg5 (List.mem_of_getElem? (i := 200) rfl)) rfl
theorem wmethodLink_RL_131_yL_echoTime : Cond.methodLink RL 131 yL_echoTime ∈ wsG := mG (seg4 (List.mem_of_getElem? (i := 119) rfl)) rfl
theorem wcodeWith_yL_echoTime_cL_echoTime_4_some_int_0_9_12_13 : Cond.codeWith yL_echoTime cL_echoTime 4 (some .int) [(0, 9, 12, 13)] ∈ wsG := mG (seg4 (List.mem_of_getElem? (i := 121) rfl)) rfl
theorem wstatic_yL_echoTime : Cond.static yL_echoTime ∈ wsG := mG (seg4 (List.mem_of_getElem? (i := 120) rfl)) rfl
theorem wmethodLink_RL_133_yX10_echoTime : Cond.methodLink RL 133 yX10_echoTime ∈ wsG := mG (seg5 (List.mem_of_getElem? (i := 233) rfl)) rfl
theorem winstanceMethod_yX10_echoTime : Cond.instanceMethod yX10_echoTime ∈ wsG := mG (seg5 (List.mem_of_getElem? (i := 234) rfl)) rfl
theorem wselects_RX10_yX10_echoTime_yX10_echoTime : Cond.selects RX10 yX10_echoTime yX10_echoTime ∈ wsG := mG (seg5 (List.mem_of_getElem? (i := 235) rfl)) rfl
theorem wcode_yX10_echoTime_cX10_echoTime_4_some_int : Cond.code yX10_echoTime cX10_echoTime 4 (some .int) ∈ wsG := mG (seg5 (List.mem_of_getElem? (i := 236) rfl)) rfl
theorem wmethodLink_RL_134_yL_total : Cond.methodLink RL 134 yL_total ∈ wsG := mG (seg4 (List.mem_of_getElem? (i := 130) rfl)) rfl
theorem wcodeWith_yL_total_cL_total_4_some_int_0_8_11_13 : Cond.codeWith yL_total cL_total 4 (some .int) [(0, 8, 11, 13)] ∈ wsG := mG (seg4 (List.mem_of_getElem? (i := 132) rfl)) rfl
theorem wstatic_yL_total : Cond.static yL_total ∈ wsG := mG (seg4 (List.mem_of_getElem? (i := 131) rfl)) rfl
theorem wmethodLink_RL_136_yX10_total : Cond.methodLink RL 136 yX10_total ∈ wsG := mG (seg5 (List.mem_of_getElem? (i := 237) rfl)) rfl
theorem winstanceMethod_yX10_total : Cond.instanceMethod yX10_total ∈ wsG := mG (seg5 (List.mem_of_getElem? (i := 238) rfl)) rfl
theorem wselects_RX10_yX10_total_yX10_total : Cond.selects RX10 yX10_total yX10_total ∈ wsG := mG (seg5 (List.mem_of_getElem? (i := 239) rfl)) rfl
theorem wcode_yX10_total_cX10_total_2_some_long : Cond.code yX10_total cX10_total 2 (some .long) ∈ wsG := mG (seg6 (List.mem_of_getElem? (i := 0) rfl)) rfl
theorem wmethodLink_RL_137_yL_arrival : Cond.methodLink RL 137 yL_arrival ∈ wsG := mG (seg4 (List.mem_of_getElem? (i := 134) rfl)) rfl
theorem wcodeWith_yL_arrival_cL_arrival_6_some_int_0_11_14_21_0_11_18_13 : Cond.codeWith yL_arrival cL_arrival 6 (some .int) [(0, 11, 14, 21), (0, 11, 18, 13)] ∈ wsG := mG (seg4 (List.mem_of_getElem? (i := 136) rfl)) rfl
theorem wstatic_yL_arrival : Cond.static yL_arrival ∈ wsG := mG (seg4 (List.mem_of_getElem? (i := 135) rfl)) rfl
theorem wmethodLink_RL_140_yX10_arrival : Cond.methodLink RL 140 yX10_arrival ∈ wsG := mG (seg6 (List.mem_of_getElem? (i := 10) rfl)) rfl
theorem winstanceMethod_yX10_arrival : Cond.instanceMethod yX10_arrival ∈ wsG := mG (seg6 (List.mem_of_getElem? (i := 11) rfl)) rfl
theorem wselects_RX10_yX10_arrival_yX10_arrival : Cond.selects RX10 yX10_arrival yX10_arrival ∈ wsG := mG (seg6 (List.mem_of_getElem? (i := 12) rfl)) rfl
theorem wcode_yX10_arrival_cX10_arrival_4_some_long : Cond.code yX10_arrival cX10_arrival 4 (some .long) ∈ wsG := mG (seg6 (List.mem_of_getElem? (i := 13) rfl)) rfl
theorem wmethodLink_RL_141_yL_echoByte : Cond.methodLink RL 141 yL_echoByte ∈ wsG := mG (seg4 (List.mem_of_getElem? (i := 141) rfl)) rfl
theorem wcodeWith_yL_echoByte_cL_echoByte_4_some_int_0_9_12_13 : Cond.codeWith yL_echoByte cL_echoByte 4 (some .int) [(0, 9, 12, 13)] ∈ wsG := mG (seg4 (List.mem_of_getElem? (i := 143) rfl)) rfl
theorem wstatic_yL_echoByte : Cond.static yL_echoByte ∈ wsG := mG (seg4 (List.mem_of_getElem? (i := 142) rfl)) rfl
theorem wmethodLink_RL_143_yX10_echoByte : Cond.methodLink RL 143 yX10_echoByte ∈ wsG := mG (seg6 (List.mem_of_getElem? (i := 14) rfl)) rfl
theorem winstanceMethod_yX10_echoByte : Cond.instanceMethod yX10_echoByte ∈ wsG := mG (seg6 (List.mem_of_getElem? (i := 15) rfl)) rfl
theorem wselects_RX10_yX10_echoByte_yX10_echoByte : Cond.selects RX10 yX10_echoByte yX10_echoByte ∈ wsG := mG (seg6 (List.mem_of_getElem? (i := 16) rfl)) rfl
theorem wcode_yX10_echoByte_cX10_echoByte_6_some_int : Cond.code yX10_echoByte cX10_echoByte 6 (some .int) ∈ wsG := mG (seg6 (List.mem_of_getElem? (i := 17) rfl)) rfl
theorem wmethodLink_RL_144_yX9_keepSound : Cond.methodLink RL 144 yX9_keepSound ∈ wsG := mG (seg2 (List.mem_of_getElem? (i := 49) rfl)) rfl
theorem winstanceMethod_yX9_keepSound : Cond.instanceMethod yX9_keepSound ∈ wsG := mG (seg2 (List.mem_of_getElem? (i := 50) rfl)) rfl
theorem wselects_RX9_yX9_keepSound_yX9_keepSound : Cond.selects RX9 yX9_keepSound yX9_keepSound ∈ wsG := mG (seg2 (List.mem_of_getElem? (i := 51) rfl)) rfl
theorem wcode_yX9_keepSound_cX9_keepSound_1_some_int : Cond.code yX9_keepSound cX9_keepSound 1 (some .int) ∈ wsG := mG (seg2 (List.mem_of_getElem? (i := 52) rfl)) rfl
theorem wmethodLink_RL_147_yX10_keepSound : Cond.methodLink RL 147 yX10_keepSound ∈ wsG := mG (seg6 (List.mem_of_getElem? (i := 25) rfl)) rfl
theorem winstanceMethod_yX10_keepSound : Cond.instanceMethod yX10_keepSound ∈ wsG := mG (seg6 (List.mem_of_getElem? (i := 26) rfl)) rfl
theorem wselects_RX10_yX10_keepSound_yX10_keepSound : Cond.selects RX10 yX10_keepSound yX10_keepSound ∈ wsG := mG (seg6 (List.mem_of_getElem? (i := 27) rfl)) rfl
theorem wcode_yX10_keepSound_cX10_keepSound_1_some_int : Cond.code yX10_keepSound cX10_keepSound 1 (some .int) ∈ wsG := mG (seg6 (List.mem_of_getElem? (i := 28) rfl)) rfl
theorem wmethodLink_RL_148_yX9_differences : Cond.methodLink RL 148 yX9_differences ∈ wsG := mG (seg2 (List.mem_of_getElem? (i := 187) rfl)) rfl
theorem wmethodLink_RL_151_yX10_differences : Cond.methodLink RL 151 yX10_differences ∈ wsG := mG (seg6 (List.mem_of_getElem? (i := 33) rfl)) rfl
theorem winstanceMethod_yX10_differences : Cond.instanceMethod yX10_differences ∈ wsG := mG (seg6 (List.mem_of_getElem? (i := 34) rfl)) rfl
theorem wselects_RX10_yX10_differences_yX10_differences : Cond.selects RX10 yX10_differences yX10_differences ∈ wsG := mG (seg6 (List.mem_of_getElem? (i := 35) rfl)) rfl
theorem wcode_yX10_differences_cX10_differences_1_some_int : Cond.code yX10_differences cX10_differences 1 (some .int) ∈ wsG := mG (seg6 (List.mem_of_getElem? (i := 36) rfl)) rfl
theorem wmethodLink_RL_152_yL_fault : Cond.methodLink RL 152 yL_fault ∈ wsG := mG (seg4 (List.mem_of_getElem? (i := 158) rfl)) rfl
theorem wcodeWith_yL_fault_cL_fault_4_some_int_0_9_12_13 : Cond.codeWith yL_fault cL_fault 4 (some .int) [(0, 9, 12, 13)] ∈ wsG := mG (seg4 (List.mem_of_getElem? (i := 160) rfl)) rfl
theorem wstatic_yL_fault : Cond.static yL_fault ∈ wsG := mG (seg4 (List.mem_of_getElem? (i := 159) rfl)) rfl
theorem wmethodLink_RL_154_yX10_fault : Cond.methodLink RL 154 yX10_fault ∈ wsG := mG (seg6 (List.mem_of_getElem? (i := 41) rfl)) rfl
theorem winstanceMethod_yX10_fault : Cond.instanceMethod yX10_fault ∈ wsG := mG (seg6 (List.mem_of_getElem? (i := 42) rfl)) rfl
theorem wselects_RX10_yX10_fault_yX10_fault : Cond.selects RX10 yX10_fault yX10_fault ∈ wsG := mG (seg6 (List.mem_of_getElem? (i := 43) rfl)) rfl
theorem wcode_yX10_fault_cX10_fault_2_some_int : Cond.code yX10_fault cX10_fault 2 (some .int) ∈ wsG := mG (seg6 (List.mem_of_getElem? (i := 44) rfl)) rfl
theorem wmethodLink_RL_155_yX9_observe : Cond.methodLink RL 155 yX9_observe ∈ wsG := mG (seg2 (List.mem_of_getElem? (i := 191) rfl)) rfl
theorem winstanceMethod_yX9_observe : Cond.instanceMethod yX9_observe ∈ wsG := mG (seg2 (List.mem_of_getElem? (i := 192) rfl)) rfl
theorem wselects_RX9_yX9_observe_yX9_observe : Cond.selects RX9 yX9_observe yX9_observe ∈ wsG := mG (seg2 (List.mem_of_getElem? (i := 193) rfl)) rfl
theorem wcode_yX9_observe_cX9_observe_1_some_int : Cond.code yX9_observe cX9_observe 1 (some .int) ∈ wsG := mG (seg2 (List.mem_of_getElem? (i := 194) rfl)) rfl
theorem wmethodLink_RL_158_yX10_observe : Cond.methodLink RL 158 yX10_observe ∈ wsG := mG (seg6 (List.mem_of_getElem? (i := 54) rfl)) rfl
theorem winstanceMethod_yX10_observe : Cond.instanceMethod yX10_observe ∈ wsG := mG (seg6 (List.mem_of_getElem? (i := 55) rfl)) rfl
theorem wselects_RX10_yX10_observe_yX10_observe : Cond.selects RX10 yX10_observe yX10_observe ∈ wsG := mG (seg6 (List.mem_of_getElem? (i := 56) rfl)) rfl
theorem wcode_yX10_observe_cX10_observe_1_some_int : Cond.code yX10_observe cX10_observe 1 (some .int) ∈ wsG := mG (seg6 (List.mem_of_getElem? (i := 57) rfl)) rfl
theorem wconstantLong_RL_159_4294967295 : Cond.constantLong RL 159 4294967295 ∈ wsG := mG (seg6 (List.mem_of_getElem? (i := 179) rfl)) rfl
theorem wmethodLink_RL_161_yL_setObserved : Cond.methodLink RL 161 yL_setObserved ∈ wsG := mG (seg4 (List.mem_of_getElem? (i := 162) rfl)) rfl
theorem wcodeWith_yL_setObserved_cL_setObserved_6_some_int_0_10_13_13 : Cond.codeWith yL_setObserved cL_setObserved 6 (some .int) [(0, 10, 13, 13)] ∈ wsG := mG (seg4 (List.mem_of_getElem? (i := 164) rfl)) rfl
theorem wstatic_yL_setObserved : Cond.static yL_setObserved ∈ wsG := mG (seg4 (List.mem_of_getElem? (i := 163) rfl)) rfl
theorem wmethodLink_RL_164_yX10_setObserved : Cond.methodLink RL 164 yX10_setObserved ∈ wsG := mG (seg6 (List.mem_of_getElem? (i := 58) rfl)) rfl
theorem winstanceMethod_yX10_setObserved : Cond.instanceMethod yX10_setObserved ∈ wsG := mG (seg6 (List.mem_of_getElem? (i := 59) rfl)) rfl
theorem wselects_RX10_yX10_setObserved_yX10_setObserved : Cond.selects RX10 yX10_setObserved yX10_setObserved ∈ wsG := mG (seg6 (List.mem_of_getElem? (i := 60) rfl)) rfl
theorem wcode_yX10_setObserved_cX10_setObserved_6_some_long : Cond.code yX10_setObserved cX10_setObserved 6 (some .long) ∈ wsG := mG (seg6 (List.mem_of_getElem? (i := 61) rfl)) rfl
theorem wmethodLink_RL_165_yL_observed : Cond.methodLink RL 165 yL_observed ∈ wsG := mG (seg4 (List.mem_of_getElem? (i := 170) rfl)) rfl
theorem wcodeWith_yL_observed_cL_observed_4_some_int_0_8_11_13 : Cond.codeWith yL_observed cL_observed 4 (some .int) [(0, 8, 11, 13)] ∈ wsG := mG (seg4 (List.mem_of_getElem? (i := 172) rfl)) rfl
theorem wstatic_yL_observed : Cond.static yL_observed ∈ wsG := mG (seg4 (List.mem_of_getElem? (i := 171) rfl)) rfl
theorem wmethodLink_RL_167_yX10_observed : Cond.methodLink RL 167 yX10_observed ∈ wsG := mG (seg6 (List.mem_of_getElem? (i := 63) rfl)) rfl
theorem winstanceMethod_yX10_observed : Cond.instanceMethod yX10_observed ∈ wsG := mG (seg6 (List.mem_of_getElem? (i := 64) rfl)) rfl
theorem wselects_RX10_yX10_observed_yX10_observed : Cond.selects RX10 yX10_observed yX10_observed ∈ wsG := mG (seg6 (List.mem_of_getElem? (i := 65) rfl)) rfl
theorem wcode_yX10_observed_cX10_observed_2_some_long : Cond.code yX10_observed cX10_observed 2 (some .long) ∈ wsG := mG (seg6 (List.mem_of_getElem? (i := 66) rfl)) rfl
theorem wmethodLink_RL_168_yL_peel : Cond.methodLink RL 168 yL_peel ∈ wsG := mG (seg4 (List.mem_of_getElem? (i := 177) rfl)) rfl
theorem wcodeWith_yL_peel_cL_peel_4_some_int_0_9_12_13 : Cond.codeWith yL_peel cL_peel 4 (some .int) [(0, 9, 12, 13)] ∈ wsG := mG (seg4 (List.mem_of_getElem? (i := 179) rfl)) rfl
theorem wstatic_yL_peel : Cond.static yL_peel ∈ wsG := mG (seg4 (List.mem_of_getElem? (i := 178) rfl)) rfl
theorem wmethodLink_RL_170_yX10_peel : Cond.methodLink RL 170 yX10_peel ∈ wsG := mG (seg6 (List.mem_of_getElem? (i := 67) rfl)) rfl
theorem winstanceMethod_yX10_peel : Cond.instanceMethod yX10_peel ∈ wsG := mG (seg6 (List.mem_of_getElem? (i := 68) rfl)) rfl
theorem wselects_RX10_yX10_peel_yX10_peel : Cond.selects RX10 yX10_peel yX10_peel ∈ wsG := mG (seg6 (List.mem_of_getElem? (i := 69) rfl)) rfl
theorem wcode_yX10_peel_cX10_peel_2_some_int : Cond.code yX10_peel cX10_peel 2 (some .int) ∈ wsG := mG (seg6 (List.mem_of_getElem? (i := 70) rfl)) rfl
theorem wmethodLink_RL_171_yL_found : Cond.methodLink RL 171 yL_found ∈ wsG := mG (seg4 (List.mem_of_getElem? (i := 181) rfl)) rfl
theorem wcodeWith_yL_found_cL_found_5_some_int_0_10_13_13 : Cond.codeWith yL_found cL_found 5 (some .int) [(0, 10, 13, 13)] ∈ wsG := mG (seg4 (List.mem_of_getElem? (i := 183) rfl)) rfl
theorem wstatic_yL_found : Cond.static yL_found ∈ wsG := mG (seg4 (List.mem_of_getElem? (i := 182) rfl)) rfl
theorem wmethodLink_RL_173_yX10_found : Cond.methodLink RL 173 yX10_found ∈ wsG := mG (seg6 (List.mem_of_getElem? (i := 91) rfl)) rfl
theorem winstanceMethod_yX10_found : Cond.instanceMethod yX10_found ∈ wsG := mG (seg6 (List.mem_of_getElem? (i := 92) rfl)) rfl
theorem wselects_RX10_yX10_found_yX10_found : Cond.selects RX10 yX10_found yX10_found ∈ wsG := mG (seg6 (List.mem_of_getElem? (i := 93) rfl)) rfl
theorem wcode_yX10_found_cX10_found_3_some_int : Cond.code yX10_found cX10_found 3 (some .int) ∈ wsG := mG (seg6 (List.mem_of_getElem? (i := 94) rfl)) rfl
theorem wmethodLink_RL_174_yX9_adopt : Cond.methodLink RL 174 yX9_adopt ∈ wsG := mG (seg2 (List.mem_of_getElem? (i := 197) rfl)) rfl
theorem winstanceMethod_yX9_adopt : Cond.instanceMethod yX9_adopt ∈ wsG := mG (seg2 (List.mem_of_getElem? (i := 198) rfl)) rfl
theorem wselects_RX9_yX9_adopt_yX9_adopt : Cond.selects RX9 yX9_adopt yX9_adopt ∈ wsG := mG (seg2 (List.mem_of_getElem? (i := 199) rfl)) rfl
theorem wcode_yX9_adopt_cX9_adopt_1_some_int : Cond.code yX9_adopt cX9_adopt 1 (some .int) ∈ wsG := mG (seg2 (List.mem_of_getElem? (i := 200) rfl)) rfl
theorem wmethodLink_RL_177_yX10_adopt : Cond.methodLink RL 177 yX10_adopt ∈ wsG := mG (seg6 (List.mem_of_getElem? (i := 95) rfl)) rfl
theorem winstanceMethod_yX10_adopt : Cond.instanceMethod yX10_adopt ∈ wsG := mG (seg6 (List.mem_of_getElem? (i := 96) rfl)) rfl
theorem wselects_RX10_yX10_adopt_yX10_adopt : Cond.selects RX10 yX10_adopt yX10_adopt ∈ wsG := mG (seg6 (List.mem_of_getElem? (i := 97) rfl)) rfl
theorem wcode_yX10_adopt_cX10_adopt_1_some_int : Cond.code yX10_adopt cX10_adopt 1 (some .int) ∈ wsG := mG (seg6 (List.mem_of_getElem? (i := 98) rfl)) rfl
theorem wmethodLink_RL_178_yL_type : Cond.methodLink RL 178 yL_type ∈ wsG := mG (seg4 (List.mem_of_getElem? (i := 188) rfl)) rfl
theorem wcodeWith_yL_type_cL_type_4_some_int_0_9_12_13_0_9_15_15 : Cond.codeWith yL_type cL_type 4 (some .int) [(0, 9, 12, 13), (0, 9, 15, 15)] ∈ wsG := mG (seg4 (List.mem_of_getElem? (i := 190) rfl)) rfl
theorem wstatic_yL_type : Cond.static yL_type ∈ wsG := mG (seg4 (List.mem_of_getElem? (i := 189) rfl)) rfl
theorem wmethodLink_RL_180_yX10_type : Cond.methodLink RL 180 yX10_type ∈ wsG := mG (seg6 (List.mem_of_getElem? (i := 103) rfl)) rfl
theorem winstanceMethod_yX10_type : Cond.instanceMethod yX10_type ∈ wsG := mG (seg6 (List.mem_of_getElem? (i := 104) rfl)) rfl
theorem wselects_RX10_yX10_type_yX10_type : Cond.selects RX10 yX10_type yX10_type ∈ wsG := mG (seg6 (List.mem_of_getElem? (i := 105) rfl)) rfl
theorem wcode_yX10_type_cX10_type_2_some_int : Cond.code yX10_type cX10_type 2 (some .int) ∈ wsG := mG (seg6 (List.mem_of_getElem? (i := 106) rfl)) rfl
theorem wmethodLink_RL_181_yX9_clearScript : Cond.methodLink RL 181 yX9_clearScript ∈ wsG := mG (seg2 (List.mem_of_getElem? (i := 203) rfl)) rfl
theorem winstanceMethod_yX9_clearScript : Cond.instanceMethod yX9_clearScript ∈ wsG := mG (seg2 (List.mem_of_getElem? (i := 204) rfl)) rfl
theorem wselects_RX9_yX9_clearScript_yX9_clearScript : Cond.selects RX9 yX9_clearScript yX9_clearScript ∈ wsG := mG (seg2 (List.mem_of_getElem? (i := 205) rfl)) rfl
theorem wcode_yX9_clearScript_cX9_clearScript_2_some_int : Cond.code yX9_clearScript cX9_clearScript 2 (some .int) ∈ wsG := mG (seg2 (List.mem_of_getElem? (i := 206) rfl)) rfl
theorem wmethodLink_RL_184_yX10_clearScript : Cond.methodLink RL 184 yX10_clearScript ∈ wsG := mG (seg6 (List.mem_of_getElem? (i := 108) rfl)) rfl
theorem winstanceMethod_yX10_clearScript : Cond.instanceMethod yX10_clearScript ∈ wsG := mG (seg6 (List.mem_of_getElem? (i := 109) rfl)) rfl
theorem wselects_RX10_yX10_clearScript_yX10_clearScript : Cond.selects RX10 yX10_clearScript yX10_clearScript ∈ wsG := mG (seg6 (List.mem_of_getElem? (i := 110) rfl)) rfl
theorem wcode_yX10_clearScript_cX10_clearScript_2_some_int : Cond.code yX10_clearScript cX10_clearScript 2 (some .int) ∈ wsG := mG (seg6 (List.mem_of_getElem? (i := 111) rfl)) rfl
theorem wmethodLink_RL_185_yX9_run : Cond.methodLink RL 185 yX9_run ∈ wsG := mG (seg2 (List.mem_of_getElem? (i := 207) rfl)) rfl
theorem winstanceMethod_yX9_run : Cond.instanceMethod yX9_run ∈ wsG := mG (seg2 (List.mem_of_getElem? (i := 208) rfl)) rfl
theorem wselects_RX9_yX9_run_yX9_run : Cond.selects RX9 yX9_run yX9_run ∈ wsG := mG (seg2 (List.mem_of_getElem? (i := 209) rfl)) rfl
theorem wcode_yX9_run_cX9_run_4_some_int : Cond.code yX9_run cX9_run 4 (some .int) ∈ wsG := mG (seg2 (List.mem_of_getElem? (i := 210) rfl)) rfl
theorem wmethodLink_RL_188_yX10_run : Cond.methodLink RL 188 yX10_run ∈ wsG := mG (seg6 (List.mem_of_getElem? (i := 112) rfl)) rfl
theorem winstanceMethod_yX10_run : Cond.instanceMethod yX10_run ∈ wsG := mG (seg6 (List.mem_of_getElem? (i := 113) rfl)) rfl
theorem wselects_RX10_yX10_run_yX10_run : Cond.selects RX10 yX10_run yX10_run ∈ wsG := mG (seg6 (List.mem_of_getElem? (i := 114) rfl)) rfl
theorem wcode_yX10_run_cX10_run_2_some_int : Cond.code yX10_run cX10_run 2 (some .int) ∈ wsG := mG (seg6 (List.mem_of_getElem? (i := 115) rfl)) rfl
theorem wmethodLink_RL_189_yL_undo : Cond.methodLink RL 189 yL_undo ∈ wsG := mG (seg4 (List.mem_of_getElem? (i := 201) rfl)) rfl
theorem wcodeWith_yL_undo_cL_undo_3_some_int_0_8_11_15 : Cond.codeWith yL_undo cL_undo 3 (some .int) [(0, 8, 11, 15)] ∈ wsG := mG (seg4 (List.mem_of_getElem? (i := 203) rfl)) rfl
theorem wstatic_yL_undo : Cond.static yL_undo ∈ wsG := mG (seg4 (List.mem_of_getElem? (i := 202) rfl)) rfl
theorem wmethodLink_RL_192_yX10_undo : Cond.methodLink RL 192 yX10_undo ∈ wsG := mG (seg6 (List.mem_of_getElem? (i := 161) rfl)) rfl
theorem winstanceMethod_yX10_undo : Cond.instanceMethod yX10_undo ∈ wsG := mG (seg6 (List.mem_of_getElem? (i := 162) rfl)) rfl
theorem wselects_RX10_yX10_undo_yX10_undo : Cond.selects RX10 yX10_undo yX10_undo ∈ wsG := mG (seg6 (List.mem_of_getElem? (i := 163) rfl)) rfl
theorem wcode_yX10_undo_cX10_undo_2_some_int : Cond.code yX10_undo cX10_undo 2 (some .int) ∈ wsG := mG (seg6 (List.mem_of_getElem? (i := 164) rfl)) rfl
theorem wmethodLink_RL_193_yX9_digest : Cond.methodLink RL 193 yX9_digest ∈ wsG := mG (seg3 (List.mem_of_getElem? (i := 107) rfl)) rfl
theorem winstanceMethod_yX9_digest : Cond.instanceMethod yX9_digest ∈ wsG := mG (seg3 (List.mem_of_getElem? (i := 108) rfl)) rfl
theorem wselects_RX9_yX9_digest_yX9_digest : Cond.selects RX9 yX9_digest yX9_digest ∈ wsG := mG (seg3 (List.mem_of_getElem? (i := 109) rfl)) rfl
theorem wcode_yX9_digest_cX9_digest_4_some_long : Cond.code yX9_digest cX9_digest 4 (some .long) ∈ wsG := mG (seg3 (List.mem_of_getElem? (i := 110) rfl)) rfl
theorem wmethodLink_RL_197_yX10_digest : Cond.methodLink RL 197 yX10_digest ∈ wsG := mG (seg6 (List.mem_of_getElem? (i := 165) rfl)) rfl
theorem winstanceMethod_yX10_digest : Cond.instanceMethod yX10_digest ∈ wsG := mG (seg6 (List.mem_of_getElem? (i := 166) rfl)) rfl
theorem wselects_RX10_yX10_digest_yX10_digest : Cond.selects RX10 yX10_digest yX10_digest ∈ wsG := mG (seg6 (List.mem_of_getElem? (i := 167) rfl)) rfl
theorem wcode_yX10_digest_cX10_digest_2_some_long : Cond.code yX10_digest cX10_digest 2 (some .long) ∈ wsG := mG (seg6 (List.mem_of_getElem? (i := 168) rfl)) rfl
/-! THE LAW'S BODY -/
abbrev ocell (o9 : Nat) (T : Nat → ClassId) (c : Nat → Int64) : Nat × va_E := (o9, .inl (T 0, 1, .inr (.inl c)))
/-- the script stands where it stood -/
def ScrOK (X : CxT) (b L : Nat) (xs : Nat → Int32) : Prop := match X with
  | (p, l, e, R, s, m, args, below, meth, c, D, A, H0, nL, Q) => va_X b L xs s H0 ∧ b < H0.size ∧ ¬ A b
def bz (p : Int32) : Int32 := if p = 0 then 0 else 1
def oz (p q : Int32) : Int64 := (p.toInt64 <<< ((32 : Int32).toInt64 &&& 63)) ||| (q.toInt64 &&& 4294967295)
section LAW2
variable {X : CxT} {T : Nat → ClassId} {E : Nat → Nat → Nat} {ws wl wr wl' wr' : va_W} {cc : ByteArray} {own : String} {ret : Option FieldType} {nl fr lo k n ix : Nat} {lv : List (Nat × Value)} {pc : Nat} {rest As : List Value} {y : MethodName} {cc' : ByteArray} {nL' : Nat} {ret' : Option FieldType} {rm : Room} {hh : List (Nat × Nat × Nat × Nat)} {b L x m o9 : Nat} {xs : Nat → Int32} {i : Int32} {c c' : Nat → Int64} {vb : Value} {kx : Int32}
theorem l_slen (C : Cx X (SFG E) T cc own ret nl fr lo) (hs : ScrOK X b L xs) (hdg : decode cc pc = .ok (.arraylength, 1)) (kk : V X k n ws lv (pc + 1) (.int (Int32.ofNat L) :: rest)) : V X k n ws lv pc (.ref b :: rest) := by
  obtain ⟨p, l, e, R, s, m, args, below, meth, c, D, A, H0, nL, Q⟩ := X
  obtain ⟨hx, hb, hml, hown, hts, hK, hlocks, hr, hA, hnl, hfr, hlo, htr, hG, hGs, hH0⟩ := C
  intro H locs ls hP hD hS hl
  exact va_slen hx hb hs.1 hs.2.1 hs.2.2 hS hdg (kk H locs ls hP hD hS hl)
theorem l_sld {j : Int32} (C : Cx X (SFG E) T cc own ret nl fr lo) (hs : ScrOK X b L xs) (hin : vp_in j L) (hdg : decode cc pc = .ok (.iaload, 1)) (kk : V X k n ws lv (pc + 1) (.int (xs j.toNatClampNeg) :: rest)) : V X k n ws lv pc (.int j :: .ref b :: rest) := by
  obtain ⟨p, l, e, R, s, m, args, below, meth, c, D, A, H0, nL, Q⟩ := X
  obtain ⟨hx, hb, hml, hown, hts, hK, hlocks, hr, hA, hnl, hfr, hlo, htr, hG, hGs, hH0⟩ := C
  intro H locs ls hP hD hS hl
  exact va_sld hx hb hs.1 hs.2.1 hs.2.2 hS hin hdg (kk H locs ls hP hD hS hl)
theorem l_arg (jn : Nat) {jc : Int} {j : Int32} (hj : Int32.ofInt jc = j) (hjn : j.toInt = jn ∧ jn ≤ 3) (C : Cx X (SFG E) T cc own ret nl fr lo) (hs : ScrOK X b L xs) (h0 : 0 ≤ i.toInt) (h1 : i.toInt + 3 < L) (hL : L ≤ 2048) (e0 : lv[0]? = some (0, .ref b)) (e4 : lv[4]? = some (4, .int i)) (d0 : decode cc pc = .ok (.aload_n 0, 1)) (d1 : decode cc (pc + 1) = .ok (.iload 4, 2)) (d2 : decode cc (pc + 1 + 2) = .ok (.iconst jc, 1)) (d3 : decode cc (pc + 1 + 2 + 1) = .ok (.iadd, 1)) (d4 : decode cc (pc + 1 + 2 + 1 + 1) = .ok (.iaload, 1))
    (kk : V X k n ws lv (pc + 1 + 2 + 1 + 1 + 1) (.int (xs (i.toNatClampNeg + jn)) :: rest)) : V X k n ws lv pc rest := by
  refine v_aload_n 0 C d0 rfl e0 ?_
  refine v_iload 4 C d1 e4 ?_
  refine v_iconst (v := j) C d2 hj ?_
  refine v_iadd (K := fun z => z) (o := i + j) C d3 rfl (fun z hz => ?_)
  subst hz
  have e : (i + j).toInt = i.toInt + jn := by
    rw [Int32.toInt_add, hjn.1]
    exact Int.bmod_eq_of_le (by have := hjn.2; omega) (by have := hjn.2; omega)
  have e2 : (i + j).toNatClampNeg = i.toNatClampNeg + jn := by
    show (i + j).toInt.toNat = i.toInt.toNat + jn
    omega
  refine l_sld C hs (vp_in_iff.mpr ⟨?_, ?_⟩) d4 ?_
  · omega
  · have := hjn.2
    omega
  · rw [e2]
    exact kk
theorem l_bz (t1 t2 : Nat) {p : Int32} {o1 o2 : Int} (C : Cx X (SFG E) T cc own ret nl fr lo) (d0 : decode cc pc = .ok (.ifCond .eq o1, 3)) (ht : (pc : Int) + o1 = (t1 : Int)) (d1 : decode cc (pc + 3) = .ok (.iconst 1, 1)) (d2 : decode cc (pc + 3 + 1) = .ok (.goto o2, 3)) (ht2 : ((pc + 3 + 1 : Nat) : Int) + o2 = (t2 : Int)) (d3 : decode cc t1 = .ok (.iconst 0, 1)) (h12 : t1 + 1 = t2) (kk : V X k n ws lv t2 (.int (bz p) :: rest)) : V X k n ws lv pc (.int p :: rest) := by
  refine v_if_eq (e1 := ()) (e2 := ()) (o := ()) t1 C d0 ht (by split <;> rfl) (fun h _ => ?_) (fun h _ => ?_)
  · refine v_iconst (v := 0) C d3 (by decide) ?_
    rw [h12]
    rw [show bz p = 0 from if_pos h] at kk
    exact kk
  · refine v_iconst (v := 1) C d1 (by decide) ?_
    refine v_goto t2 C d2 ht2 ?_
    rw [show bz p = 1 from if_neg h] at kk
    exact kk
theorem l_out0 {co : Nat → Int64} (C : Cx X (SFG E) T cc own ret nl fr lo) (hdg : decode cc pc = .ok (.laload, 1)) (kk : V X k n ((wl ++ [ocell o9 T co]) ++ wr) lv (pc + 1) (.long (co 0) :: rest)) : V X k n ((wl ++ [ocell o9 T co]) ++ wr) lv pc (.int 0 :: .ref o9 :: rest) := by
  have hq : ((wl ++ [ocell o9 T co]) ++ wr)[wl.length]? = some (o9, .inl (T 0, 1, .inr (.inl co))) := by simp
  obtain ⟨p, l, e, R, s, m, args, below, meth, c, D, A, H0, nL, Q⟩ := X
  obtain ⟨hx, hb, hml, hown, hts, hK, hlocks, hr, hA, hnl, hfr, hlo, htr, hG, hGs, hH0⟩ := C
  intro H locs ls hP hD hS hl
  exact va_lald (i := 0) hx hb hK hP wl.length 0 hq rfl (vp_in_iff.mpr (by decide)) hdg (kk H locs ls hP hD hS hl)
theorem l_ref (np : Nat) (C : Cx X (SFG E) T cc own ret nl fr lo) (hcap : CapOK X k n) (hM : ∀ D, MetM (SFG E) y cc' nL' ret' rm D T (.ref m :: As) wr (some vb) wr') (hq : ∃ fs, wr[0]? = some (m, .inr (8, fs))) (gw : GoodIn wsG (wsV own ix RX10 y (Cond.code y cc' nL' ret' :: wsG)))
    (hd : y.cls = RX10 ∧ y.cls ≠ "java/lang/invoke/MethodHandle" ∧ y.cls ≠ "java/lang/invoke/VarHandle" ∧ (parseMethodDescriptor y.desc).map (fun d => d.parameters.length) = some np) (hR : rm.frames + 1 ≤ fr ∧ 8 + (nL' + 11) + rm.locals ≤ lo) (hrm : rm.cells = 0 ∧ rm.slots = 0)
    (hnp : As.length = np) (hst : (rest.map fun v => v.category).sum ≤ 8) (hdg : decode cc pc = .ok (.invokevirtual ix, 3)) (kk : V X k n (ws ++ wr') lv (pc + 3) (vb :: rest)) : V X k n (ws ++ wr) lv pc (As.reverse ++ .ref m :: rest) := by
  obtain ⟨fs, hq⟩ := hq
  refine v_perm List.perm_append_comm ?_
  refine v_callV (q0 := 0) (ci := 8) (fs := fs) (TT := TX10) (NN := 28) np C hcap (fun D => (hM D).frame ws) gw hd hR hrm ?_ rfl hnp hst hdg (v_perm List.perm_append_comm kk)
  exact List.getElem?_append_left (List.getElem?_eq_some_iff.mp hq).1 ▸ hq
theorem l_cls (np : Nat) (C : Cx X (SFG E) T cc own ret nl fr lo) (hcap : CapOK X k n) (hM : ∀ D, MetM (SFG E) y cc' nL' ret' rm D T (.ref x :: As) wl (some vb) wl') (hq : ∃ fs, wl[0]? = some (x, .inr (7, fs))) (gw : GoodIn wsG (wsV own ix RX9 y (Cond.code y cc' nL' ret' :: wsG)))
    (hd : y.cls = RX9 ∧ y.cls ≠ "java/lang/invoke/MethodHandle" ∧ y.cls ≠ "java/lang/invoke/VarHandle" ∧ (parseMethodDescriptor y.desc).map (fun d => d.parameters.length) = some np) (hR : rm.frames + 1 ≤ fr ∧ 8 + (nL' + 11) + rm.locals ≤ lo) (hrm : rm.cells = 0 ∧ rm.slots = 0)
    (hnp : As.length = np) (hst : (rest.map fun v => v.category).sum ≤ 8) (hdg : decode cc pc = .ok (.invokevirtual ix, 3)) (kk : V X k n ((wl' ++ [ocell o9 T c]) ++ wr) lv (pc + 3) (vb :: rest)) : V X k n ((wl ++ [ocell o9 T c]) ++ wr) lv pc (As.reverse ++ .ref x :: rest) := by
  obtain ⟨fs, hq⟩ := hq
  rw [List.append_assoc] at kk ⊢
  refine v_callV (q0 := 0) (ci := 7) (fs := fs) (TT := TX9) (NN := 7) np C hcap (fun D => (hM D).frame ([ocell o9 T c] ++ wr)) gw hd hR hrm ?_ rfl hnp hst hdg kk
  exact List.getElem?_append_left (List.getElem?_eq_some_iff.mp hq).1 ▸ hq
theorem l_wrap (np : Nat) (C : Cx X (SFG E) T cc own ret nl fr lo) (hcap : CapOK X (k + 1) (n + 6)) (hM : ∀ D, MetW (SFG E) y cc' nL' ret' hh rm D T As (wl ++ [ocell o9 T c]) (some (.int kx)) (wl' ++ [ocell o9 T c'])) (hl9 : Cond.methodLink own ix y ∈ wsG) (hcode : Cond.codeWith y cc' nL' ret' hh ∈ wsG) (hstat : Cond.static y ∈ wsG) (hini : Cond.initialized y.cls ∈ wsG)
    (hd : y.cls ≠ "java/lang/invoke/MethodHandle" ∧ y.cls ≠ "java/lang/invoke/VarHandle" ∧ (parseMethodDescriptor y.desc).map (fun d => d.parameters.length) = some np) (hR : rm.frames + 1 ≤ fr ∧ 8 + (nL' + 11) + rm.locals ≤ lo) (hrm : rm.cells = 1 ∧ rm.slots = 6)
    (hnp : As.length = np) (hst : (rest.map fun v => v.category).sum ≤ 8) (hdg : decode cc pc = .ok (.invokestatic ix, 3)) (kk : V X (k + 1) (n + 6) ((wl' ++ [ocell o9 T c']) ++ wr) lv (pc + 3) (.int kx :: rest)) : V X k n ((wl ++ [ocell o9 T c]) ++ wr) lv pc (As.reverse ++ rest) :=
  v_callW np C hcap (fun D => (hM D).frame wr) hl9 hcode hstat hini hd hR hrm hnp hst hdg kk
end LAW2
section LAW3
variable {X : CxT} {T : Nat → ClassId} {E : Nat → Nat → Nat} {wl wr : va_W} {k n b L x m o9 : Nat} {xs : Nat → Int32} {i : Int32} {c : Nat → Int64} {I : va_W → va_W → Prop}
def FirstOK (x m : Nat) (I : va_W → va_W → Prop) : Prop := ∀ wl wr, I wl wr → (∃ fs, wl[0]? = some (x, .inr (7, fs))) ∧ ∃ fs, wr[0]? = some (m, .inr (8, fs))
def St_addPart (E : Nat → Nat → Nat) (T : Nat → ClassId) (x m o9 : Nat) (I : va_W → va_W → Prop) : Prop := ∀ (wl wr : va_W) (c : Nat → Int64) (x1 : Int32) (x2 : Int32), I wl wr → ∃ (k : Int32) (wl' : va_W) (c' : Nat → Int64) (b : Int32) (wr' : va_W), (∀ D, MetW (SFG E) yL_addPart cL_addPart 5 (some .int) [(0, 10, 13, 13), (0, 10, 17, 15)] { frames := 9, cells := 1, slots := 6, locals := 190 } D T [.ref x, .int x1, .int x2, .ref o9] (wl ++ [ocell o9 T c]) (some (.int k)) (wl' ++ [ocell o9 T c'])) ∧ (∀ D, MetM (SFG E) yX10_addPart cX10_addPart 3 (some .int) { frames := 3, cells := 0, slots := 0, locals := 68 } D T [.ref m, .int x1, .int x2] wr (some (.int b)) wr') ∧ (∀ D, MetM (SFG E) yX10_thrown cX10_thrown 1 (some .int) { frames := 0, cells := 0, slots := 0, locals := 0 } D T [.ref m] wr' (some (.int k)) wr') ∧ (k = 0 → c' 0 = b.toInt64) ∧ I wl' wr'
set_option maxRecDepth 100000 in
set_option maxHeartbeats 2000000 in
theorem Lk_addPart (C : Cx X (SFG E) T cL_law RL (some .boolean) 8 12 460) (hs : ScrOK X b L xs) (hcap : CapOK X (k + 1) (n + 6)) (hI : FirstOK x m I) (hi : I wl wr) (h0 : 0 ≤ i.toInt) (h1 : i.toInt + 3 < L) (hL : L ≤ 2048) (st : St_addPart E T x m o9 I) (kk : ∀ wl' wr' c', I wl' wr' → V X (k + 1) (n + 6) ((wl' ++ [ocell o9 T c']) ++ wr') [(0, .ref b), (1, .ref x), (2, .ref m), (3, .ref o9), (4, .int i)] 1636 []) : V X k n ((wl ++ [ocell o9 T c]) ++ wr) [(0, .ref b), (1, .ref x), (2, .ref m), (3, .ref o9), (4, .int i)] 168 [] := by
  refine v_aload_n 1 C dL_law_168 rfl rfl ?_
  refine l_arg 1 (jc := 1) (j := 1) (by decide) (by decide) C hs h0 h1 hL rfl rfl dL_law_169 dL_law_170 dL_law_172 dL_law_173 dL_law_174 ?_
  refine l_arg 2 (jc := 2) (j := 2) (by decide) (by decide) C hs h0 h1 hL rfl rfl dL_law_175 dL_law_176 dL_law_178 dL_law_179 dL_law_180 ?_
  refine v_aload_n 3 C dL_law_181 rfl rfl ?_
  obtain ⟨kx, wl9, c9, b9, wr9, hM1, hM2, hM3, hk0, hi9⟩ := st wl wr c (xs (i.toNatClampNeg + 1)) (xs (i.toNatClampNeg + 2)) hi
  refine l_wrap (As := [.ref x, .int (xs (i.toNatClampNeg + 1)), .int (xs (i.toNatClampNeg + 2)), .ref o9]) (rest := []) 4 C hcap hM1 wmethodLink_RL_89_yL_addPart wcodeWith_yL_addPart_cL_addPart_5_some_int_0_10_13_13_0_10_17_15 wstatic_yL_addPart winitialized_RL (by decide +kernel) (by decide) ⟨rfl, rfl⟩ rfl (by decide) dL_law_182 ?_
  refine v_istore [(0, .ref b), (1, .ref x), (2, .ref m), (3, .ref o9), (4, .int i), (5, .int kx)] [1, 2, 3, 4, 5, 0] C dL_law_185 (by decide) rfl ?_
  refine v_aload_n 2 C dL_law_187 rfl rfl ?_
  refine l_arg 1 (jc := 1) (j := 1) (by decide) (by decide) C hs h0 h1 hL rfl rfl dL_law_188 dL_law_189 dL_law_191 dL_law_192 dL_law_193 ?_
  refine l_arg 2 (jc := 2) (j := 2) (by decide) (by decide) C hs h0 h1 hL rfl rfl dL_law_194 dL_law_195 dL_law_197 dL_law_198 dL_law_199 ?_
  refine l_ref (As := [.int (xs (i.toNatClampNeg + 1)), .int (xs (i.toNatClampNeg + 2))]) (rest := []) 2 C (hcap.mono (Nat.le_refl _) (Nat.le_refl _)) hM2 (hI _ _ hi).2 (goodV wmethodLink_RL_94_yX10_addPart winstanceMethod_yX10_addPart wselects_RX10_yX10_addPart_yX10_addPart winitialized_RX10 wcode_yX10_addPart_cX10_addPart_3_some_int) (by decide +kernel) (by decide) ⟨rfl, rfl⟩ rfl (by decide) dL_law_200 ?_
  refine v_istore [(0, .ref b), (1, .ref x), (2, .ref m), (3, .ref o9), (4, .int i), (5, .int kx), (6, .int b9)] [1, 2, 3, 4, 5, 6, 0] C dL_law_203 (by decide) rfl ?_
  refine v_aload_n 2 C dL_law_205 rfl rfl ?_
  refine l_ref (As := []) (rest := []) 0 C (hcap.mono (Nat.le_refl _) (Nat.le_refl _)) hM3 (hI _ _ hi9).2 (goodV wmethodLink_RL_95_yX10_thrown winstanceMethod_yX10_thrown wselects_RX10_yX10_thrown_yX10_thrown winitialized_RX10 wcode_yX10_thrown_cX10_thrown_1_some_int) (by decide +kernel) (by decide) ⟨rfl, rfl⟩ rfl (by decide) dL_law_206 ?_
  refine v_iload 5 C dL_law_209 rfl ?_
  refine v_icmp_eq (e1 := ()) (e2 := ()) (o := ()) 216 C dL_law_211 (by decide) (by split <;> rfl) (fun _ _ => ?_) (fun h9 _ => absurd rfl h9)
  refine v_iload 5 C dL_law_216 rfl ?_
  refine v_if_ne (e1 := ()) (e2 := ()) (o := ()) 233 C dL_law_218 (by decide) (by split <;> rfl) (fun h9 _ => ?_) (fun _ _ => ?_)
  · refine v_aload_n 3 C dL_law_221 rfl rfl ?_
    refine v_iconst (v := 0) C dL_law_222 (by decide) ?_
    refine l_out0 C dL_law_223 ?_
    rw [hk0 h9]
    refine v_iload 6 C dL_law_224 rfl ?_
    refine v_i2l (K := fun z => z) (o := b9.toInt64) C dL_law_226 rfl (fun z hz => ?_)
    subst hz
    refine v_lcmp_eq (e1 := ()) (e2 := ()) (o := ()) 233 C dL_law_227 dL_law_228 (by decide) (by split <;> rfl) (fun _ _ => ?_) (fun h8 _ => absurd rfl h8)
    refine v_goto 1636 C dL_law_233 (by decide) ?_
    refine v_lv [(0, .ref b), (1, .ref x), (2, .ref m), (3, .ref o9), (4, .int i)] [0, 1, 2, 3, 4] rfl ?_
    exact kk _ _ _ hi9
  · refine v_goto 1636 C dL_law_233 (by decide) ?_
    refine v_lv [(0, .ref b), (1, .ref x), (2, .ref m), (3, .ref o9), (4, .int i)] [0, 1, 2, 3, 4] rfl ?_
    exact kk _ _ _ hi9
def St_setPart (E : Nat → Nat → Nat) (T : Nat → ClassId) (x m o9 : Nat) (I : va_W → va_W → Prop) : Prop := ∀ (wl wr : va_W) (c : Nat → Int64) (x1 : Int32) (x2 : Int32) (x3 : Int32), I wl wr → ∃ (k : Int32) (wl' : va_W) (c' : Nat → Int64) (b : Int32) (wr' : va_W), (∀ D, MetW (SFG E) yL_setPart cL_setPart 6 (some .int) [(0, 12, 15, 21), (0, 12, 19, 13)] { frames := 9, cells := 1, slots := 6, locals := 191 } D T [.ref x, .int x1, .int x2, .int x3, .ref o9] (wl ++ [ocell o9 T c]) (some (.int k)) (wl' ++ [ocell o9 T c'])) ∧ (∀ D, MetM (SFG E) yX10_setPart cX10_setPart 4 (some .int) { frames := 3, cells := 0, slots := 0, locals := 69 } D T [.ref m, .int x1, .int x2, .int x3] wr (some (.int b)) wr') ∧ (∀ D, MetM (SFG E) yX10_thrown cX10_thrown 1 (some .int) { frames := 0, cells := 0, slots := 0, locals := 0 } D T [.ref m] wr' (some (.int k)) wr') ∧ (k = 0 → c' 0 = b.toInt64) ∧ I wl' wr'
set_option maxRecDepth 100000 in
set_option maxHeartbeats 2000000 in
theorem Lk_setPart (C : Cx X (SFG E) T cL_law RL (some .boolean) 8 12 460) (hs : ScrOK X b L xs) (hcap : CapOK X (k + 1) (n + 6)) (hI : FirstOK x m I) (hi : I wl wr) (h0 : 0 ≤ i.toInt) (h1 : i.toInt + 3 < L) (hL : L ≤ 2048) (st : St_setPart E T x m o9 I) (kk : ∀ wl' wr' c', I wl' wr' → V X (k + 1) (n + 6) ((wl' ++ [ocell o9 T c']) ++ wr') [(0, .ref b), (1, .ref x), (2, .ref m), (3, .ref o9), (4, .int i)] 1636 []) : V X k n ((wl ++ [ocell o9 T c]) ++ wr) [(0, .ref b), (1, .ref x), (2, .ref m), (3, .ref o9), (4, .int i)] 236 [] := by
  refine v_aload_n 1 C dL_law_236 rfl rfl ?_
  refine l_arg 1 (jc := 1) (j := 1) (by decide) (by decide) C hs h0 h1 hL rfl rfl dL_law_237 dL_law_238 dL_law_240 dL_law_241 dL_law_242 ?_
  refine l_arg 2 (jc := 2) (j := 2) (by decide) (by decide) C hs h0 h1 hL rfl rfl dL_law_243 dL_law_244 dL_law_246 dL_law_247 dL_law_248 ?_
  refine l_arg 3 (jc := 3) (j := 3) (by decide) (by decide) C hs h0 h1 hL rfl rfl dL_law_249 dL_law_250 dL_law_252 dL_law_253 dL_law_254 ?_
  refine v_aload_n 3 C dL_law_255 rfl rfl ?_
  obtain ⟨kx, wl9, c9, b9, wr9, hM1, hM2, hM3, hk0, hi9⟩ := st wl wr c (xs (i.toNatClampNeg + 1)) (xs (i.toNatClampNeg + 2)) (xs (i.toNatClampNeg + 3)) hi
  refine l_wrap (As := [.ref x, .int (xs (i.toNatClampNeg + 1)), .int (xs (i.toNatClampNeg + 2)), .int (xs (i.toNatClampNeg + 3)), .ref o9]) (rest := []) 5 C hcap hM1 wmethodLink_RL_98_yL_setPart wcodeWith_yL_setPart_cL_setPart_6_some_int_0_12_15_21_0_12_19_13 wstatic_yL_setPart winitialized_RL (by decide +kernel) (by decide) ⟨rfl, rfl⟩ rfl (by decide) dL_law_256 ?_
  refine v_istore [(0, .ref b), (1, .ref x), (2, .ref m), (3, .ref o9), (4, .int i), (5, .int kx)] [1, 2, 3, 4, 5, 0] C dL_law_259 (by decide) rfl ?_
  refine v_aload_n 2 C dL_law_261 rfl rfl ?_
  refine l_arg 1 (jc := 1) (j := 1) (by decide) (by decide) C hs h0 h1 hL rfl rfl dL_law_262 dL_law_263 dL_law_265 dL_law_266 dL_law_267 ?_
  refine l_arg 2 (jc := 2) (j := 2) (by decide) (by decide) C hs h0 h1 hL rfl rfl dL_law_268 dL_law_269 dL_law_271 dL_law_272 dL_law_273 ?_
  refine l_arg 3 (jc := 3) (j := 3) (by decide) (by decide) C hs h0 h1 hL rfl rfl dL_law_274 dL_law_275 dL_law_277 dL_law_278 dL_law_279 ?_
  refine l_ref (As := [.int (xs (i.toNatClampNeg + 1)), .int (xs (i.toNatClampNeg + 2)), .int (xs (i.toNatClampNeg + 3))]) (rest := []) 3 C (hcap.mono (Nat.le_refl _) (Nat.le_refl _)) hM2 (hI _ _ hi).2 (goodV wmethodLink_RL_101_yX10_setPart winstanceMethod_yX10_setPart wselects_RX10_yX10_setPart_yX10_setPart winitialized_RX10 wcode_yX10_setPart_cX10_setPart_4_some_int) (by decide +kernel) (by decide) ⟨rfl, rfl⟩ rfl (by decide) dL_law_280 ?_
  refine v_istore [(0, .ref b), (1, .ref x), (2, .ref m), (3, .ref o9), (4, .int i), (5, .int kx), (6, .int b9)] [1, 2, 3, 4, 5, 6, 0] C dL_law_283 (by decide) rfl ?_
  refine v_aload_n 2 C dL_law_285 rfl rfl ?_
  refine l_ref (As := []) (rest := []) 0 C (hcap.mono (Nat.le_refl _) (Nat.le_refl _)) hM3 (hI _ _ hi9).2 (goodV wmethodLink_RL_95_yX10_thrown winstanceMethod_yX10_thrown wselects_RX10_yX10_thrown_yX10_thrown winitialized_RX10 wcode_yX10_thrown_cX10_thrown_1_some_int) (by decide +kernel) (by decide) ⟨rfl, rfl⟩ rfl (by decide) dL_law_286 ?_
  refine v_iload 5 C dL_law_289 rfl ?_
  refine v_icmp_eq (e1 := ()) (e2 := ()) (o := ()) 296 C dL_law_291 (by decide) (by split <;> rfl) (fun _ _ => ?_) (fun h9 _ => absurd rfl h9)
  refine v_iload 5 C dL_law_296 rfl ?_
  refine v_if_ne (e1 := ()) (e2 := ()) (o := ()) 313 C dL_law_298 (by decide) (by split <;> rfl) (fun h9 _ => ?_) (fun _ _ => ?_)
  · refine v_aload_n 3 C dL_law_301 rfl rfl ?_
    refine v_iconst (v := 0) C dL_law_302 (by decide) ?_
    refine l_out0 C dL_law_303 ?_
    rw [hk0 h9]
    refine v_iload 6 C dL_law_304 rfl ?_
    refine v_i2l (K := fun z => z) (o := b9.toInt64) C dL_law_306 rfl (fun z hz => ?_)
    subst hz
    refine v_lcmp_eq (e1 := ()) (e2 := ()) (o := ()) 313 C dL_law_307 dL_law_308 (by decide) (by split <;> rfl) (fun _ _ => ?_) (fun h8 _ => absurd rfl h8)
    refine v_goto 1636 C dL_law_313 (by decide) ?_
    refine v_lv [(0, .ref b), (1, .ref x), (2, .ref m), (3, .ref o9), (4, .int i)] [0, 1, 2, 3, 4] rfl ?_
    exact kk _ _ _ hi9
  · refine v_goto 1636 C dL_law_313 (by decide) ?_
    refine v_lv [(0, .ref b), (1, .ref x), (2, .ref m), (3, .ref o9), (4, .int i)] [0, 1, 2, 3, 4] rfl ?_
    exact kk _ _ _ hi9
def St_removePart (E : Nat → Nat → Nat) (T : Nat → ClassId) (x m o9 : Nat) (I : va_W → va_W → Prop) : Prop := ∀ (wl wr : va_W) (c : Nat → Int64) (x1 : Int32), I wl wr → ∃ (k : Int32) (wl' : va_W) (c' : Nat → Int64) (b : Int32) (wr' : va_W), (∀ D, MetW (SFG E) yL_removePart cL_removePart 4 (some .int) [(0, 9, 12, 21)] { frames := 9, cells := 1, slots := 6, locals := 189 } D T [.ref x, .int x1, .ref o9] (wl ++ [ocell o9 T c]) (some (.int k)) (wl' ++ [ocell o9 T c'])) ∧ (∀ D, MetM (SFG E) yX10_removePart cX10_removePart 2 (some .int) { frames := 2, cells := 0, slots := 0, locals := 46 } D T [.ref m, .int x1] wr (some (.int b)) wr') ∧ (∀ D, MetM (SFG E) yX10_thrown cX10_thrown 1 (some .int) { frames := 0, cells := 0, slots := 0, locals := 0 } D T [.ref m] wr' (some (.int k)) wr') ∧ (k = 0 → c' 0 = b.toInt64) ∧ I wl' wr'
set_option maxRecDepth 100000 in
set_option maxHeartbeats 2000000 in
theorem Lk_removePart (C : Cx X (SFG E) T cL_law RL (some .boolean) 8 12 460) (hs : ScrOK X b L xs) (hcap : CapOK X (k + 1) (n + 6)) (hI : FirstOK x m I) (hi : I wl wr) (h0 : 0 ≤ i.toInt) (h1 : i.toInt + 3 < L) (hL : L ≤ 2048) (st : St_removePart E T x m o9 I) (kk : ∀ wl' wr' c', I wl' wr' → V X (k + 1) (n + 6) ((wl' ++ [ocell o9 T c']) ++ wr') [(0, .ref b), (1, .ref x), (2, .ref m), (3, .ref o9), (4, .int i)] 1636 []) : V X k n ((wl ++ [ocell o9 T c]) ++ wr) [(0, .ref b), (1, .ref x), (2, .ref m), (3, .ref o9), (4, .int i)] 316 [] := by
  refine v_aload_n 1 C dL_law_316 rfl rfl ?_
  refine l_arg 1 (jc := 1) (j := 1) (by decide) (by decide) C hs h0 h1 hL rfl rfl dL_law_317 dL_law_318 dL_law_320 dL_law_321 dL_law_322 ?_
  refine v_aload_n 3 C dL_law_323 rfl rfl ?_
  obtain ⟨kx, wl9, c9, b9, wr9, hM1, hM2, hM3, hk0, hi9⟩ := st wl wr c (xs (i.toNatClampNeg + 1)) hi
  refine l_wrap (As := [.ref x, .int (xs (i.toNatClampNeg + 1)), .ref o9]) (rest := []) 3 C hcap hM1 wmethodLink_RL_102_yL_removePart wcodeWith_yL_removePart_cL_removePart_4_some_int_0_9_12_21 wstatic_yL_removePart winitialized_RL (by decide +kernel) (by decide) ⟨rfl, rfl⟩ rfl (by decide) dL_law_324 ?_
  refine v_istore [(0, .ref b), (1, .ref x), (2, .ref m), (3, .ref o9), (4, .int i), (5, .int kx)] [1, 2, 3, 4, 5, 0] C dL_law_327 (by decide) rfl ?_
  refine v_aload_n 2 C dL_law_329 rfl rfl ?_
  refine l_arg 1 (jc := 1) (j := 1) (by decide) (by decide) C hs h0 h1 hL rfl rfl dL_law_330 dL_law_331 dL_law_333 dL_law_334 dL_law_335 ?_
  refine l_ref (As := [.int (xs (i.toNatClampNeg + 1))]) (rest := []) 1 C (hcap.mono (Nat.le_refl _) (Nat.le_refl _)) hM2 (hI _ _ hi).2 (goodV wmethodLink_RL_105_yX10_removePart winstanceMethod_yX10_removePart wselects_RX10_yX10_removePart_yX10_removePart winitialized_RX10 wcode_yX10_removePart_cX10_removePart_2_some_int) (by decide +kernel) (by decide) ⟨rfl, rfl⟩ rfl (by decide) dL_law_336 ?_
  refine v_istore [(0, .ref b), (1, .ref x), (2, .ref m), (3, .ref o9), (4, .int i), (5, .int kx), (6, .int b9)] [1, 2, 3, 4, 5, 6, 0] C dL_law_339 (by decide) rfl ?_
  refine v_aload_n 2 C dL_law_341 rfl rfl ?_
  refine l_ref (As := []) (rest := []) 0 C (hcap.mono (Nat.le_refl _) (Nat.le_refl _)) hM3 (hI _ _ hi9).2 (goodV wmethodLink_RL_95_yX10_thrown winstanceMethod_yX10_thrown wselects_RX10_yX10_thrown_yX10_thrown winitialized_RX10 wcode_yX10_thrown_cX10_thrown_1_some_int) (by decide +kernel) (by decide) ⟨rfl, rfl⟩ rfl (by decide) dL_law_342 ?_
  refine v_iload 5 C dL_law_345 rfl ?_
  refine v_icmp_eq (e1 := ()) (e2 := ()) (o := ()) 352 C dL_law_347 (by decide) (by split <;> rfl) (fun _ _ => ?_) (fun h9 _ => absurd rfl h9)
  refine v_iload 5 C dL_law_352 rfl ?_
  refine v_if_ne (e1 := ()) (e2 := ()) (o := ()) 369 C dL_law_354 (by decide) (by split <;> rfl) (fun h9 _ => ?_) (fun _ _ => ?_)
  · refine v_aload_n 3 C dL_law_357 rfl rfl ?_
    refine v_iconst (v := 0) C dL_law_358 (by decide) ?_
    refine l_out0 C dL_law_359 ?_
    rw [hk0 h9]
    refine v_iload 6 C dL_law_360 rfl ?_
    refine v_i2l (K := fun z => z) (o := b9.toInt64) C dL_law_362 rfl (fun z hz => ?_)
    subst hz
    refine v_lcmp_eq (e1 := ()) (e2 := ()) (o := ()) 369 C dL_law_363 dL_law_364 (by decide) (by split <;> rfl) (fun _ _ => ?_) (fun h8 _ => absurd rfl h8)
    refine v_goto 1636 C dL_law_369 (by decide) ?_
    refine v_lv [(0, .ref b), (1, .ref x), (2, .ref m), (3, .ref o9), (4, .int i)] [0, 1, 2, 3, 4] rfl ?_
    exact kk _ _ _ hi9
  · refine v_goto 1636 C dL_law_369 (by decide) ?_
    refine v_lv [(0, .ref b), (1, .ref x), (2, .ref m), (3, .ref o9), (4, .int i)] [0, 1, 2, 3, 4] rfl ?_
    exact kk _ _ _ hi9
def St_splitPart (E : Nat → Nat → Nat) (T : Nat → ClassId) (x m o9 : Nat) (I : va_W → va_W → Prop) : Prop := ∀ (wl wr : va_W) (c : Nat → Int64) (x1 : Int32) (x2 : Int32) (x3 : Int32), I wl wr → ∃ (k : Int32) (wl' : va_W) (c' : Nat → Int64) (b : Int32) (wr' : va_W), (∀ D, MetW (SFG E) yL_splitPart cL_splitPart 6 (some .int) [(0, 12, 15, 21), (0, 12, 19, 13), (0, 12, 23, 15)] { frames := 9, cells := 1, slots := 6, locals := 191 } D T [.ref x, .int x1, .int x2, .int x3, .ref o9] (wl ++ [ocell o9 T c]) (some (.int k)) (wl' ++ [ocell o9 T c'])) ∧ (∀ D, MetM (SFG E) yX10_splitPart cX10_splitPart 4 (some .int) { frames := 3, cells := 0, slots := 0, locals := 69 } D T [.ref m, .int x1, .int x2, .int x3] wr (some (.int b)) wr') ∧ (∀ D, MetM (SFG E) yX10_thrown cX10_thrown 1 (some .int) { frames := 0, cells := 0, slots := 0, locals := 0 } D T [.ref m] wr' (some (.int k)) wr') ∧ (k = 0 → c' 0 = b.toInt64) ∧ I wl' wr'
set_option maxRecDepth 100000 in
set_option maxHeartbeats 2000000 in
theorem Lk_splitPart (C : Cx X (SFG E) T cL_law RL (some .boolean) 8 12 460) (hs : ScrOK X b L xs) (hcap : CapOK X (k + 1) (n + 6)) (hI : FirstOK x m I) (hi : I wl wr) (h0 : 0 ≤ i.toInt) (h1 : i.toInt + 3 < L) (hL : L ≤ 2048) (st : St_splitPart E T x m o9 I) (kk : ∀ wl' wr' c', I wl' wr' → V X (k + 1) (n + 6) ((wl' ++ [ocell o9 T c']) ++ wr') [(0, .ref b), (1, .ref x), (2, .ref m), (3, .ref o9), (4, .int i)] 1636 []) : V X k n ((wl ++ [ocell o9 T c]) ++ wr) [(0, .ref b), (1, .ref x), (2, .ref m), (3, .ref o9), (4, .int i)] 372 [] := by
  refine v_aload_n 1 C dL_law_372 rfl rfl ?_
  refine l_arg 1 (jc := 1) (j := 1) (by decide) (by decide) C hs h0 h1 hL rfl rfl dL_law_373 dL_law_374 dL_law_376 dL_law_377 dL_law_378 ?_
  refine l_arg 2 (jc := 2) (j := 2) (by decide) (by decide) C hs h0 h1 hL rfl rfl dL_law_379 dL_law_380 dL_law_382 dL_law_383 dL_law_384 ?_
  refine l_arg 3 (jc := 3) (j := 3) (by decide) (by decide) C hs h0 h1 hL rfl rfl dL_law_385 dL_law_386 dL_law_388 dL_law_389 dL_law_390 ?_
  refine v_aload_n 3 C dL_law_391 rfl rfl ?_
  obtain ⟨kx, wl9, c9, b9, wr9, hM1, hM2, hM3, hk0, hi9⟩ := st wl wr c (xs (i.toNatClampNeg + 1)) (xs (i.toNatClampNeg + 2)) (xs (i.toNatClampNeg + 3)) hi
  refine l_wrap (As := [.ref x, .int (xs (i.toNatClampNeg + 1)), .int (xs (i.toNatClampNeg + 2)), .int (xs (i.toNatClampNeg + 3)), .ref o9]) (rest := []) 5 C hcap hM1 wmethodLink_RL_106_yL_splitPart wcodeWith_yL_splitPart_cL_splitPart_6_some_int_0_12_15_21_0_12_19_13_0_12_23_15 wstatic_yL_splitPart winitialized_RL (by decide +kernel) (by decide) ⟨rfl, rfl⟩ rfl (by decide) dL_law_392 ?_
  refine v_istore [(0, .ref b), (1, .ref x), (2, .ref m), (3, .ref o9), (4, .int i), (5, .int kx)] [1, 2, 3, 4, 5, 0] C dL_law_395 (by decide) rfl ?_
  refine v_aload_n 2 C dL_law_397 rfl rfl ?_
  refine l_arg 1 (jc := 1) (j := 1) (by decide) (by decide) C hs h0 h1 hL rfl rfl dL_law_398 dL_law_399 dL_law_401 dL_law_402 dL_law_403 ?_
  refine l_arg 2 (jc := 2) (j := 2) (by decide) (by decide) C hs h0 h1 hL rfl rfl dL_law_404 dL_law_405 dL_law_407 dL_law_408 dL_law_409 ?_
  refine l_arg 3 (jc := 3) (j := 3) (by decide) (by decide) C hs h0 h1 hL rfl rfl dL_law_410 dL_law_411 dL_law_413 dL_law_414 dL_law_415 ?_
  refine l_ref (As := [.int (xs (i.toNatClampNeg + 1)), .int (xs (i.toNatClampNeg + 2)), .int (xs (i.toNatClampNeg + 3))]) (rest := []) 3 C (hcap.mono (Nat.le_refl _) (Nat.le_refl _)) hM2 (hI _ _ hi).2 (goodV wmethodLink_RL_108_yX10_splitPart winstanceMethod_yX10_splitPart wselects_RX10_yX10_splitPart_yX10_splitPart winitialized_RX10 wcode_yX10_splitPart_cX10_splitPart_4_some_int) (by decide +kernel) (by decide) ⟨rfl, rfl⟩ rfl (by decide) dL_law_416 ?_
  refine v_istore [(0, .ref b), (1, .ref x), (2, .ref m), (3, .ref o9), (4, .int i), (5, .int kx), (6, .int b9)] [1, 2, 3, 4, 5, 6, 0] C dL_law_419 (by decide) rfl ?_
  refine v_aload_n 2 C dL_law_421 rfl rfl ?_
  refine l_ref (As := []) (rest := []) 0 C (hcap.mono (Nat.le_refl _) (Nat.le_refl _)) hM3 (hI _ _ hi9).2 (goodV wmethodLink_RL_95_yX10_thrown winstanceMethod_yX10_thrown wselects_RX10_yX10_thrown_yX10_thrown winitialized_RX10 wcode_yX10_thrown_cX10_thrown_1_some_int) (by decide +kernel) (by decide) ⟨rfl, rfl⟩ rfl (by decide) dL_law_422 ?_
  refine v_iload 5 C dL_law_425 rfl ?_
  refine v_icmp_eq (e1 := ()) (e2 := ()) (o := ()) 432 C dL_law_427 (by decide) (by split <;> rfl) (fun _ _ => ?_) (fun h9 _ => absurd rfl h9)
  refine v_iload 5 C dL_law_432 rfl ?_
  refine v_if_ne (e1 := ()) (e2 := ()) (o := ()) 449 C dL_law_434 (by decide) (by split <;> rfl) (fun h9 _ => ?_) (fun _ _ => ?_)
  · refine v_aload_n 3 C dL_law_437 rfl rfl ?_
    refine v_iconst (v := 0) C dL_law_438 (by decide) ?_
    refine l_out0 C dL_law_439 ?_
    rw [hk0 h9]
    refine v_iload 6 C dL_law_440 rfl ?_
    refine v_i2l (K := fun z => z) (o := b9.toInt64) C dL_law_442 rfl (fun z hz => ?_)
    subst hz
    refine v_lcmp_eq (e1 := ()) (e2 := ()) (o := ()) 449 C dL_law_443 dL_law_444 (by decide) (by split <;> rfl) (fun _ _ => ?_) (fun h8 _ => absurd rfl h8)
    refine v_goto 1636 C dL_law_449 (by decide) ?_
    refine v_lv [(0, .ref b), (1, .ref x), (2, .ref m), (3, .ref o9), (4, .int i)] [0, 1, 2, 3, 4] rfl ?_
    exact kk _ _ _ hi9
  · refine v_goto 1636 C dL_law_449 (by decide) ?_
    refine v_lv [(0, .ref b), (1, .ref x), (2, .ref m), (3, .ref o9), (4, .int i)] [0, 1, 2, 3, 4] rfl ?_
    exact kk _ _ _ hi9
def St_reverse (E : Nat → Nat → Nat) (T : Nat → ClassId) (x m o9 : Nat) (I : va_W → va_W → Prop) : Prop := ∀ (wl wr : va_W), I wl wr → ∃ (r : Int32) (wl' wr' : va_W), (∀ D, MetM (SFG E) yX9_reverse cX9_reverse 1 (some .int) { frames := 5, cells := 0, slots := 0, locals := 144 } D T [.ref x] wl (some (.int r)) wl') ∧ (∀ D, MetM (SFG E) yX10_reverse cX10_reverse 3 (some .int) { frames := 2, cells := 0, slots := 0, locals := 42 } D T [.ref m] wr (some (.int r)) wr') ∧ I wl' wr'
set_option maxRecDepth 100000 in
set_option maxHeartbeats 2000000 in
theorem Lk_reverse (C : Cx X (SFG E) T cL_law RL (some .boolean) 8 12 460) (hs : ScrOK X b L xs) (hcap : CapOK X (k + 1) (n + 6)) (hI : FirstOK x m I) (hi : I wl wr) (h0 : 0 ≤ i.toInt) (h1 : i.toInt + 3 < L) (hL : L ≤ 2048) (st : St_reverse E T x m o9 I) (kk : ∀ wl' wr' c', I wl' wr' → V X (k + 1) (n + 6) ((wl' ++ [ocell o9 T c']) ++ wr') [(0, .ref b), (1, .ref x), (2, .ref m), (3, .ref o9), (4, .int i)] 1636 []) : V X k n ((wl ++ [ocell o9 T c]) ++ wr) [(0, .ref b), (1, .ref x), (2, .ref m), (3, .ref o9), (4, .int i)] 452 [] := by
  refine v_aload_n 1 C dL_law_452 rfl rfl ?_
  obtain ⟨r9, wl9, wr9, hM1, hM2, hi9⟩ := st wl wr hi
  refine l_cls (As := []) (rest := []) 0 C (hcap.mono (Nat.le_add_right _ _) (Nat.le_add_right _ _)) hM1 (hI _ _ hi).1 (goodV wmethodLink_RL_109_yX9_reverse winstanceMethod_yX9_reverse wselects_RX9_yX9_reverse_yX9_reverse winitialized_RX9 wcode_yX9_reverse_cX9_reverse_1_some_int) (by decide +kernel) (by decide) ⟨rfl, rfl⟩ rfl (by decide) dL_law_453 ?_
  refine v_aload_n 2 C dL_law_456 rfl rfl ?_
  refine l_ref (As := []) (rest := [.int r9]) 0 C (hcap.mono (Nat.le_add_right _ _) (Nat.le_add_right _ _)) hM2 (hI _ _ hi).2 (goodV wmethodLink_RL_112_yX10_reverse winstanceMethod_yX10_reverse wselects_RX10_yX10_reverse_yX10_reverse winitialized_RX10 wcode_yX10_reverse_cX10_reverse_3_some_int) (by decide +kernel) (by decide) ⟨rfl, rfl⟩ rfl (Nat.le_of_ble_eq_true rfl) dL_law_457 ?_
  refine v_icmp_eq (e1 := ()) (e2 := ()) (o := ()) 1636 C dL_law_460 (by decide) (by split <;> rfl) (fun _ _ => ?_) (fun h9 _ => absurd rfl h9)
  exact v_widen (Nat.le_add_right _ _) (Nat.le_add_right _ _) (kk _ _ _ hi9)
def St_setBench (E : Nat → Nat → Nat) (T : Nat → ClassId) (x m o9 : Nat) (I : va_W → va_W → Prop) : Prop := ∀ (wl wr : va_W) (c : Nat → Int64) (x1 : Int32) (x2 : Int32) (x3 : Int32), I wl wr → ∃ (k : Int32) (wl' : va_W) (c' : Nat → Int64) (b : Int32) (wr' : va_W), (∀ D, MetW (SFG E) yL_setBench cL_setBench 6 (some .int) [(0, 12, 15, 13)] { frames := 8, cells := 1, slots := 6, locals := 168 } D T [.ref x, .int x1, .int x2, .int x3, .ref o9] (wl ++ [ocell o9 T c]) (some (.int k)) (wl' ++ [ocell o9 T c'])) ∧ (∀ D, MetM (SFG E) yX10_setBench cX10_setBench 5 (some .int) { frames := 1, cells := 0, slots := 0, locals := 25 } D T [.ref m, .int x1, .int x2, .int x3] wr (some (.int b)) wr') ∧ (∀ D, MetM (SFG E) yX10_thrown cX10_thrown 1 (some .int) { frames := 0, cells := 0, slots := 0, locals := 0 } D T [.ref m] wr' (some (.int k)) wr') ∧ (k = 0 → c' 0 = b.toInt64) ∧ I wl' wr'
set_option maxRecDepth 100000 in
set_option maxHeartbeats 2000000 in
theorem Lk_setBench (C : Cx X (SFG E) T cL_law RL (some .boolean) 8 12 460) (hs : ScrOK X b L xs) (hcap : CapOK X (k + 1) (n + 6)) (hI : FirstOK x m I) (hi : I wl wr) (h0 : 0 ≤ i.toInt) (h1 : i.toInt + 3 < L) (hL : L ≤ 2048) (st : St_setBench E T x m o9 I) (kk : ∀ wl' wr' c', I wl' wr' → V X (k + 1) (n + 6) ((wl' ++ [ocell o9 T c']) ++ wr') [(0, .ref b), (1, .ref x), (2, .ref m), (3, .ref o9), (4, .int i)] 1636 []) : V X k n ((wl ++ [ocell o9 T c]) ++ wr) [(0, .ref b), (1, .ref x), (2, .ref m), (3, .ref o9), (4, .int i)] 465 [] := by
  refine v_aload_n 1 C dL_law_465 rfl rfl ?_
  refine l_arg 1 (jc := 1) (j := 1) (by decide) (by decide) C hs h0 h1 hL rfl rfl dL_law_466 dL_law_467 dL_law_469 dL_law_470 dL_law_471 ?_
  refine l_arg 2 (jc := 2) (j := 2) (by decide) (by decide) C hs h0 h1 hL rfl rfl dL_law_472 dL_law_473 dL_law_475 dL_law_476 dL_law_477 ?_
  refine l_arg 3 (jc := 3) (j := 3) (by decide) (by decide) C hs h0 h1 hL rfl rfl dL_law_478 dL_law_479 dL_law_481 dL_law_482 dL_law_483 ?_
  refine v_aload_n 3 C dL_law_484 rfl rfl ?_
  obtain ⟨kx, wl9, c9, b9, wr9, hM1, hM2, hM3, hk0, hi9⟩ := st wl wr c (xs (i.toNatClampNeg + 1)) (xs (i.toNatClampNeg + 2)) (xs (i.toNatClampNeg + 3)) hi
  refine l_wrap (As := [.ref x, .int (xs (i.toNatClampNeg + 1)), .int (xs (i.toNatClampNeg + 2)), .int (xs (i.toNatClampNeg + 3)), .ref o9]) (rest := []) 5 C hcap hM1 wmethodLink_RL_113_yL_setBench wcodeWith_yL_setBench_cL_setBench_6_some_int_0_12_15_13 wstatic_yL_setBench winitialized_RL (by decide +kernel) (by decide) ⟨rfl, rfl⟩ rfl (by decide) dL_law_485 ?_
  refine v_istore [(0, .ref b), (1, .ref x), (2, .ref m), (3, .ref o9), (4, .int i), (5, .int kx)] [1, 2, 3, 4, 5, 0] C dL_law_488 (by decide) rfl ?_
  refine v_aload_n 2 C dL_law_490 rfl rfl ?_
  refine l_arg 1 (jc := 1) (j := 1) (by decide) (by decide) C hs h0 h1 hL rfl rfl dL_law_491 dL_law_492 dL_law_494 dL_law_495 dL_law_496 ?_
  refine l_arg 2 (jc := 2) (j := 2) (by decide) (by decide) C hs h0 h1 hL rfl rfl dL_law_497 dL_law_498 dL_law_500 dL_law_501 dL_law_502 ?_
  refine l_arg 3 (jc := 3) (j := 3) (by decide) (by decide) C hs h0 h1 hL rfl rfl dL_law_503 dL_law_504 dL_law_506 dL_law_507 dL_law_508 ?_
  refine l_ref (As := [.int (xs (i.toNatClampNeg + 1)), .int (xs (i.toNatClampNeg + 2)), .int (xs (i.toNatClampNeg + 3))]) (rest := []) 3 C (hcap.mono (Nat.le_refl _) (Nat.le_refl _)) hM2 (hI _ _ hi).2 (goodV wmethodLink_RL_115_yX10_setBench winstanceMethod_yX10_setBench wselects_RX10_yX10_setBench_yX10_setBench winitialized_RX10 wcode_yX10_setBench_cX10_setBench_5_some_int) (by decide +kernel) (by decide) ⟨rfl, rfl⟩ rfl (by decide) dL_law_509 ?_
  refine v_istore [(0, .ref b), (1, .ref x), (2, .ref m), (3, .ref o9), (4, .int i), (5, .int kx), (6, .int b9)] [1, 2, 3, 4, 5, 6, 0] C dL_law_512 (by decide) rfl ?_
  refine v_aload_n 2 C dL_law_514 rfl rfl ?_
  refine l_ref (As := []) (rest := []) 0 C (hcap.mono (Nat.le_refl _) (Nat.le_refl _)) hM3 (hI _ _ hi9).2 (goodV wmethodLink_RL_95_yX10_thrown winstanceMethod_yX10_thrown wselects_RX10_yX10_thrown_yX10_thrown winitialized_RX10 wcode_yX10_thrown_cX10_thrown_1_some_int) (by decide +kernel) (by decide) ⟨rfl, rfl⟩ rfl (by decide) dL_law_515 ?_
  refine v_iload 5 C dL_law_518 rfl ?_
  refine v_icmp_eq (e1 := ()) (e2 := ()) (o := ()) 525 C dL_law_520 (by decide) (by split <;> rfl) (fun _ _ => ?_) (fun h9 _ => absurd rfl h9)
  refine v_iload 5 C dL_law_525 rfl ?_
  refine v_if_ne (e1 := ()) (e2 := ()) (o := ()) 542 C dL_law_527 (by decide) (by split <;> rfl) (fun h9 _ => ?_) (fun _ _ => ?_)
  · refine v_aload_n 3 C dL_law_530 rfl rfl ?_
    refine v_iconst (v := 0) C dL_law_531 (by decide) ?_
    refine l_out0 C dL_law_532 ?_
    rw [hk0 h9]
    refine v_iload 6 C dL_law_533 rfl ?_
    refine v_i2l (K := fun z => z) (o := b9.toInt64) C dL_law_535 rfl (fun z hz => ?_)
    subst hz
    refine v_lcmp_eq (e1 := ()) (e2 := ()) (o := ()) 542 C dL_law_536 dL_law_537 (by decide) (by split <;> rfl) (fun _ _ => ?_) (fun h8 _ => absurd rfl h8)
    refine v_goto 1636 C dL_law_542 (by decide) ?_
    refine v_lv [(0, .ref b), (1, .ref x), (2, .ref m), (3, .ref o9), (4, .int i)] [0, 1, 2, 3, 4] rfl ?_
    exact kk _ _ _ hi9
  · refine v_goto 1636 C dL_law_542 (by decide) ?_
    refine v_lv [(0, .ref b), (1, .ref x), (2, .ref m), (3, .ref o9), (4, .int i)] [0, 1, 2, 3, 4] rfl ?_
    exact kk _ _ _ hi9
def St_addPulse (E : Nat → Nat → Nat) (T : Nat → ClassId) (x m o9 : Nat) (I : va_W → va_W → Prop) : Prop := ∀ (wl wr : va_W) (c : Nat → Int64) (x1 : Int32) (x2 : Int32), I wl wr → ∃ (k : Int32) (wl' : va_W) (c' : Nat → Int64) (b : Int32) (wr' : va_W), (∀ D, MetW (SFG E) yL_addPulse cL_addPulse 5 (some .int) [(0, 10, 13, 13), (0, 10, 17, 15)] { frames := 9, cells := 1, slots := 6, locals := 190 } D T [.ref x, .int x1, .int x2, .ref o9] (wl ++ [ocell o9 T c]) (some (.int k)) (wl' ++ [ocell o9 T c'])) ∧ (∀ D, MetM (SFG E) yX10_addPulse cX10_addPulse 3 (some .int) { frames := 2, cells := 0, slots := 0, locals := 47 } D T [.ref m, .int x1, .int x2] wr (some (.int b)) wr') ∧ (∀ D, MetM (SFG E) yX10_thrown cX10_thrown 1 (some .int) { frames := 0, cells := 0, slots := 0, locals := 0 } D T [.ref m] wr' (some (.int k)) wr') ∧ (k = 0 → c' 0 = b.toInt64) ∧ I wl' wr'
set_option maxRecDepth 100000 in
set_option maxHeartbeats 2000000 in
theorem Lk_addPulse (C : Cx X (SFG E) T cL_law RL (some .boolean) 8 12 460) (hs : ScrOK X b L xs) (hcap : CapOK X (k + 1) (n + 6)) (hI : FirstOK x m I) (hi : I wl wr) (h0 : 0 ≤ i.toInt) (h1 : i.toInt + 3 < L) (hL : L ≤ 2048) (st : St_addPulse E T x m o9 I) (kk : ∀ wl' wr' c', I wl' wr' → V X (k + 1) (n + 6) ((wl' ++ [ocell o9 T c']) ++ wr') [(0, .ref b), (1, .ref x), (2, .ref m), (3, .ref o9), (4, .int i)] 1636 []) : V X k n ((wl ++ [ocell o9 T c]) ++ wr) [(0, .ref b), (1, .ref x), (2, .ref m), (3, .ref o9), (4, .int i)] 545 [] := by
  refine v_aload_n 1 C dL_law_545 rfl rfl ?_
  refine l_arg 1 (jc := 1) (j := 1) (by decide) (by decide) C hs h0 h1 hL rfl rfl dL_law_546 dL_law_547 dL_law_549 dL_law_550 dL_law_551 ?_
  refine l_arg 2 (jc := 2) (j := 2) (by decide) (by decide) C hs h0 h1 hL rfl rfl dL_law_552 dL_law_553 dL_law_555 dL_law_556 dL_law_557 ?_
  refine v_aload_n 3 C dL_law_558 rfl rfl ?_
  obtain ⟨kx, wl9, c9, b9, wr9, hM1, hM2, hM3, hk0, hi9⟩ := st wl wr c (xs (i.toNatClampNeg + 1)) (xs (i.toNatClampNeg + 2)) hi
  refine l_wrap (As := [.ref x, .int (xs (i.toNatClampNeg + 1)), .int (xs (i.toNatClampNeg + 2)), .ref o9]) (rest := []) 4 C hcap hM1 wmethodLink_RL_116_yL_addPulse wcodeWith_yL_addPulse_cL_addPulse_5_some_int_0_10_13_13_0_10_17_15 wstatic_yL_addPulse winitialized_RL (by decide +kernel) (by decide) ⟨rfl, rfl⟩ rfl (by decide) dL_law_559 ?_
  refine v_istore [(0, .ref b), (1, .ref x), (2, .ref m), (3, .ref o9), (4, .int i), (5, .int kx)] [1, 2, 3, 4, 5, 0] C dL_law_562 (by decide) rfl ?_
  refine v_aload_n 2 C dL_law_564 rfl rfl ?_
  refine l_arg 1 (jc := 1) (j := 1) (by decide) (by decide) C hs h0 h1 hL rfl rfl dL_law_565 dL_law_566 dL_law_568 dL_law_569 dL_law_570 ?_
  refine l_arg 2 (jc := 2) (j := 2) (by decide) (by decide) C hs h0 h1 hL rfl rfl dL_law_571 dL_law_572 dL_law_574 dL_law_575 dL_law_576 ?_
  refine l_ref (As := [.int (xs (i.toNatClampNeg + 1)), .int (xs (i.toNatClampNeg + 2))]) (rest := []) 2 C (hcap.mono (Nat.le_refl _) (Nat.le_refl _)) hM2 (hI _ _ hi).2 (goodV wmethodLink_RL_118_yX10_addPulse winstanceMethod_yX10_addPulse wselects_RX10_yX10_addPulse_yX10_addPulse winitialized_RX10 wcode_yX10_addPulse_cX10_addPulse_3_some_int) (by decide +kernel) (by decide) ⟨rfl, rfl⟩ rfl (by decide) dL_law_577 ?_
  refine v_istore [(0, .ref b), (1, .ref x), (2, .ref m), (3, .ref o9), (4, .int i), (5, .int kx), (6, .int b9)] [1, 2, 3, 4, 5, 6, 0] C dL_law_580 (by decide) rfl ?_
  refine v_aload_n 2 C dL_law_582 rfl rfl ?_
  refine l_ref (As := []) (rest := []) 0 C (hcap.mono (Nat.le_refl _) (Nat.le_refl _)) hM3 (hI _ _ hi9).2 (goodV wmethodLink_RL_95_yX10_thrown winstanceMethod_yX10_thrown wselects_RX10_yX10_thrown_yX10_thrown winitialized_RX10 wcode_yX10_thrown_cX10_thrown_1_some_int) (by decide +kernel) (by decide) ⟨rfl, rfl⟩ rfl (by decide) dL_law_583 ?_
  refine v_iload 5 C dL_law_586 rfl ?_
  refine v_icmp_eq (e1 := ()) (e2 := ()) (o := ()) 593 C dL_law_588 (by decide) (by split <;> rfl) (fun _ _ => ?_) (fun h9 _ => absurd rfl h9)
  refine v_iload 5 C dL_law_593 rfl ?_
  refine v_if_ne (e1 := ()) (e2 := ()) (o := ()) 610 C dL_law_595 (by decide) (by split <;> rfl) (fun h9 _ => ?_) (fun _ _ => ?_)
  · refine v_aload_n 3 C dL_law_598 rfl rfl ?_
    refine v_iconst (v := 0) C dL_law_599 (by decide) ?_
    refine l_out0 C dL_law_600 ?_
    rw [hk0 h9]
    refine v_iload 6 C dL_law_601 rfl ?_
    refine v_i2l (K := fun z => z) (o := b9.toInt64) C dL_law_603 rfl (fun z hz => ?_)
    subst hz
    refine v_lcmp_eq (e1 := ()) (e2 := ()) (o := ()) 610 C dL_law_604 dL_law_605 (by decide) (by split <;> rfl) (fun _ _ => ?_) (fun h8 _ => absurd rfl h8)
    refine v_goto 1636 C dL_law_610 (by decide) ?_
    refine v_lv [(0, .ref b), (1, .ref x), (2, .ref m), (3, .ref o9), (4, .int i)] [0, 1, 2, 3, 4] rfl ?_
    exact kk _ _ _ hi9
  · refine v_goto 1636 C dL_law_610 (by decide) ?_
    refine v_lv [(0, .ref b), (1, .ref x), (2, .ref m), (3, .ref o9), (4, .int i)] [0, 1, 2, 3, 4] rfl ?_
    exact kk _ _ _ hi9
def St_removePulse (E : Nat → Nat → Nat) (T : Nat → ClassId) (x m o9 : Nat) (I : va_W → va_W → Prop) : Prop := ∀ (wl wr : va_W) (c : Nat → Int64) (x1 : Int32), I wl wr → ∃ (k : Int32) (wl' : va_W) (c' : Nat → Int64) (b : Int32) (wr' : va_W), (∀ D, MetW (SFG E) yL_removePulse cL_removePulse 4 (some .int) [(0, 9, 12, 21), (0, 9, 15, 15)] { frames := 8, cells := 1, slots := 6, locals := 165 } D T [.ref x, .int x1, .ref o9] (wl ++ [ocell o9 T c]) (some (.int k)) (wl' ++ [ocell o9 T c'])) ∧ (∀ D, MetM (SFG E) yX10_removePulse cX10_removePulse 3 (some .int) { frames := 1, cells := 0, slots := 0, locals := 25 } D T [.ref m, .int x1] wr (some (.int b)) wr') ∧ (∀ D, MetM (SFG E) yX10_thrown cX10_thrown 1 (some .int) { frames := 0, cells := 0, slots := 0, locals := 0 } D T [.ref m] wr' (some (.int k)) wr') ∧ (k = 0 → c' 0 = b.toInt64) ∧ I wl' wr'
set_option maxRecDepth 100000 in
set_option maxHeartbeats 2000000 in
theorem Lk_removePulse (C : Cx X (SFG E) T cL_law RL (some .boolean) 8 12 460) (hs : ScrOK X b L xs) (hcap : CapOK X (k + 1) (n + 6)) (hI : FirstOK x m I) (hi : I wl wr) (h0 : 0 ≤ i.toInt) (h1 : i.toInt + 3 < L) (hL : L ≤ 2048) (st : St_removePulse E T x m o9 I) (kk : ∀ wl' wr' c', I wl' wr' → V X (k + 1) (n + 6) ((wl' ++ [ocell o9 T c']) ++ wr') [(0, .ref b), (1, .ref x), (2, .ref m), (3, .ref o9), (4, .int i)] 1636 []) : V X k n ((wl ++ [ocell o9 T c]) ++ wr) [(0, .ref b), (1, .ref x), (2, .ref m), (3, .ref o9), (4, .int i)] 613 [] := by
  refine v_aload_n 1 C dL_law_613 rfl rfl ?_
  refine l_arg 1 (jc := 1) (j := 1) (by decide) (by decide) C hs h0 h1 hL rfl rfl dL_law_614 dL_law_615 dL_law_617 dL_law_618 dL_law_619 ?_
  refine v_aload_n 3 C dL_law_620 rfl rfl ?_
  obtain ⟨kx, wl9, c9, b9, wr9, hM1, hM2, hM3, hk0, hi9⟩ := st wl wr c (xs (i.toNatClampNeg + 1)) hi
  refine l_wrap (As := [.ref x, .int (xs (i.toNatClampNeg + 1)), .ref o9]) (rest := []) 3 C hcap hM1 wmethodLink_RL_119_yL_removePulse wcodeWith_yL_removePulse_cL_removePulse_4_some_int_0_9_12_21_0_9_15_15 wstatic_yL_removePulse winitialized_RL (by decide +kernel) (by decide) ⟨rfl, rfl⟩ rfl (by decide) dL_law_621 ?_
  refine v_istore [(0, .ref b), (1, .ref x), (2, .ref m), (3, .ref o9), (4, .int i), (5, .int kx)] [1, 2, 3, 4, 5, 0] C dL_law_624 (by decide) rfl ?_
  refine v_aload_n 2 C dL_law_626 rfl rfl ?_
  refine l_arg 1 (jc := 1) (j := 1) (by decide) (by decide) C hs h0 h1 hL rfl rfl dL_law_627 dL_law_628 dL_law_630 dL_law_631 dL_law_632 ?_
  refine l_ref (As := [.int (xs (i.toNatClampNeg + 1))]) (rest := []) 1 C (hcap.mono (Nat.le_refl _) (Nat.le_refl _)) hM2 (hI _ _ hi).2 (goodV wmethodLink_RL_121_yX10_removePulse winstanceMethod_yX10_removePulse wselects_RX10_yX10_removePulse_yX10_removePulse winitialized_RX10 wcode_yX10_removePulse_cX10_removePulse_3_some_int) (by decide +kernel) (by decide) ⟨rfl, rfl⟩ rfl (by decide) dL_law_633 ?_
  refine v_istore [(0, .ref b), (1, .ref x), (2, .ref m), (3, .ref o9), (4, .int i), (5, .int kx), (6, .int b9)] [1, 2, 3, 4, 5, 6, 0] C dL_law_636 (by decide) rfl ?_
  refine v_aload_n 2 C dL_law_638 rfl rfl ?_
  refine l_ref (As := []) (rest := []) 0 C (hcap.mono (Nat.le_refl _) (Nat.le_refl _)) hM3 (hI _ _ hi9).2 (goodV wmethodLink_RL_95_yX10_thrown winstanceMethod_yX10_thrown wselects_RX10_yX10_thrown_yX10_thrown winitialized_RX10 wcode_yX10_thrown_cX10_thrown_1_some_int) (by decide +kernel) (by decide) ⟨rfl, rfl⟩ rfl (by decide) dL_law_639 ?_
  refine v_iload 5 C dL_law_642 rfl ?_
  refine v_icmp_eq (e1 := ()) (e2 := ()) (o := ()) 649 C dL_law_644 (by decide) (by split <;> rfl) (fun _ _ => ?_) (fun h9 _ => absurd rfl h9)
  refine v_iload 5 C dL_law_649 rfl ?_
  refine v_if_ne (e1 := ()) (e2 := ()) (o := ()) 666 C dL_law_651 (by decide) (by split <;> rfl) (fun h9 _ => ?_) (fun _ _ => ?_)
  · refine v_aload_n 3 C dL_law_654 rfl rfl ?_
    refine v_iconst (v := 0) C dL_law_655 (by decide) ?_
    refine l_out0 C dL_law_656 ?_
    rw [hk0 h9]
    refine v_iload 6 C dL_law_657 rfl ?_
    refine v_i2l (K := fun z => z) (o := b9.toInt64) C dL_law_659 rfl (fun z hz => ?_)
    subst hz
    refine v_lcmp_eq (e1 := ()) (e2 := ()) (o := ()) 666 C dL_law_660 dL_law_661 (by decide) (by split <;> rfl) (fun _ _ => ?_) (fun h8 _ => absurd rfl h8)
    refine v_goto 1636 C dL_law_666 (by decide) ?_
    refine v_lv [(0, .ref b), (1, .ref x), (2, .ref m), (3, .ref o9), (4, .int i)] [0, 1, 2, 3, 4] rfl ?_
    exact kk _ _ _ hi9
  · refine v_goto 1636 C dL_law_666 (by decide) ?_
    refine v_lv [(0, .ref b), (1, .ref x), (2, .ref m), (3, .ref o9), (4, .int i)] [0, 1, 2, 3, 4] rfl ?_
    exact kk _ _ _ hi9
def St_part (E : Nat → Nat → Nat) (T : Nat → ClassId) (x m o9 : Nat) (I : va_W → va_W → Prop) : Prop := ∀ (wl wr : va_W) (c : Nat → Int64) (x1 : Int32) (x2 : Int32), I wl wr → ∃ (k : Int32) (wl' : va_W) (c' : Nat → Int64) (b : Int32) (wr' : va_W), (∀ D, MetW (SFG E) yL_part cL_part 5 (some .int) [(0, 10, 13, 21), (0, 10, 17, 13)] { frames := 8, cells := 1, slots := 6, locals := 137 } D T [.ref x, .int x1, .int x2, .ref o9] (wl ++ [ocell o9 T c]) (some (.int k)) (wl' ++ [ocell o9 T c'])) ∧ (∀ D, MetM (SFG E) yX10_part cX10_part 3 (some .int) { frames := 2, cells := 0, slots := 0, locals := 46 } D T [.ref m, .int x1, .int x2] wr (some (.int b)) wr') ∧ (∀ D, MetM (SFG E) yX10_thrown cX10_thrown 1 (some .int) { frames := 0, cells := 0, slots := 0, locals := 0 } D T [.ref m] wr' (some (.int k)) wr') ∧ (k = 0 → c' 0 = b.toInt64) ∧ I wl' wr'
set_option maxRecDepth 100000 in
set_option maxHeartbeats 2000000 in
theorem Lk_part (C : Cx X (SFG E) T cL_law RL (some .boolean) 8 12 460) (hs : ScrOK X b L xs) (hcap : CapOK X (k + 1) (n + 6)) (hI : FirstOK x m I) (hi : I wl wr) (h0 : 0 ≤ i.toInt) (h1 : i.toInt + 3 < L) (hL : L ≤ 2048) (st : St_part E T x m o9 I) (kk : ∀ wl' wr' c', I wl' wr' → V X (k + 1) (n + 6) ((wl' ++ [ocell o9 T c']) ++ wr') [(0, .ref b), (1, .ref x), (2, .ref m), (3, .ref o9), (4, .int i)] 1636 []) : V X k n ((wl ++ [ocell o9 T c]) ++ wr) [(0, .ref b), (1, .ref x), (2, .ref m), (3, .ref o9), (4, .int i)] 669 [] := by
  refine v_aload_n 1 C dL_law_669 rfl rfl ?_
  refine l_arg 1 (jc := 1) (j := 1) (by decide) (by decide) C hs h0 h1 hL rfl rfl dL_law_670 dL_law_671 dL_law_673 dL_law_674 dL_law_675 ?_
  refine l_arg 2 (jc := 2) (j := 2) (by decide) (by decide) C hs h0 h1 hL rfl rfl dL_law_676 dL_law_677 dL_law_679 dL_law_680 dL_law_681 ?_
  refine v_aload_n 3 C dL_law_682 rfl rfl ?_
  obtain ⟨kx, wl9, c9, b9, wr9, hM1, hM2, hM3, hk0, hi9⟩ := st wl wr c (xs (i.toNatClampNeg + 1)) (xs (i.toNatClampNeg + 2)) hi
  refine l_wrap (As := [.ref x, .int (xs (i.toNatClampNeg + 1)), .int (xs (i.toNatClampNeg + 2)), .ref o9]) (rest := []) 4 C hcap hM1 wmethodLink_RL_122_yL_part wcodeWith_yL_part_cL_part_5_some_int_0_10_13_21_0_10_17_13 wstatic_yL_part winitialized_RL (by decide +kernel) (by decide) ⟨rfl, rfl⟩ rfl (by decide) dL_law_683 ?_
  refine v_istore [(0, .ref b), (1, .ref x), (2, .ref m), (3, .ref o9), (4, .int i), (5, .int kx)] [1, 2, 3, 4, 5, 0] C dL_law_686 (by decide) rfl ?_
  refine v_aload_n 2 C dL_law_688 rfl rfl ?_
  refine l_arg 1 (jc := 1) (j := 1) (by decide) (by decide) C hs h0 h1 hL rfl rfl dL_law_689 dL_law_690 dL_law_692 dL_law_693 dL_law_694 ?_
  refine l_arg 2 (jc := 2) (j := 2) (by decide) (by decide) C hs h0 h1 hL rfl rfl dL_law_695 dL_law_696 dL_law_698 dL_law_699 dL_law_700 ?_
  refine l_ref (As := [.int (xs (i.toNatClampNeg + 1)), .int (xs (i.toNatClampNeg + 2))]) (rest := []) 2 C (hcap.mono (Nat.le_refl _) (Nat.le_refl _)) hM2 (hI _ _ hi).2 (goodV wmethodLink_RL_124_yX10_part winstanceMethod_yX10_part wselects_RX10_yX10_part_yX10_part winitialized_RX10 wcode_yX10_part_cX10_part_3_some_int) (by decide +kernel) (by decide) ⟨rfl, rfl⟩ rfl (by decide) dL_law_701 ?_
  refine v_istore [(0, .ref b), (1, .ref x), (2, .ref m), (3, .ref o9), (4, .int i), (5, .int kx), (6, .int b9)] [1, 2, 3, 4, 5, 6, 0] C dL_law_704 (by decide) rfl ?_
  refine v_aload_n 2 C dL_law_706 rfl rfl ?_
  refine l_ref (As := []) (rest := []) 0 C (hcap.mono (Nat.le_refl _) (Nat.le_refl _)) hM3 (hI _ _ hi9).2 (goodV wmethodLink_RL_95_yX10_thrown winstanceMethod_yX10_thrown wselects_RX10_yX10_thrown_yX10_thrown winitialized_RX10 wcode_yX10_thrown_cX10_thrown_1_some_int) (by decide +kernel) (by decide) ⟨rfl, rfl⟩ rfl (by decide) dL_law_707 ?_
  refine v_iload 5 C dL_law_710 rfl ?_
  refine v_icmp_eq (e1 := ()) (e2 := ()) (o := ()) 717 C dL_law_712 (by decide) (by split <;> rfl) (fun _ _ => ?_) (fun h9 _ => absurd rfl h9)
  refine v_iload 5 C dL_law_717 rfl ?_
  refine v_if_ne (e1 := ()) (e2 := ()) (o := ()) 734 C dL_law_719 (by decide) (by split <;> rfl) (fun h9 _ => ?_) (fun _ _ => ?_)
  · refine v_aload_n 3 C dL_law_722 rfl rfl ?_
    refine v_iconst (v := 0) C dL_law_723 (by decide) ?_
    refine l_out0 C dL_law_724 ?_
    rw [hk0 h9]
    refine v_iload 6 C dL_law_725 rfl ?_
    refine v_i2l (K := fun z => z) (o := b9.toInt64) C dL_law_727 rfl (fun z hz => ?_)
    subst hz
    refine v_lcmp_eq (e1 := ()) (e2 := ()) (o := ()) 734 C dL_law_728 dL_law_729 (by decide) (by split <;> rfl) (fun _ _ => ?_) (fun h8 _ => absurd rfl h8)
    refine v_goto 1636 C dL_law_734 (by decide) ?_
    refine v_lv [(0, .ref b), (1, .ref x), (2, .ref m), (3, .ref o9), (4, .int i)] [0, 1, 2, 3, 4] rfl ?_
    exact kk _ _ _ hi9
  · refine v_goto 1636 C dL_law_734 (by decide) ?_
    refine v_lv [(0, .ref b), (1, .ref x), (2, .ref m), (3, .ref o9), (4, .int i)] [0, 1, 2, 3, 4] rfl ?_
    exact kk _ _ _ hi9
def St_bench (E : Nat → Nat → Nat) (T : Nat → ClassId) (x m o9 : Nat) (I : va_W → va_W → Prop) : Prop := ∀ (wl wr : va_W) (c : Nat → Int64) (x1 : Int32), I wl wr → ∃ (k : Int32) (wl' : va_W) (c' : Nat → Int64) (b : Int32) (wr' : va_W), (∀ D, MetW (SFG E) yL_bench cL_bench 4 (some .int) [(0, 9, 12, 13)] { frames := 8, cells := 1, slots := 6, locals := 136 } D T [.ref x, .int x1, .ref o9] (wl ++ [ocell o9 T c]) (some (.int k)) (wl' ++ [ocell o9 T c'])) ∧ (∀ D, MetM (SFG E) yX10_bench cX10_bench 2 (some .int) { frames := 3, cells := 0, slots := 0, locals := 63 } D T [.ref m, .int x1] wr (some (.int b)) wr') ∧ (∀ D, MetM (SFG E) yX10_thrown cX10_thrown 1 (some .int) { frames := 0, cells := 0, slots := 0, locals := 0 } D T [.ref m] wr' (some (.int k)) wr') ∧ (k = 0 → c' 0 = b.toInt64) ∧ I wl' wr'
set_option maxRecDepth 100000 in
set_option maxHeartbeats 2000000 in
theorem Lk_bench (C : Cx X (SFG E) T cL_law RL (some .boolean) 8 12 460) (hs : ScrOK X b L xs) (hcap : CapOK X (k + 1) (n + 6)) (hI : FirstOK x m I) (hi : I wl wr) (h0 : 0 ≤ i.toInt) (h1 : i.toInt + 3 < L) (hL : L ≤ 2048) (st : St_bench E T x m o9 I) (kk : ∀ wl' wr' c', I wl' wr' → V X (k + 1) (n + 6) ((wl' ++ [ocell o9 T c']) ++ wr') [(0, .ref b), (1, .ref x), (2, .ref m), (3, .ref o9), (4, .int i)] 1636 []) : V X k n ((wl ++ [ocell o9 T c]) ++ wr) [(0, .ref b), (1, .ref x), (2, .ref m), (3, .ref o9), (4, .int i)] 737 [] := by
  refine v_aload_n 1 C dL_law_737 rfl rfl ?_
  refine l_arg 1 (jc := 1) (j := 1) (by decide) (by decide) C hs h0 h1 hL rfl rfl dL_law_738 dL_law_739 dL_law_741 dL_law_742 dL_law_743 ?_
  refine v_aload_n 3 C dL_law_744 rfl rfl ?_
  obtain ⟨kx, wl9, c9, b9, wr9, hM1, hM2, hM3, hk0, hi9⟩ := st wl wr c (xs (i.toNatClampNeg + 1)) hi
  refine l_wrap (As := [.ref x, .int (xs (i.toNatClampNeg + 1)), .ref o9]) (rest := []) 3 C hcap hM1 wmethodLink_RL_125_yL_bench wcodeWith_yL_bench_cL_bench_4_some_int_0_9_12_13 wstatic_yL_bench winitialized_RL (by decide +kernel) (by decide) ⟨rfl, rfl⟩ rfl (by decide) dL_law_745 ?_
  refine v_istore [(0, .ref b), (1, .ref x), (2, .ref m), (3, .ref o9), (4, .int i), (5, .int kx)] [1, 2, 3, 4, 5, 0] C dL_law_748 (by decide) rfl ?_
  refine v_aload_n 2 C dL_law_750 rfl rfl ?_
  refine l_arg 1 (jc := 1) (j := 1) (by decide) (by decide) C hs h0 h1 hL rfl rfl dL_law_751 dL_law_752 dL_law_754 dL_law_755 dL_law_756 ?_
  refine l_ref (As := [.int (xs (i.toNatClampNeg + 1))]) (rest := []) 1 C (hcap.mono (Nat.le_refl _) (Nat.le_refl _)) hM2 (hI _ _ hi).2 (goodV wmethodLink_RL_127_yX10_bench winstanceMethod_yX10_bench wselects_RX10_yX10_bench_yX10_bench winitialized_RX10 wcode_yX10_bench_cX10_bench_2_some_int) (by decide +kernel) (by decide) ⟨rfl, rfl⟩ rfl (by decide) dL_law_757 ?_
  refine v_istore [(0, .ref b), (1, .ref x), (2, .ref m), (3, .ref o9), (4, .int i), (5, .int kx), (6, .int b9)] [1, 2, 3, 4, 5, 6, 0] C dL_law_760 (by decide) rfl ?_
  refine v_aload_n 2 C dL_law_762 rfl rfl ?_
  refine l_ref (As := []) (rest := []) 0 C (hcap.mono (Nat.le_refl _) (Nat.le_refl _)) hM3 (hI _ _ hi9).2 (goodV wmethodLink_RL_95_yX10_thrown winstanceMethod_yX10_thrown wselects_RX10_yX10_thrown_yX10_thrown winitialized_RX10 wcode_yX10_thrown_cX10_thrown_1_some_int) (by decide +kernel) (by decide) ⟨rfl, rfl⟩ rfl (by decide) dL_law_763 ?_
  refine v_iload 5 C dL_law_766 rfl ?_
  refine v_icmp_eq (e1 := ()) (e2 := ()) (o := ()) 773 C dL_law_768 (by decide) (by split <;> rfl) (fun _ _ => ?_) (fun h9 _ => absurd rfl h9)
  refine v_iload 5 C dL_law_773 rfl ?_
  refine v_if_ne (e1 := ()) (e2 := ()) (o := ()) 790 C dL_law_775 (by decide) (by split <;> rfl) (fun h9 _ => ?_) (fun _ _ => ?_)
  · refine v_aload_n 3 C dL_law_778 rfl rfl ?_
    refine v_iconst (v := 0) C dL_law_779 (by decide) ?_
    refine l_out0 C dL_law_780 ?_
    rw [hk0 h9]
    refine v_iload 6 C dL_law_781 rfl ?_
    refine v_i2l (K := fun z => z) (o := b9.toInt64) C dL_law_783 rfl (fun z hz => ?_)
    subst hz
    refine v_lcmp_eq (e1 := ()) (e2 := ()) (o := ()) 790 C dL_law_784 dL_law_785 (by decide) (by split <;> rfl) (fun _ _ => ?_) (fun h8 _ => absurd rfl h8)
    refine v_goto 1636 C dL_law_790 (by decide) ?_
    refine v_lv [(0, .ref b), (1, .ref x), (2, .ref m), (3, .ref o9), (4, .int i)] [0, 1, 2, 3, 4] rfl ?_
    exact kk _ _ _ hi9
  · refine v_goto 1636 C dL_law_790 (by decide) ?_
    refine v_lv [(0, .ref b), (1, .ref x), (2, .ref m), (3, .ref o9), (4, .int i)] [0, 1, 2, 3, 4] rfl ?_
    exact kk _ _ _ hi9
def St_echo (E : Nat → Nat → Nat) (T : Nat → ClassId) (x m o9 : Nat) (I : va_W → va_W → Prop) : Prop := ∀ (wl wr : va_W) (c : Nat → Int64) (x1 : Int32), I wl wr → ∃ (k : Int32) (wl' : va_W) (c' : Nat → Int64) (b : Int64) (wr' : va_W), (∀ D, MetW (SFG E) yL_echo cL_echo 4 (some .int) [(0, 8, 11, 13)] { frames := 8, cells := 1, slots := 6, locals := 136 } D T [.ref x, .int x1, .ref o9] (wl ++ [ocell o9 T c]) (some (.int k)) (wl' ++ [ocell o9 T c'])) ∧ (∀ D, MetM (SFG E) yX10_echo cX10_echo 2 (some .long) { frames := 5, cells := 0, slots := 0, locals := 117 } D T [.ref m, .int x1] wr (some (.long b)) wr') ∧ (∀ D, MetM (SFG E) yX10_thrown cX10_thrown 1 (some .int) { frames := 0, cells := 0, slots := 0, locals := 0 } D T [.ref m] wr' (some (.int k)) wr') ∧ (k = 0 → c' 0 = b) ∧ I wl' wr'
set_option maxRecDepth 100000 in
set_option maxHeartbeats 2000000 in
theorem Lk_echo (C : Cx X (SFG E) T cL_law RL (some .boolean) 8 12 460) (hs : ScrOK X b L xs) (hcap : CapOK X (k + 1) (n + 6)) (hI : FirstOK x m I) (hi : I wl wr) (h0 : 0 ≤ i.toInt) (h1 : i.toInt + 3 < L) (hL : L ≤ 2048) (st : St_echo E T x m o9 I) (kk : ∀ wl' wr' c', I wl' wr' → V X (k + 1) (n + 6) ((wl' ++ [ocell o9 T c']) ++ wr') [(0, .ref b), (1, .ref x), (2, .ref m), (3, .ref o9), (4, .int i)] 1636 []) : V X k n ((wl ++ [ocell o9 T c]) ++ wr) [(0, .ref b), (1, .ref x), (2, .ref m), (3, .ref o9), (4, .int i)] 793 [] := by
  refine v_aload_n 1 C dL_law_793 rfl rfl ?_
  refine l_arg 1 (jc := 1) (j := 1) (by decide) (by decide) C hs h0 h1 hL rfl rfl dL_law_794 dL_law_795 dL_law_797 dL_law_798 dL_law_799 ?_
  refine v_aload_n 3 C dL_law_800 rfl rfl ?_
  obtain ⟨kx, wl9, c9, b9, wr9, hM1, hM2, hM3, hk0, hi9⟩ := st wl wr c (xs (i.toNatClampNeg + 1)) hi
  refine l_wrap (As := [.ref x, .int (xs (i.toNatClampNeg + 1)), .ref o9]) (rest := []) 3 C hcap hM1 wmethodLink_RL_128_yL_echo wcodeWith_yL_echo_cL_echo_4_some_int_0_8_11_13 wstatic_yL_echo winitialized_RL (by decide +kernel) (by decide) ⟨rfl, rfl⟩ rfl (by decide) dL_law_801 ?_
  refine v_istore [(0, .ref b), (1, .ref x), (2, .ref m), (3, .ref o9), (4, .int i), (5, .int kx)] [1, 2, 3, 4, 5, 0] C dL_law_804 (by decide) rfl ?_
  refine v_aload_n 2 C dL_law_806 rfl rfl ?_
  refine l_arg 1 (jc := 1) (j := 1) (by decide) (by decide) C hs h0 h1 hL rfl rfl dL_law_807 dL_law_808 dL_law_810 dL_law_811 dL_law_812 ?_
  refine l_ref (As := [.int (xs (i.toNatClampNeg + 1))]) (rest := []) 1 C (hcap.mono (Nat.le_refl _) (Nat.le_refl _)) hM2 (hI _ _ hi).2 (goodV wmethodLink_RL_130_yX10_echo winstanceMethod_yX10_echo wselects_RX10_yX10_echo_yX10_echo winitialized_RX10 wcode_yX10_echo_cX10_echo_2_some_long) (by decide +kernel) (by decide) ⟨rfl, rfl⟩ rfl (by decide) dL_law_813 ?_
  refine v_lstore [(0, .ref b), (1, .ref x), (2, .ref m), (3, .ref o9), (4, .int i), (5, .int kx), (6, .long b9)] [1, 2, 3, 4, 5, 6, 0] C dL_law_816 (by decide) rfl ?_
  refine v_aload_n 2 C dL_law_818 rfl rfl ?_
  refine l_ref (As := []) (rest := []) 0 C (hcap.mono (Nat.le_refl _) (Nat.le_refl _)) hM3 (hI _ _ hi9).2 (goodV wmethodLink_RL_95_yX10_thrown winstanceMethod_yX10_thrown wselects_RX10_yX10_thrown_yX10_thrown winitialized_RX10 wcode_yX10_thrown_cX10_thrown_1_some_int) (by decide +kernel) (by decide) ⟨rfl, rfl⟩ rfl (by decide) dL_law_819 ?_
  refine v_iload 5 C dL_law_822 rfl ?_
  refine v_icmp_eq (e1 := ()) (e2 := ()) (o := ()) 829 C dL_law_824 (by decide) (by split <;> rfl) (fun _ _ => ?_) (fun h9 _ => absurd rfl h9)
  refine v_iload 5 C dL_law_829 rfl ?_
  refine v_if_ne (e1 := ()) (e2 := ()) (o := ()) 845 C dL_law_831 (by decide) (by split <;> rfl) (fun h9 _ => ?_) (fun _ _ => ?_)
  · refine v_aload_n 3 C dL_law_834 rfl rfl ?_
    refine v_iconst (v := 0) C dL_law_835 (by decide) ?_
    refine l_out0 C dL_law_836 ?_
    rw [hk0 h9]
    refine v_lload 6 C dL_law_837 rfl ?_
    refine v_lcmp_eq (e1 := ()) (e2 := ()) (o := ()) 845 C dL_law_839 dL_law_840 (by decide) (by split <;> rfl) (fun _ _ => ?_) (fun h8 _ => absurd rfl h8)
    refine v_goto 1636 C dL_law_845 (by decide) ?_
    refine v_lv [(0, .ref b), (1, .ref x), (2, .ref m), (3, .ref o9), (4, .int i)] [0, 1, 2, 3, 4] rfl ?_
    exact kk _ _ _ hi9
  · refine v_goto 1636 C dL_law_845 (by decide) ?_
    refine v_lv [(0, .ref b), (1, .ref x), (2, .ref m), (3, .ref o9), (4, .int i)] [0, 1, 2, 3, 4] rfl ?_
    exact kk _ _ _ hi9
def St_echoTime (E : Nat → Nat → Nat) (T : Nat → ClassId) (x m o9 : Nat) (I : va_W → va_W → Prop) : Prop := ∀ (wl wr : va_W) (c : Nat → Int64) (x1 : Int32), I wl wr → ∃ (k : Int32) (wl' : va_W) (c' : Nat → Int64) (b : Int32) (wr' : va_W), (∀ D, MetW (SFG E) yL_echoTime cL_echoTime 4 (some .int) [(0, 9, 12, 13)] { frames := 8, cells := 1, slots := 6, locals := 134 } D T [.ref x, .int x1, .ref o9] (wl ++ [ocell o9 T c]) (some (.int k)) (wl' ++ [ocell o9 T c'])) ∧ (∀ D, MetM (SFG E) yX10_echoTime cX10_echoTime 4 (some .int) { frames := 5, cells := 0, slots := 0, locals := 117 } D T [.ref m, .int x1] wr (some (.int b)) wr') ∧ (∀ D, MetM (SFG E) yX10_thrown cX10_thrown 1 (some .int) { frames := 0, cells := 0, slots := 0, locals := 0 } D T [.ref m] wr' (some (.int k)) wr') ∧ (k = 0 → c' 0 = b.toInt64) ∧ I wl' wr'
set_option maxRecDepth 100000 in
set_option maxHeartbeats 2000000 in
theorem Lk_echoTime (C : Cx X (SFG E) T cL_law RL (some .boolean) 8 12 460) (hs : ScrOK X b L xs) (hcap : CapOK X (k + 1) (n + 6)) (hI : FirstOK x m I) (hi : I wl wr) (h0 : 0 ≤ i.toInt) (h1 : i.toInt + 3 < L) (hL : L ≤ 2048) (st : St_echoTime E T x m o9 I) (kk : ∀ wl' wr' c', I wl' wr' → V X (k + 1) (n + 6) ((wl' ++ [ocell o9 T c']) ++ wr') [(0, .ref b), (1, .ref x), (2, .ref m), (3, .ref o9), (4, .int i)] 1636 []) : V X k n ((wl ++ [ocell o9 T c]) ++ wr) [(0, .ref b), (1, .ref x), (2, .ref m), (3, .ref o9), (4, .int i)] 848 [] := by
  refine v_aload_n 1 C dL_law_848 rfl rfl ?_
  refine l_arg 1 (jc := 1) (j := 1) (by decide) (by decide) C hs h0 h1 hL rfl rfl dL_law_849 dL_law_850 dL_law_852 dL_law_853 dL_law_854 ?_
  refine v_aload_n 3 C dL_law_855 rfl rfl ?_
  obtain ⟨kx, wl9, c9, b9, wr9, hM1, hM2, hM3, hk0, hi9⟩ := st wl wr c (xs (i.toNatClampNeg + 1)) hi
  refine l_wrap (As := [.ref x, .int (xs (i.toNatClampNeg + 1)), .ref o9]) (rest := []) 3 C hcap hM1 wmethodLink_RL_131_yL_echoTime wcodeWith_yL_echoTime_cL_echoTime_4_some_int_0_9_12_13 wstatic_yL_echoTime winitialized_RL (by decide +kernel) (by decide) ⟨rfl, rfl⟩ rfl (by decide) dL_law_856 ?_
  refine v_istore [(0, .ref b), (1, .ref x), (2, .ref m), (3, .ref o9), (4, .int i), (5, .int kx)] [1, 2, 3, 4, 5, 0] C dL_law_859 (by decide) rfl ?_
  refine v_aload_n 2 C dL_law_861 rfl rfl ?_
  refine l_arg 1 (jc := 1) (j := 1) (by decide) (by decide) C hs h0 h1 hL rfl rfl dL_law_862 dL_law_863 dL_law_865 dL_law_866 dL_law_867 ?_
  refine l_ref (As := [.int (xs (i.toNatClampNeg + 1))]) (rest := []) 1 C (hcap.mono (Nat.le_refl _) (Nat.le_refl _)) hM2 (hI _ _ hi).2 (goodV wmethodLink_RL_133_yX10_echoTime winstanceMethod_yX10_echoTime wselects_RX10_yX10_echoTime_yX10_echoTime winitialized_RX10 wcode_yX10_echoTime_cX10_echoTime_4_some_int) (by decide +kernel) (by decide) ⟨rfl, rfl⟩ rfl (by decide) dL_law_868 ?_
  refine v_istore [(0, .ref b), (1, .ref x), (2, .ref m), (3, .ref o9), (4, .int i), (5, .int kx), (6, .int b9)] [1, 2, 3, 4, 5, 6, 0] C dL_law_871 (by decide) rfl ?_
  refine v_aload_n 2 C dL_law_873 rfl rfl ?_
  refine l_ref (As := []) (rest := []) 0 C (hcap.mono (Nat.le_refl _) (Nat.le_refl _)) hM3 (hI _ _ hi9).2 (goodV wmethodLink_RL_95_yX10_thrown winstanceMethod_yX10_thrown wselects_RX10_yX10_thrown_yX10_thrown winitialized_RX10 wcode_yX10_thrown_cX10_thrown_1_some_int) (by decide +kernel) (by decide) ⟨rfl, rfl⟩ rfl (by decide) dL_law_874 ?_
  refine v_iload 5 C dL_law_877 rfl ?_
  refine v_icmp_eq (e1 := ()) (e2 := ()) (o := ()) 884 C dL_law_879 (by decide) (by split <;> rfl) (fun _ _ => ?_) (fun h9 _ => absurd rfl h9)
  refine v_iload 5 C dL_law_884 rfl ?_
  refine v_if_ne (e1 := ()) (e2 := ()) (o := ()) 901 C dL_law_886 (by decide) (by split <;> rfl) (fun h9 _ => ?_) (fun _ _ => ?_)
  · refine v_aload_n 3 C dL_law_889 rfl rfl ?_
    refine v_iconst (v := 0) C dL_law_890 (by decide) ?_
    refine l_out0 C dL_law_891 ?_
    rw [hk0 h9]
    refine v_iload 6 C dL_law_892 rfl ?_
    refine v_i2l (K := fun z => z) (o := b9.toInt64) C dL_law_894 rfl (fun z hz => ?_)
    subst hz
    refine v_lcmp_eq (e1 := ()) (e2 := ()) (o := ()) 901 C dL_law_895 dL_law_896 (by decide) (by split <;> rfl) (fun _ _ => ?_) (fun h8 _ => absurd rfl h8)
    refine v_goto 1636 C dL_law_901 (by decide) ?_
    refine v_lv [(0, .ref b), (1, .ref x), (2, .ref m), (3, .ref o9), (4, .int i)] [0, 1, 2, 3, 4] rfl ?_
    exact kk _ _ _ hi9
  · refine v_goto 1636 C dL_law_901 (by decide) ?_
    refine v_lv [(0, .ref b), (1, .ref x), (2, .ref m), (3, .ref o9), (4, .int i)] [0, 1, 2, 3, 4] rfl ?_
    exact kk _ _ _ hi9
def St_total (E : Nat → Nat → Nat) (T : Nat → ClassId) (x m o9 : Nat) (I : va_W → va_W → Prop) : Prop := ∀ (wl wr : va_W) (c : Nat → Int64) (x1 : Int32), I wl wr → ∃ (k : Int32) (wl' : va_W) (c' : Nat → Int64) (b : Int64) (wr' : va_W), (∀ D, MetW (SFG E) yL_total cL_total 4 (some .int) [(0, 8, 11, 13)] { frames := 8, cells := 1, slots := 6, locals := 136 } D T [.ref x, .int x1, .ref o9] (wl ++ [ocell o9 T c]) (some (.int k)) (wl' ++ [ocell o9 T c'])) ∧ (∀ D, MetM (SFG E) yX10_total cX10_total 2 (some .long) { frames := 5, cells := 0, slots := 0, locals := 117 } D T [.ref m, .int x1] wr (some (.long b)) wr') ∧ (∀ D, MetM (SFG E) yX10_thrown cX10_thrown 1 (some .int) { frames := 0, cells := 0, slots := 0, locals := 0 } D T [.ref m] wr' (some (.int k)) wr') ∧ (k = 0 → c' 0 = b) ∧ I wl' wr'
set_option maxRecDepth 100000 in
set_option maxHeartbeats 2000000 in
theorem Lk_total (C : Cx X (SFG E) T cL_law RL (some .boolean) 8 12 460) (hs : ScrOK X b L xs) (hcap : CapOK X (k + 1) (n + 6)) (hI : FirstOK x m I) (hi : I wl wr) (h0 : 0 ≤ i.toInt) (h1 : i.toInt + 3 < L) (hL : L ≤ 2048) (st : St_total E T x m o9 I) (kk : ∀ wl' wr' c', I wl' wr' → V X (k + 1) (n + 6) ((wl' ++ [ocell o9 T c']) ++ wr') [(0, .ref b), (1, .ref x), (2, .ref m), (3, .ref o9), (4, .int i)] 1636 []) : V X k n ((wl ++ [ocell o9 T c]) ++ wr) [(0, .ref b), (1, .ref x), (2, .ref m), (3, .ref o9), (4, .int i)] 904 [] := by
  refine v_aload_n 1 C dL_law_904 rfl rfl ?_
  refine l_arg 1 (jc := 1) (j := 1) (by decide) (by decide) C hs h0 h1 hL rfl rfl dL_law_905 dL_law_906 dL_law_908 dL_law_909 dL_law_910 ?_
  refine v_aload_n 3 C dL_law_911 rfl rfl ?_
  obtain ⟨kx, wl9, c9, b9, wr9, hM1, hM2, hM3, hk0, hi9⟩ := st wl wr c (xs (i.toNatClampNeg + 1)) hi
  refine l_wrap (As := [.ref x, .int (xs (i.toNatClampNeg + 1)), .ref o9]) (rest := []) 3 C hcap hM1 wmethodLink_RL_134_yL_total wcodeWith_yL_total_cL_total_4_some_int_0_8_11_13 wstatic_yL_total winitialized_RL (by decide +kernel) (by decide) ⟨rfl, rfl⟩ rfl (by decide) dL_law_912 ?_
  refine v_istore [(0, .ref b), (1, .ref x), (2, .ref m), (3, .ref o9), (4, .int i), (5, .int kx)] [1, 2, 3, 4, 5, 0] C dL_law_915 (by decide) rfl ?_
  refine v_aload_n 2 C dL_law_917 rfl rfl ?_
  refine l_arg 1 (jc := 1) (j := 1) (by decide) (by decide) C hs h0 h1 hL rfl rfl dL_law_918 dL_law_919 dL_law_921 dL_law_922 dL_law_923 ?_
  refine l_ref (As := [.int (xs (i.toNatClampNeg + 1))]) (rest := []) 1 C (hcap.mono (Nat.le_refl _) (Nat.le_refl _)) hM2 (hI _ _ hi).2 (goodV wmethodLink_RL_136_yX10_total winstanceMethod_yX10_total wselects_RX10_yX10_total_yX10_total winitialized_RX10 wcode_yX10_total_cX10_total_2_some_long) (by decide +kernel) (by decide) ⟨rfl, rfl⟩ rfl (by decide) dL_law_924 ?_
  refine v_lstore [(0, .ref b), (1, .ref x), (2, .ref m), (3, .ref o9), (4, .int i), (5, .int kx), (6, .long b9)] [1, 2, 3, 4, 5, 6, 0] C dL_law_927 (by decide) rfl ?_
  refine v_aload_n 2 C dL_law_929 rfl rfl ?_
  refine l_ref (As := []) (rest := []) 0 C (hcap.mono (Nat.le_refl _) (Nat.le_refl _)) hM3 (hI _ _ hi9).2 (goodV wmethodLink_RL_95_yX10_thrown winstanceMethod_yX10_thrown wselects_RX10_yX10_thrown_yX10_thrown winitialized_RX10 wcode_yX10_thrown_cX10_thrown_1_some_int) (by decide +kernel) (by decide) ⟨rfl, rfl⟩ rfl (by decide) dL_law_930 ?_
  refine v_iload 5 C dL_law_933 rfl ?_
  refine v_icmp_eq (e1 := ()) (e2 := ()) (o := ()) 940 C dL_law_935 (by decide) (by split <;> rfl) (fun _ _ => ?_) (fun h9 _ => absurd rfl h9)
  refine v_iload 5 C dL_law_940 rfl ?_
  refine v_if_ne (e1 := ()) (e2 := ()) (o := ()) 956 C dL_law_942 (by decide) (by split <;> rfl) (fun h9 _ => ?_) (fun _ _ => ?_)
  · refine v_aload_n 3 C dL_law_945 rfl rfl ?_
    refine v_iconst (v := 0) C dL_law_946 (by decide) ?_
    refine l_out0 C dL_law_947 ?_
    rw [hk0 h9]
    refine v_lload 6 C dL_law_948 rfl ?_
    refine v_lcmp_eq (e1 := ()) (e2 := ()) (o := ()) 956 C dL_law_950 dL_law_951 (by decide) (by split <;> rfl) (fun _ _ => ?_) (fun h8 _ => absurd rfl h8)
    refine v_goto 1636 C dL_law_956 (by decide) ?_
    refine v_lv [(0, .ref b), (1, .ref x), (2, .ref m), (3, .ref o9), (4, .int i)] [0, 1, 2, 3, 4] rfl ?_
    exact kk _ _ _ hi9
  · refine v_goto 1636 C dL_law_956 (by decide) ?_
    refine v_lv [(0, .ref b), (1, .ref x), (2, .ref m), (3, .ref o9), (4, .int i)] [0, 1, 2, 3, 4] rfl ?_
    exact kk _ _ _ hi9
def St_arrival (E : Nat → Nat → Nat) (T : Nat → ClassId) (x m o9 : Nat) (I : va_W → va_W → Prop) : Prop := ∀ (wl wr : va_W) (c : Nat → Int64) (x1 : Int32) (x2 : Int32) (x3 : Int32), I wl wr → (x3 = 0 ∨ x3 = 1) → ∃ (k : Int32) (wl' : va_W) (c' : Nat → Int64) (b : Int64) (wr' : va_W), (∀ D, MetW (SFG E) yL_arrival cL_arrival 6 (some .int) [(0, 11, 14, 21), (0, 11, 18, 13)] { frames := 8, cells := 1, slots := 6, locals := 139 } D T [.ref x, .int x1, .int x2, .int x3, .ref o9] (wl ++ [ocell o9 T c]) (some (.int k)) (wl' ++ [ocell o9 T c'])) ∧ (∀ D, MetM (SFG E) yX10_arrival cX10_arrival 4 (some .long) { frames := 5, cells := 0, slots := 0, locals := 117 } D T [.ref m, .int x1, .int x2, .int x3] wr (some (.long b)) wr') ∧ (∀ D, MetM (SFG E) yX10_thrown cX10_thrown 1 (some .int) { frames := 0, cells := 0, slots := 0, locals := 0 } D T [.ref m] wr' (some (.int k)) wr') ∧ (k = 0 → c' 0 = b) ∧ I wl' wr'
set_option maxRecDepth 100000 in
set_option maxHeartbeats 2000000 in
theorem Lk_arrival (C : Cx X (SFG E) T cL_law RL (some .boolean) 8 12 460) (hs : ScrOK X b L xs) (hcap : CapOK X (k + 1) (n + 6)) (hI : FirstOK x m I) (hi : I wl wr) (h0 : 0 ≤ i.toInt) (h1 : i.toInt + 3 < L) (hL : L ≤ 2048) (st : St_arrival E T x m o9 I) (kk : ∀ wl' wr' c', I wl' wr' → V X (k + 1) (n + 6) ((wl' ++ [ocell o9 T c']) ++ wr') [(0, .ref b), (1, .ref x), (2, .ref m), (3, .ref o9), (4, .int i)] 1636 []) : V X k n ((wl ++ [ocell o9 T c]) ++ wr) [(0, .ref b), (1, .ref x), (2, .ref m), (3, .ref o9), (4, .int i)] 959 [] := by
  refine v_aload_n 1 C dL_law_959 rfl rfl ?_
  refine l_arg 1 (jc := 1) (j := 1) (by decide) (by decide) C hs h0 h1 hL rfl rfl dL_law_960 dL_law_961 dL_law_963 dL_law_964 dL_law_965 ?_
  refine l_arg 2 (jc := 2) (j := 2) (by decide) (by decide) C hs h0 h1 hL rfl rfl dL_law_966 dL_law_967 dL_law_969 dL_law_970 dL_law_971 ?_
  refine l_arg 3 (jc := 3) (j := 3) (by decide) (by decide) C hs h0 h1 hL rfl rfl dL_law_972 dL_law_973 dL_law_975 dL_law_976 dL_law_977 ?_
  refine l_bz 985 986 C dL_law_978 (by decide) dL_law_981 dL_law_982 (by decide) dL_law_985 rfl ?_
  refine v_aload_n 3 C dL_law_986 rfl rfl ?_
  obtain ⟨kx, wl9, c9, b9, wr9, hM1, hM2, hM3, hk0, hi9⟩ := st wl wr c (xs (i.toNatClampNeg + 1)) (xs (i.toNatClampNeg + 2)) (bz (xs (i.toNatClampNeg + 3))) hi (by unfold bz; split; exact Or.inl rfl; exact Or.inr rfl)
  refine l_wrap (As := [.ref x, .int (xs (i.toNatClampNeg + 1)), .int (xs (i.toNatClampNeg + 2)), .int (bz (xs (i.toNatClampNeg + 3))), .ref o9]) (rest := []) 5 C hcap hM1 wmethodLink_RL_137_yL_arrival wcodeWith_yL_arrival_cL_arrival_6_some_int_0_11_14_21_0_11_18_13 wstatic_yL_arrival winitialized_RL (by decide +kernel) (by decide) ⟨rfl, rfl⟩ rfl (by decide) dL_law_987 ?_
  refine v_istore [(0, .ref b), (1, .ref x), (2, .ref m), (3, .ref o9), (4, .int i), (5, .int kx)] [1, 2, 3, 4, 5, 0] C dL_law_990 (by decide) rfl ?_
  refine v_aload_n 2 C dL_law_992 rfl rfl ?_
  refine l_arg 1 (jc := 1) (j := 1) (by decide) (by decide) C hs h0 h1 hL rfl rfl dL_law_993 dL_law_994 dL_law_996 dL_law_997 dL_law_998 ?_
  refine l_arg 2 (jc := 2) (j := 2) (by decide) (by decide) C hs h0 h1 hL rfl rfl dL_law_999 dL_law_1000 dL_law_1002 dL_law_1003 dL_law_1004 ?_
  refine l_arg 3 (jc := 3) (j := 3) (by decide) (by decide) C hs h0 h1 hL rfl rfl dL_law_1005 dL_law_1006 dL_law_1008 dL_law_1009 dL_law_1010 ?_
  refine l_bz 1018 1019 C dL_law_1011 (by decide) dL_law_1014 dL_law_1015 (by decide) dL_law_1018 rfl ?_
  refine l_ref (As := [.int (xs (i.toNatClampNeg + 1)), .int (xs (i.toNatClampNeg + 2)), .int (bz (xs (i.toNatClampNeg + 3)))]) (rest := []) 3 C (hcap.mono (Nat.le_refl _) (Nat.le_refl _)) hM2 (hI _ _ hi).2 (goodV wmethodLink_RL_140_yX10_arrival winstanceMethod_yX10_arrival wselects_RX10_yX10_arrival_yX10_arrival winitialized_RX10 wcode_yX10_arrival_cX10_arrival_4_some_long) (by decide +kernel) (by decide) ⟨rfl, rfl⟩ rfl (by decide) dL_law_1019 ?_
  refine v_lstore [(0, .ref b), (1, .ref x), (2, .ref m), (3, .ref o9), (4, .int i), (5, .int kx), (6, .long b9)] [1, 2, 3, 4, 5, 6, 0] C dL_law_1022 (by decide) rfl ?_
  refine v_aload_n 2 C dL_law_1024 rfl rfl ?_
  refine l_ref (As := []) (rest := []) 0 C (hcap.mono (Nat.le_refl _) (Nat.le_refl _)) hM3 (hI _ _ hi9).2 (goodV wmethodLink_RL_95_yX10_thrown winstanceMethod_yX10_thrown wselects_RX10_yX10_thrown_yX10_thrown winitialized_RX10 wcode_yX10_thrown_cX10_thrown_1_some_int) (by decide +kernel) (by decide) ⟨rfl, rfl⟩ rfl (by decide) dL_law_1025 ?_
  refine v_iload 5 C dL_law_1028 rfl ?_
  refine v_icmp_eq (e1 := ()) (e2 := ()) (o := ()) 1035 C dL_law_1030 (by decide) (by split <;> rfl) (fun _ _ => ?_) (fun h9 _ => absurd rfl h9)
  refine v_iload 5 C dL_law_1035 rfl ?_
  refine v_if_ne (e1 := ()) (e2 := ()) (o := ()) 1051 C dL_law_1037 (by decide) (by split <;> rfl) (fun h9 _ => ?_) (fun _ _ => ?_)
  · refine v_aload_n 3 C dL_law_1040 rfl rfl ?_
    refine v_iconst (v := 0) C dL_law_1041 (by decide) ?_
    refine l_out0 C dL_law_1042 ?_
    rw [hk0 h9]
    refine v_lload 6 C dL_law_1043 rfl ?_
    refine v_lcmp_eq (e1 := ()) (e2 := ()) (o := ()) 1051 C dL_law_1045 dL_law_1046 (by decide) (by split <;> rfl) (fun _ _ => ?_) (fun h8 _ => absurd rfl h8)
    refine v_goto 1636 C dL_law_1051 (by decide) ?_
    refine v_lv [(0, .ref b), (1, .ref x), (2, .ref m), (3, .ref o9), (4, .int i)] [0, 1, 2, 3, 4] rfl ?_
    exact kk _ _ _ hi9
  · refine v_goto 1636 C dL_law_1051 (by decide) ?_
    refine v_lv [(0, .ref b), (1, .ref x), (2, .ref m), (3, .ref o9), (4, .int i)] [0, 1, 2, 3, 4] rfl ?_
    exact kk _ _ _ hi9
def St_echoByte (E : Nat → Nat → Nat) (T : Nat → ClassId) (x m o9 : Nat) (I : va_W → va_W → Prop) : Prop := ∀ (wl wr : va_W) (c : Nat → Int64) (x1 : Int32), I wl wr → ∃ (k : Int32) (wl' : va_W) (c' : Nat → Int64) (b : Int32) (wr' : va_W), (∀ D, MetW (SFG E) yL_echoByte cL_echoByte 4 (some .int) [(0, 9, 12, 13)] { frames := 8, cells := 1, slots := 6, locals := 135 } D T [.ref x, .int x1, .ref o9] (wl ++ [ocell o9 T c]) (some (.int k)) (wl' ++ [ocell o9 T c'])) ∧ (∀ D, MetM (SFG E) yX10_echoByte cX10_echoByte 6 (some .int) { frames := 5, cells := 0, slots := 0, locals := 117 } D T [.ref m, .int x1] wr (some (.int b)) wr') ∧ (∀ D, MetM (SFG E) yX10_thrown cX10_thrown 1 (some .int) { frames := 0, cells := 0, slots := 0, locals := 0 } D T [.ref m] wr' (some (.int k)) wr') ∧ (k = 0 → c' 0 = b.toInt64) ∧ I wl' wr'
set_option maxRecDepth 100000 in
set_option maxHeartbeats 2000000 in
theorem Lk_echoByte (C : Cx X (SFG E) T cL_law RL (some .boolean) 8 12 460) (hs : ScrOK X b L xs) (hcap : CapOK X (k + 1) (n + 6)) (hI : FirstOK x m I) (hi : I wl wr) (h0 : 0 ≤ i.toInt) (h1 : i.toInt + 3 < L) (hL : L ≤ 2048) (st : St_echoByte E T x m o9 I) (kk : ∀ wl' wr' c', I wl' wr' → V X (k + 1) (n + 6) ((wl' ++ [ocell o9 T c']) ++ wr') [(0, .ref b), (1, .ref x), (2, .ref m), (3, .ref o9), (4, .int i)] 1636 []) : V X k n ((wl ++ [ocell o9 T c]) ++ wr) [(0, .ref b), (1, .ref x), (2, .ref m), (3, .ref o9), (4, .int i)] 1054 [] := by
  refine v_aload_n 1 C dL_law_1054 rfl rfl ?_
  refine l_arg 1 (jc := 1) (j := 1) (by decide) (by decide) C hs h0 h1 hL rfl rfl dL_law_1055 dL_law_1056 dL_law_1058 dL_law_1059 dL_law_1060 ?_
  refine v_aload_n 3 C dL_law_1061 rfl rfl ?_
  obtain ⟨kx, wl9, c9, b9, wr9, hM1, hM2, hM3, hk0, hi9⟩ := st wl wr c (xs (i.toNatClampNeg + 1)) hi
  refine l_wrap (As := [.ref x, .int (xs (i.toNatClampNeg + 1)), .ref o9]) (rest := []) 3 C hcap hM1 wmethodLink_RL_141_yL_echoByte wcodeWith_yL_echoByte_cL_echoByte_4_some_int_0_9_12_13 wstatic_yL_echoByte winitialized_RL (by decide +kernel) (by decide) ⟨rfl, rfl⟩ rfl (by decide) dL_law_1062 ?_
  refine v_istore [(0, .ref b), (1, .ref x), (2, .ref m), (3, .ref o9), (4, .int i), (5, .int kx)] [1, 2, 3, 4, 5, 0] C dL_law_1065 (by decide) rfl ?_
  refine v_aload_n 2 C dL_law_1067 rfl rfl ?_
  refine l_arg 1 (jc := 1) (j := 1) (by decide) (by decide) C hs h0 h1 hL rfl rfl dL_law_1068 dL_law_1069 dL_law_1071 dL_law_1072 dL_law_1073 ?_
  refine l_ref (As := [.int (xs (i.toNatClampNeg + 1))]) (rest := []) 1 C (hcap.mono (Nat.le_refl _) (Nat.le_refl _)) hM2 (hI _ _ hi).2 (goodV wmethodLink_RL_143_yX10_echoByte winstanceMethod_yX10_echoByte wselects_RX10_yX10_echoByte_yX10_echoByte winitialized_RX10 wcode_yX10_echoByte_cX10_echoByte_6_some_int) (by decide +kernel) (by decide) ⟨rfl, rfl⟩ rfl (by decide) dL_law_1074 ?_
  refine v_istore [(0, .ref b), (1, .ref x), (2, .ref m), (3, .ref o9), (4, .int i), (5, .int kx), (6, .int b9)] [1, 2, 3, 4, 5, 6, 0] C dL_law_1077 (by decide) rfl ?_
  refine v_aload_n 2 C dL_law_1079 rfl rfl ?_
  refine l_ref (As := []) (rest := []) 0 C (hcap.mono (Nat.le_refl _) (Nat.le_refl _)) hM3 (hI _ _ hi9).2 (goodV wmethodLink_RL_95_yX10_thrown winstanceMethod_yX10_thrown wselects_RX10_yX10_thrown_yX10_thrown winitialized_RX10 wcode_yX10_thrown_cX10_thrown_1_some_int) (by decide +kernel) (by decide) ⟨rfl, rfl⟩ rfl (by decide) dL_law_1080 ?_
  refine v_iload 5 C dL_law_1083 rfl ?_
  refine v_icmp_eq (e1 := ()) (e2 := ()) (o := ()) 1090 C dL_law_1085 (by decide) (by split <;> rfl) (fun _ _ => ?_) (fun h9 _ => absurd rfl h9)
  refine v_iload 5 C dL_law_1090 rfl ?_
  refine v_if_ne (e1 := ()) (e2 := ()) (o := ()) 1107 C dL_law_1092 (by decide) (by split <;> rfl) (fun h9 _ => ?_) (fun _ _ => ?_)
  · refine v_aload_n 3 C dL_law_1095 rfl rfl ?_
    refine v_iconst (v := 0) C dL_law_1096 (by decide) ?_
    refine l_out0 C dL_law_1097 ?_
    rw [hk0 h9]
    refine v_iload 6 C dL_law_1098 rfl ?_
    refine v_i2l (K := fun z => z) (o := b9.toInt64) C dL_law_1100 rfl (fun z hz => ?_)
    subst hz
    refine v_lcmp_eq (e1 := ()) (e2 := ()) (o := ()) 1107 C dL_law_1101 dL_law_1102 (by decide) (by split <;> rfl) (fun _ _ => ?_) (fun h8 _ => absurd rfl h8)
    refine v_goto 1636 C dL_law_1107 (by decide) ?_
    refine v_lv [(0, .ref b), (1, .ref x), (2, .ref m), (3, .ref o9), (4, .int i)] [0, 1, 2, 3, 4] rfl ?_
    exact kk _ _ _ hi9
  · refine v_goto 1636 C dL_law_1107 (by decide) ?_
    refine v_lv [(0, .ref b), (1, .ref x), (2, .ref m), (3, .ref o9), (4, .int i)] [0, 1, 2, 3, 4] rfl ?_
    exact kk _ _ _ hi9
def St_keepSound (E : Nat → Nat → Nat) (T : Nat → ClassId) (x m o9 : Nat) (I : va_W → va_W → Prop) : Prop := ∀ (wl wr : va_W), I wl wr → ∃ (r : Int32) (wl' wr' : va_W), (∀ D, MetM (SFG E) yX9_keepSound cX9_keepSound 1 (some .int) { frames := 6, cells := 0, slots := 0, locals := 152 } D T [.ref x] wl (some (.int r)) wl') ∧ (∀ D, MetM (SFG E) yX10_keepSound cX10_keepSound 1 (some .int) { frames := 6, cells := 0, slots := 0, locals := 140 } D T [.ref m] wr (some (.int r)) wr') ∧ I wl' wr'
set_option maxRecDepth 100000 in
set_option maxHeartbeats 2000000 in
theorem Lk_keepSound (C : Cx X (SFG E) T cL_law RL (some .boolean) 8 12 460) (hs : ScrOK X b L xs) (hcap : CapOK X (k + 1) (n + 6)) (hI : FirstOK x m I) (hi : I wl wr) (h0 : 0 ≤ i.toInt) (h1 : i.toInt + 3 < L) (hL : L ≤ 2048) (st : St_keepSound E T x m o9 I) (kk : ∀ wl' wr' c', I wl' wr' → V X (k + 1) (n + 6) ((wl' ++ [ocell o9 T c']) ++ wr') [(0, .ref b), (1, .ref x), (2, .ref m), (3, .ref o9), (4, .int i)] 1636 []) : V X k n ((wl ++ [ocell o9 T c]) ++ wr) [(0, .ref b), (1, .ref x), (2, .ref m), (3, .ref o9), (4, .int i)] 1110 [] := by
  refine v_aload_n 1 C dL_law_1110 rfl rfl ?_
  obtain ⟨r9, wl9, wr9, hM1, hM2, hi9⟩ := st wl wr hi
  refine l_cls (As := []) (rest := []) 0 C (hcap.mono (Nat.le_add_right _ _) (Nat.le_add_right _ _)) hM1 (hI _ _ hi).1 (goodV wmethodLink_RL_144_yX9_keepSound winstanceMethod_yX9_keepSound wselects_RX9_yX9_keepSound_yX9_keepSound winitialized_RX9 wcode_yX9_keepSound_cX9_keepSound_1_some_int) (by decide +kernel) (by decide) ⟨rfl, rfl⟩ rfl (by decide) dL_law_1111 ?_
  refine v_aload_n 2 C dL_law_1114 rfl rfl ?_
  refine l_ref (As := []) (rest := [.int r9]) 0 C (hcap.mono (Nat.le_add_right _ _) (Nat.le_add_right _ _)) hM2 (hI _ _ hi).2 (goodV wmethodLink_RL_147_yX10_keepSound winstanceMethod_yX10_keepSound wselects_RX10_yX10_keepSound_yX10_keepSound winitialized_RX10 wcode_yX10_keepSound_cX10_keepSound_1_some_int) (by decide +kernel) (by decide) ⟨rfl, rfl⟩ rfl (Nat.le_of_ble_eq_true rfl) dL_law_1115 ?_
  refine v_icmp_eq (e1 := ()) (e2 := ()) (o := ()) 1636 C dL_law_1118 (by decide) (by split <;> rfl) (fun _ _ => ?_) (fun h9 _ => absurd rfl h9)
  exact v_widen (Nat.le_add_right _ _) (Nat.le_add_right _ _) (kk _ _ _ hi9)
def St_differences (E : Nat → Nat → Nat) (T : Nat → ClassId) (x m o9 : Nat) (I : va_W → va_W → Prop) : Prop := ∀ (wl wr : va_W), I wl wr → ∃ (r : Int32) (wl' wr' : va_W), (∀ D, MetM (SFG E) yX9_differences cX9_differences 4 (some .int) { frames := 4, cells := 0, slots := 0, locals := 102 } D T [.ref x] wl (some (.int r)) wl') ∧ (∀ D, MetM (SFG E) yX10_differences cX10_differences 1 (some .int) { frames := 5, cells := 0, slots := 0, locals := 117 } D T [.ref m] wr (some (.int r)) wr') ∧ I wl' wr'
set_option maxRecDepth 100000 in
set_option maxHeartbeats 2000000 in
theorem Lk_differences (C : Cx X (SFG E) T cL_law RL (some .boolean) 8 12 460) (hs : ScrOK X b L xs) (hcap : CapOK X (k + 1) (n + 6)) (hI : FirstOK x m I) (hi : I wl wr) (h0 : 0 ≤ i.toInt) (h1 : i.toInt + 3 < L) (hL : L ≤ 2048) (st : St_differences E T x m o9 I) (kk : ∀ wl' wr' c', I wl' wr' → V X (k + 1) (n + 6) ((wl' ++ [ocell o9 T c']) ++ wr') [(0, .ref b), (1, .ref x), (2, .ref m), (3, .ref o9), (4, .int i)] 1636 []) : V X k n ((wl ++ [ocell o9 T c]) ++ wr) [(0, .ref b), (1, .ref x), (2, .ref m), (3, .ref o9), (4, .int i)] 1123 [] := by
  refine v_aload_n 1 C dL_law_1123 rfl rfl ?_
  obtain ⟨r9, wl9, wr9, hM1, hM2, hi9⟩ := st wl wr hi
  refine l_cls (As := []) (rest := []) 0 C (hcap.mono (Nat.le_add_right _ _) (Nat.le_add_right _ _)) hM1 (hI _ _ hi).1 (goodV wmethodLink_RL_148_yX9_differences winstanceMethod_yX9_differences wselects_RX9_yX9_differences_yX9_differences winitialized_RX9 wcode_yX9_differences_cX9_differences_4_some_int) (by decide +kernel) (by decide) ⟨rfl, rfl⟩ rfl (by decide) dL_law_1124 ?_
  refine v_aload_n 2 C dL_law_1127 rfl rfl ?_
  refine l_ref (As := []) (rest := [.int r9]) 0 C (hcap.mono (Nat.le_add_right _ _) (Nat.le_add_right _ _)) hM2 (hI _ _ hi).2 (goodV wmethodLink_RL_151_yX10_differences winstanceMethod_yX10_differences wselects_RX10_yX10_differences_yX10_differences winitialized_RX10 wcode_yX10_differences_cX10_differences_1_some_int) (by decide +kernel) (by decide) ⟨rfl, rfl⟩ rfl (Nat.le_of_ble_eq_true rfl) dL_law_1128 ?_
  refine v_icmp_eq (e1 := ()) (e2 := ()) (o := ()) 1636 C dL_law_1131 (by decide) (by split <;> rfl) (fun _ _ => ?_) (fun h9 _ => absurd rfl h9)
  exact v_widen (Nat.le_add_right _ _) (Nat.le_add_right _ _) (kk _ _ _ hi9)
def St_fault (E : Nat → Nat → Nat) (T : Nat → ClassId) (x m o9 : Nat) (I : va_W → va_W → Prop) : Prop := ∀ (wl wr : va_W) (c : Nat → Int64) (x1 : Int32), I wl wr → ∃ (k : Int32) (wl' : va_W) (c' : Nat → Int64) (b : Int32) (wr' : va_W), (∀ D, MetW (SFG E) yL_fault cL_fault 4 (some .int) [(0, 9, 12, 13)] { frames := 8, cells := 1, slots := 6, locals := 139 } D T [.ref x, .int x1, .ref o9] (wl ++ [ocell o9 T c]) (some (.int k)) (wl' ++ [ocell o9 T c'])) ∧ (∀ D, MetM (SFG E) yX10_fault cX10_fault 2 (some .int) { frames := 5, cells := 0, slots := 0, locals := 117 } D T [.ref m, .int x1] wr (some (.int b)) wr') ∧ (∀ D, MetM (SFG E) yX10_thrown cX10_thrown 1 (some .int) { frames := 0, cells := 0, slots := 0, locals := 0 } D T [.ref m] wr' (some (.int k)) wr') ∧ (k = 0 → c' 0 = b.toInt64) ∧ I wl' wr'
set_option maxRecDepth 100000 in
set_option maxHeartbeats 2000000 in
theorem Lk_fault (C : Cx X (SFG E) T cL_law RL (some .boolean) 8 12 460) (hs : ScrOK X b L xs) (hcap : CapOK X (k + 1) (n + 6)) (hI : FirstOK x m I) (hi : I wl wr) (h0 : 0 ≤ i.toInt) (h1 : i.toInt + 3 < L) (hL : L ≤ 2048) (st : St_fault E T x m o9 I) (kk : ∀ wl' wr' c', I wl' wr' → V X (k + 1) (n + 6) ((wl' ++ [ocell o9 T c']) ++ wr') [(0, .ref b), (1, .ref x), (2, .ref m), (3, .ref o9), (4, .int i)] 1636 []) : V X k n ((wl ++ [ocell o9 T c]) ++ wr) [(0, .ref b), (1, .ref x), (2, .ref m), (3, .ref o9), (4, .int i)] 1136 [] := by
  refine v_aload_n 1 C dL_law_1136 rfl rfl ?_
  refine l_arg 1 (jc := 1) (j := 1) (by decide) (by decide) C hs h0 h1 hL rfl rfl dL_law_1137 dL_law_1138 dL_law_1140 dL_law_1141 dL_law_1142 ?_
  refine v_aload_n 3 C dL_law_1143 rfl rfl ?_
  obtain ⟨kx, wl9, c9, b9, wr9, hM1, hM2, hM3, hk0, hi9⟩ := st wl wr c (xs (i.toNatClampNeg + 1)) hi
  refine l_wrap (As := [.ref x, .int (xs (i.toNatClampNeg + 1)), .ref o9]) (rest := []) 3 C hcap hM1 wmethodLink_RL_152_yL_fault wcodeWith_yL_fault_cL_fault_4_some_int_0_9_12_13 wstatic_yL_fault winitialized_RL (by decide +kernel) (by decide) ⟨rfl, rfl⟩ rfl (by decide) dL_law_1144 ?_
  refine v_istore [(0, .ref b), (1, .ref x), (2, .ref m), (3, .ref o9), (4, .int i), (5, .int kx)] [1, 2, 3, 4, 5, 0] C dL_law_1147 (by decide) rfl ?_
  refine v_aload_n 2 C dL_law_1149 rfl rfl ?_
  refine l_arg 1 (jc := 1) (j := 1) (by decide) (by decide) C hs h0 h1 hL rfl rfl dL_law_1150 dL_law_1151 dL_law_1153 dL_law_1154 dL_law_1155 ?_
  refine l_ref (As := [.int (xs (i.toNatClampNeg + 1))]) (rest := []) 1 C (hcap.mono (Nat.le_refl _) (Nat.le_refl _)) hM2 (hI _ _ hi).2 (goodV wmethodLink_RL_154_yX10_fault winstanceMethod_yX10_fault wselects_RX10_yX10_fault_yX10_fault winitialized_RX10 wcode_yX10_fault_cX10_fault_2_some_int) (by decide +kernel) (by decide) ⟨rfl, rfl⟩ rfl (by decide) dL_law_1156 ?_
  refine v_istore [(0, .ref b), (1, .ref x), (2, .ref m), (3, .ref o9), (4, .int i), (5, .int kx), (6, .int b9)] [1, 2, 3, 4, 5, 6, 0] C dL_law_1159 (by decide) rfl ?_
  refine v_aload_n 2 C dL_law_1161 rfl rfl ?_
  refine l_ref (As := []) (rest := []) 0 C (hcap.mono (Nat.le_refl _) (Nat.le_refl _)) hM3 (hI _ _ hi9).2 (goodV wmethodLink_RL_95_yX10_thrown winstanceMethod_yX10_thrown wselects_RX10_yX10_thrown_yX10_thrown winitialized_RX10 wcode_yX10_thrown_cX10_thrown_1_some_int) (by decide +kernel) (by decide) ⟨rfl, rfl⟩ rfl (by decide) dL_law_1162 ?_
  refine v_iload 5 C dL_law_1165 rfl ?_
  refine v_icmp_eq (e1 := ()) (e2 := ()) (o := ()) 1172 C dL_law_1167 (by decide) (by split <;> rfl) (fun _ _ => ?_) (fun h9 _ => absurd rfl h9)
  refine v_iload 5 C dL_law_1172 rfl ?_
  refine v_if_ne (e1 := ()) (e2 := ()) (o := ()) 1189 C dL_law_1174 (by decide) (by split <;> rfl) (fun h9 _ => ?_) (fun _ _ => ?_)
  · refine v_aload_n 3 C dL_law_1177 rfl rfl ?_
    refine v_iconst (v := 0) C dL_law_1178 (by decide) ?_
    refine l_out0 C dL_law_1179 ?_
    rw [hk0 h9]
    refine v_iload 6 C dL_law_1180 rfl ?_
    refine v_i2l (K := fun z => z) (o := b9.toInt64) C dL_law_1182 rfl (fun z hz => ?_)
    subst hz
    refine v_lcmp_eq (e1 := ()) (e2 := ()) (o := ()) 1189 C dL_law_1183 dL_law_1184 (by decide) (by split <;> rfl) (fun _ _ => ?_) (fun h8 _ => absurd rfl h8)
    refine v_goto 1636 C dL_law_1189 (by decide) ?_
    refine v_lv [(0, .ref b), (1, .ref x), (2, .ref m), (3, .ref o9), (4, .int i)] [0, 1, 2, 3, 4] rfl ?_
    exact kk _ _ _ hi9
  · refine v_goto 1636 C dL_law_1189 (by decide) ?_
    refine v_lv [(0, .ref b), (1, .ref x), (2, .ref m), (3, .ref o9), (4, .int i)] [0, 1, 2, 3, 4] rfl ?_
    exact kk _ _ _ hi9
def St_observe (E : Nat → Nat → Nat) (T : Nat → ClassId) (x m o9 : Nat) (I : va_W → va_W → Prop) : Prop := ∀ (wl wr : va_W), I wl wr → ∃ (r : Int32) (wl' wr' : va_W), (∀ D, MetM (SFG E) yX9_observe cX9_observe 1 (some .int) { frames := 6, cells := 0, slots := 0, locals := 152 } D T [.ref x] wl (some (.int r)) wl') ∧ (∀ D, MetM (SFG E) yX10_observe cX10_observe 1 (some .int) { frames := 6, cells := 0, slots := 0, locals := 140 } D T [.ref m] wr (some (.int r)) wr') ∧ I wl' wr'
set_option maxRecDepth 100000 in
set_option maxHeartbeats 2000000 in
theorem Lk_observe (C : Cx X (SFG E) T cL_law RL (some .boolean) 8 12 460) (hs : ScrOK X b L xs) (hcap : CapOK X (k + 1) (n + 6)) (hI : FirstOK x m I) (hi : I wl wr) (h0 : 0 ≤ i.toInt) (h1 : i.toInt + 3 < L) (hL : L ≤ 2048) (st : St_observe E T x m o9 I) (kk : ∀ wl' wr' c', I wl' wr' → V X (k + 1) (n + 6) ((wl' ++ [ocell o9 T c']) ++ wr') [(0, .ref b), (1, .ref x), (2, .ref m), (3, .ref o9), (4, .int i)] 1636 []) : V X k n ((wl ++ [ocell o9 T c]) ++ wr) [(0, .ref b), (1, .ref x), (2, .ref m), (3, .ref o9), (4, .int i)] 1192 [] := by
  refine v_aload_n 1 C dL_law_1192 rfl rfl ?_
  obtain ⟨r9, wl9, wr9, hM1, hM2, hi9⟩ := st wl wr hi
  refine l_cls (As := []) (rest := []) 0 C (hcap.mono (Nat.le_add_right _ _) (Nat.le_add_right _ _)) hM1 (hI _ _ hi).1 (goodV wmethodLink_RL_155_yX9_observe winstanceMethod_yX9_observe wselects_RX9_yX9_observe_yX9_observe winitialized_RX9 wcode_yX9_observe_cX9_observe_1_some_int) (by decide +kernel) (by decide) ⟨rfl, rfl⟩ rfl (by decide) dL_law_1193 ?_
  refine v_aload_n 2 C dL_law_1196 rfl rfl ?_
  refine l_ref (As := []) (rest := [.int r9]) 0 C (hcap.mono (Nat.le_add_right _ _) (Nat.le_add_right _ _)) hM2 (hI _ _ hi).2 (goodV wmethodLink_RL_158_yX10_observe winstanceMethod_yX10_observe wselects_RX10_yX10_observe_yX10_observe winitialized_RX10 wcode_yX10_observe_cX10_observe_1_some_int) (by decide +kernel) (by decide) ⟨rfl, rfl⟩ rfl (Nat.le_of_ble_eq_true rfl) dL_law_1197 ?_
  refine v_icmp_eq (e1 := ()) (e2 := ()) (o := ()) 1636 C dL_law_1200 (by decide) (by split <;> rfl) (fun _ _ => ?_) (fun h9 _ => absurd rfl h9)
  exact v_widen (Nat.le_add_right _ _) (Nat.le_add_right _ _) (kk _ _ _ hi9)
def St_setObserved (E : Nat → Nat → Nat) (T : Nat → ClassId) (x m o9 : Nat) (I : va_W → va_W → Prop) : Prop := ∀ (wl wr : va_W) (c : Nat → Int64) (x1 : Int32) (x2 : Int64), I wl wr → ∃ (k : Int32) (wl' : va_W) (c' : Nat → Int64) (b : Int64) (wr' : va_W), (∀ D, MetW (SFG E) yL_setObserved cL_setObserved 6 (some .int) [(0, 10, 13, 13)] { frames := 8, cells := 1, slots := 6, locals := 169 } D T [.ref x, .int x1, .long x2, .ref o9] (wl ++ [ocell o9 T c]) (some (.int k)) (wl' ++ [ocell o9 T c'])) ∧ (∀ D, MetM (SFG E) yX10_setObserved cX10_setObserved 6 (some .long) { frames := 1, cells := 0, slots := 0, locals := 25 } D T [.ref m, .int x1, .long x2] wr (some (.long b)) wr') ∧ (∀ D, MetM (SFG E) yX10_thrown cX10_thrown 1 (some .int) { frames := 0, cells := 0, slots := 0, locals := 0 } D T [.ref m] wr' (some (.int k)) wr') ∧ (k = 0 → c' 0 = b) ∧ I wl' wr'
set_option maxRecDepth 100000 in
set_option maxHeartbeats 2000000 in
theorem Lk_setObserved (C : Cx X (SFG E) T cL_law RL (some .boolean) 8 12 460) (hs : ScrOK X b L xs) (hcap : CapOK X (k + 1) (n + 6)) (hI : FirstOK x m I) (hi : I wl wr) (h0 : 0 ≤ i.toInt) (h1 : i.toInt + 3 < L) (hL : L ≤ 2048) (st : St_setObserved E T x m o9 I) (kk : ∀ wl' wr' c', I wl' wr' → V X (k + 1) (n + 6) ((wl' ++ [ocell o9 T c']) ++ wr') [(0, .ref b), (1, .ref x), (2, .ref m), (3, .ref o9), (4, .int i)] 1636 []) : V X k n ((wl ++ [ocell o9 T c]) ++ wr) [(0, .ref b), (1, .ref x), (2, .ref m), (3, .ref o9), (4, .int i)] 1205 [] := by
  refine v_aload_n 1 C dL_law_1205 rfl rfl ?_
  refine l_arg 1 (jc := 1) (j := 1) (by decide) (by decide) C hs h0 h1 hL rfl rfl dL_law_1206 dL_law_1207 dL_law_1209 dL_law_1210 dL_law_1211 ?_
  refine l_arg 2 (jc := 2) (j := 2) (by decide) (by decide) C hs h0 h1 hL rfl rfl dL_law_1212 dL_law_1213 dL_law_1215 dL_law_1216 dL_law_1217 ?_
  refine v_i2l (K := fun z => z) (o := (xs (i.toNatClampNeg + 2)).toInt64) C dL_law_1218 rfl (fun z hz => ?_)
  subst hz
  refine v_bipush (v := 32) C dL_law_1219 (by decide) ?_
  refine v_lshl (K := fun z => z) (o := ((xs (i.toNatClampNeg + 2)).toInt64 <<< ((32 : Int32).toInt64 &&& 63))) C dL_law_1221 rfl (fun z hz => ?_)
  subst hz
  refine l_arg 3 (jc := 3) (j := 3) (by decide) (by decide) C hs h0 h1 hL rfl rfl dL_law_1222 dL_law_1223 dL_law_1225 dL_law_1226 dL_law_1227 ?_
  refine v_i2l (K := fun z => z) (o := (xs (i.toNatClampNeg + 3)).toInt64) C dL_law_1228 rfl (fun z hz => ?_)
  subst hz
  refine v_ldc2 C wconstantLong_RL_159_4294967295 dL_law_1229 ?_
  refine v_land (K := fun z => z) (o := ((xs (i.toNatClampNeg + 3)).toInt64 &&& 4294967295)) C dL_law_1232 rfl (fun z hz => ?_)
  subst hz
  refine v_lor (K := fun z => z) (o := oz (xs (i.toNatClampNeg + 2)) (xs (i.toNatClampNeg + 3))) C dL_law_1233 rfl (fun z hz => ?_)
  subst hz
  refine v_aload_n 3 C dL_law_1234 rfl rfl ?_
  obtain ⟨kx, wl9, c9, b9, wr9, hM1, hM2, hM3, hk0, hi9⟩ := st wl wr c (xs (i.toNatClampNeg + 1)) (oz (xs (i.toNatClampNeg + 2)) (xs (i.toNatClampNeg + 3))) hi
  refine l_wrap (As := [.ref x, .int (xs (i.toNatClampNeg + 1)), .long (oz (xs (i.toNatClampNeg + 2)) (xs (i.toNatClampNeg + 3))), .ref o9]) (rest := []) 4 C hcap hM1 wmethodLink_RL_161_yL_setObserved wcodeWith_yL_setObserved_cL_setObserved_6_some_int_0_10_13_13 wstatic_yL_setObserved winitialized_RL (by decide +kernel) (by decide) ⟨rfl, rfl⟩ rfl (by decide) dL_law_1235 ?_
  refine v_istore [(0, .ref b), (1, .ref x), (2, .ref m), (3, .ref o9), (4, .int i), (5, .int kx)] [1, 2, 3, 4, 5, 0] C dL_law_1238 (by decide) rfl ?_
  refine v_aload_n 2 C dL_law_1240 rfl rfl ?_
  refine l_arg 1 (jc := 1) (j := 1) (by decide) (by decide) C hs h0 h1 hL rfl rfl dL_law_1241 dL_law_1242 dL_law_1244 dL_law_1245 dL_law_1246 ?_
  refine l_arg 2 (jc := 2) (j := 2) (by decide) (by decide) C hs h0 h1 hL rfl rfl dL_law_1247 dL_law_1248 dL_law_1250 dL_law_1251 dL_law_1252 ?_
  refine v_i2l (K := fun z => z) (o := (xs (i.toNatClampNeg + 2)).toInt64) C dL_law_1253 rfl (fun z hz => ?_)
  subst hz
  refine v_bipush (v := 32) C dL_law_1254 (by decide) ?_
  refine v_lshl (K := fun z => z) (o := ((xs (i.toNatClampNeg + 2)).toInt64 <<< ((32 : Int32).toInt64 &&& 63))) C dL_law_1256 rfl (fun z hz => ?_)
  subst hz
  refine l_arg 3 (jc := 3) (j := 3) (by decide) (by decide) C hs h0 h1 hL rfl rfl dL_law_1257 dL_law_1258 dL_law_1260 dL_law_1261 dL_law_1262 ?_
  refine v_i2l (K := fun z => z) (o := (xs (i.toNatClampNeg + 3)).toInt64) C dL_law_1263 rfl (fun z hz => ?_)
  subst hz
  refine v_ldc2 C wconstantLong_RL_159_4294967295 dL_law_1264 ?_
  refine v_land (K := fun z => z) (o := ((xs (i.toNatClampNeg + 3)).toInt64 &&& 4294967295)) C dL_law_1267 rfl (fun z hz => ?_)
  subst hz
  refine v_lor (K := fun z => z) (o := oz (xs (i.toNatClampNeg + 2)) (xs (i.toNatClampNeg + 3))) C dL_law_1268 rfl (fun z hz => ?_)
  subst hz
  refine l_ref (As := [.int (xs (i.toNatClampNeg + 1)), .long (oz (xs (i.toNatClampNeg + 2)) (xs (i.toNatClampNeg + 3)))]) (rest := []) 2 C (hcap.mono (Nat.le_refl _) (Nat.le_refl _)) hM2 (hI _ _ hi).2 (goodV wmethodLink_RL_164_yX10_setObserved winstanceMethod_yX10_setObserved wselects_RX10_yX10_setObserved_yX10_setObserved winitialized_RX10 wcode_yX10_setObserved_cX10_setObserved_6_some_long) (by decide +kernel) (by decide) ⟨rfl, rfl⟩ rfl (by decide) dL_law_1269 ?_
  refine v_lstore [(0, .ref b), (1, .ref x), (2, .ref m), (3, .ref o9), (4, .int i), (5, .int kx), (6, .long b9)] [1, 2, 3, 4, 5, 6, 0] C dL_law_1272 (by decide) rfl ?_
  refine v_aload_n 2 C dL_law_1274 rfl rfl ?_
  refine l_ref (As := []) (rest := []) 0 C (hcap.mono (Nat.le_refl _) (Nat.le_refl _)) hM3 (hI _ _ hi9).2 (goodV wmethodLink_RL_95_yX10_thrown winstanceMethod_yX10_thrown wselects_RX10_yX10_thrown_yX10_thrown winitialized_RX10 wcode_yX10_thrown_cX10_thrown_1_some_int) (by decide +kernel) (by decide) ⟨rfl, rfl⟩ rfl (by decide) dL_law_1275 ?_
  refine v_iload 5 C dL_law_1278 rfl ?_
  refine v_icmp_eq (e1 := ()) (e2 := ()) (o := ()) 1285 C dL_law_1280 (by decide) (by split <;> rfl) (fun _ _ => ?_) (fun h9 _ => absurd rfl h9)
  refine v_iload 5 C dL_law_1285 rfl ?_
  refine v_if_ne (e1 := ()) (e2 := ()) (o := ()) 1301 C dL_law_1287 (by decide) (by split <;> rfl) (fun h9 _ => ?_) (fun _ _ => ?_)
  · refine v_aload_n 3 C dL_law_1290 rfl rfl ?_
    refine v_iconst (v := 0) C dL_law_1291 (by decide) ?_
    refine l_out0 C dL_law_1292 ?_
    rw [hk0 h9]
    refine v_lload 6 C dL_law_1293 rfl ?_
    refine v_lcmp_eq (e1 := ()) (e2 := ()) (o := ()) 1301 C dL_law_1295 dL_law_1296 (by decide) (by split <;> rfl) (fun _ _ => ?_) (fun h8 _ => absurd rfl h8)
    refine v_goto 1636 C dL_law_1301 (by decide) ?_
    refine v_lv [(0, .ref b), (1, .ref x), (2, .ref m), (3, .ref o9), (4, .int i)] [0, 1, 2, 3, 4] rfl ?_
    exact kk _ _ _ hi9
  · refine v_goto 1636 C dL_law_1301 (by decide) ?_
    refine v_lv [(0, .ref b), (1, .ref x), (2, .ref m), (3, .ref o9), (4, .int i)] [0, 1, 2, 3, 4] rfl ?_
    exact kk _ _ _ hi9
def St_observed (E : Nat → Nat → Nat) (T : Nat → ClassId) (x m o9 : Nat) (I : va_W → va_W → Prop) : Prop := ∀ (wl wr : va_W) (c : Nat → Int64) (x1 : Int32), I wl wr → ∃ (k : Int32) (wl' : va_W) (c' : Nat → Int64) (b : Int64) (wr' : va_W), (∀ D, MetW (SFG E) yL_observed cL_observed 4 (some .int) [(0, 8, 11, 13)] { frames := 8, cells := 1, slots := 6, locals := 136 } D T [.ref x, .int x1, .ref o9] (wl ++ [ocell o9 T c]) (some (.int k)) (wl' ++ [ocell o9 T c'])) ∧ (∀ D, MetM (SFG E) yX10_observed cX10_observed 2 (some .long) { frames := 1, cells := 0, slots := 0, locals := 25 } D T [.ref m, .int x1] wr (some (.long b)) wr') ∧ (∀ D, MetM (SFG E) yX10_thrown cX10_thrown 1 (some .int) { frames := 0, cells := 0, slots := 0, locals := 0 } D T [.ref m] wr' (some (.int k)) wr') ∧ (k = 0 → c' 0 = b) ∧ I wl' wr'
set_option maxRecDepth 100000 in
set_option maxHeartbeats 2000000 in
theorem Lk_observed (C : Cx X (SFG E) T cL_law RL (some .boolean) 8 12 460) (hs : ScrOK X b L xs) (hcap : CapOK X (k + 1) (n + 6)) (hI : FirstOK x m I) (hi : I wl wr) (h0 : 0 ≤ i.toInt) (h1 : i.toInt + 3 < L) (hL : L ≤ 2048) (st : St_observed E T x m o9 I) (kk : ∀ wl' wr' c', I wl' wr' → V X (k + 1) (n + 6) ((wl' ++ [ocell o9 T c']) ++ wr') [(0, .ref b), (1, .ref x), (2, .ref m), (3, .ref o9), (4, .int i)] 1636 []) : V X k n ((wl ++ [ocell o9 T c]) ++ wr) [(0, .ref b), (1, .ref x), (2, .ref m), (3, .ref o9), (4, .int i)] 1304 [] := by
  refine v_aload_n 1 C dL_law_1304 rfl rfl ?_
  refine l_arg 1 (jc := 1) (j := 1) (by decide) (by decide) C hs h0 h1 hL rfl rfl dL_law_1305 dL_law_1306 dL_law_1308 dL_law_1309 dL_law_1310 ?_
  refine v_aload_n 3 C dL_law_1311 rfl rfl ?_
  obtain ⟨kx, wl9, c9, b9, wr9, hM1, hM2, hM3, hk0, hi9⟩ := st wl wr c (xs (i.toNatClampNeg + 1)) hi
  refine l_wrap (As := [.ref x, .int (xs (i.toNatClampNeg + 1)), .ref o9]) (rest := []) 3 C hcap hM1 wmethodLink_RL_165_yL_observed wcodeWith_yL_observed_cL_observed_4_some_int_0_8_11_13 wstatic_yL_observed winitialized_RL (by decide +kernel) (by decide) ⟨rfl, rfl⟩ rfl (by decide) dL_law_1312 ?_
  refine v_istore [(0, .ref b), (1, .ref x), (2, .ref m), (3, .ref o9), (4, .int i), (5, .int kx)] [1, 2, 3, 4, 5, 0] C dL_law_1315 (by decide) rfl ?_
  refine v_aload_n 2 C dL_law_1317 rfl rfl ?_
  refine l_arg 1 (jc := 1) (j := 1) (by decide) (by decide) C hs h0 h1 hL rfl rfl dL_law_1318 dL_law_1319 dL_law_1321 dL_law_1322 dL_law_1323 ?_
  refine l_ref (As := [.int (xs (i.toNatClampNeg + 1))]) (rest := []) 1 C (hcap.mono (Nat.le_refl _) (Nat.le_refl _)) hM2 (hI _ _ hi).2 (goodV wmethodLink_RL_167_yX10_observed winstanceMethod_yX10_observed wselects_RX10_yX10_observed_yX10_observed winitialized_RX10 wcode_yX10_observed_cX10_observed_2_some_long) (by decide +kernel) (by decide) ⟨rfl, rfl⟩ rfl (by decide) dL_law_1324 ?_
  refine v_lstore [(0, .ref b), (1, .ref x), (2, .ref m), (3, .ref o9), (4, .int i), (5, .int kx), (6, .long b9)] [1, 2, 3, 4, 5, 6, 0] C dL_law_1327 (by decide) rfl ?_
  refine v_aload_n 2 C dL_law_1329 rfl rfl ?_
  refine l_ref (As := []) (rest := []) 0 C (hcap.mono (Nat.le_refl _) (Nat.le_refl _)) hM3 (hI _ _ hi9).2 (goodV wmethodLink_RL_95_yX10_thrown winstanceMethod_yX10_thrown wselects_RX10_yX10_thrown_yX10_thrown winitialized_RX10 wcode_yX10_thrown_cX10_thrown_1_some_int) (by decide +kernel) (by decide) ⟨rfl, rfl⟩ rfl (by decide) dL_law_1330 ?_
  refine v_iload 5 C dL_law_1333 rfl ?_
  refine v_icmp_eq (e1 := ()) (e2 := ()) (o := ()) 1340 C dL_law_1335 (by decide) (by split <;> rfl) (fun _ _ => ?_) (fun h9 _ => absurd rfl h9)
  refine v_iload 5 C dL_law_1340 rfl ?_
  refine v_if_ne (e1 := ()) (e2 := ()) (o := ()) 1356 C dL_law_1342 (by decide) (by split <;> rfl) (fun h9 _ => ?_) (fun _ _ => ?_)
  · refine v_aload_n 3 C dL_law_1345 rfl rfl ?_
    refine v_iconst (v := 0) C dL_law_1346 (by decide) ?_
    refine l_out0 C dL_law_1347 ?_
    rw [hk0 h9]
    refine v_lload 6 C dL_law_1348 rfl ?_
    refine v_lcmp_eq (e1 := ()) (e2 := ()) (o := ()) 1356 C dL_law_1350 dL_law_1351 (by decide) (by split <;> rfl) (fun _ _ => ?_) (fun h8 _ => absurd rfl h8)
    refine v_goto 1636 C dL_law_1356 (by decide) ?_
    refine v_lv [(0, .ref b), (1, .ref x), (2, .ref m), (3, .ref o9), (4, .int i)] [0, 1, 2, 3, 4] rfl ?_
    exact kk _ _ _ hi9
  · refine v_goto 1636 C dL_law_1356 (by decide) ?_
    refine v_lv [(0, .ref b), (1, .ref x), (2, .ref m), (3, .ref o9), (4, .int i)] [0, 1, 2, 3, 4] rfl ?_
    exact kk _ _ _ hi9
def St_peel (E : Nat → Nat → Nat) (T : Nat → ClassId) (x m o9 : Nat) (I : va_W → va_W → Prop) : Prop := ∀ (wl wr : va_W) (c : Nat → Int64) (x1 : Int32), I wl wr → ∃ (k : Int32) (wl' : va_W) (c' : Nat → Int64) (b : Int32) (wr' : va_W), (∀ D, MetW (SFG E) yL_peel cL_peel 4 (some .int) [(0, 9, 12, 13)] { frames := 8, cells := 1, slots := 6, locals := 149 } D T [.ref x, .int x1, .ref o9] (wl ++ [ocell o9 T c]) (some (.int k)) (wl' ++ [ocell o9 T c'])) ∧ (∀ D, MetM (SFG E) yX10_peel cX10_peel 2 (some .int) { frames := 7, cells := 0, slots := 0, locals := 163 } D T [.ref m, .int x1] wr (some (.int b)) wr') ∧ (∀ D, MetM (SFG E) yX10_thrown cX10_thrown 1 (some .int) { frames := 0, cells := 0, slots := 0, locals := 0 } D T [.ref m] wr' (some (.int k)) wr') ∧ (k = 0 → c' 0 = b.toInt64) ∧ I wl' wr'
set_option maxRecDepth 100000 in
set_option maxHeartbeats 2000000 in
theorem Lk_peel (C : Cx X (SFG E) T cL_law RL (some .boolean) 8 12 460) (hs : ScrOK X b L xs) (hcap : CapOK X (k + 1) (n + 6)) (hI : FirstOK x m I) (hi : I wl wr) (h0 : 0 ≤ i.toInt) (h1 : i.toInt + 3 < L) (hL : L ≤ 2048) (st : St_peel E T x m o9 I) (kk : ∀ wl' wr' c', I wl' wr' → V X (k + 1) (n + 6) ((wl' ++ [ocell o9 T c']) ++ wr') [(0, .ref b), (1, .ref x), (2, .ref m), (3, .ref o9), (4, .int i)] 1636 []) : V X k n ((wl ++ [ocell o9 T c]) ++ wr) [(0, .ref b), (1, .ref x), (2, .ref m), (3, .ref o9), (4, .int i)] 1359 [] := by
  refine v_aload_n 1 C dL_law_1359 rfl rfl ?_
  refine l_arg 1 (jc := 1) (j := 1) (by decide) (by decide) C hs h0 h1 hL rfl rfl dL_law_1360 dL_law_1361 dL_law_1363 dL_law_1364 dL_law_1365 ?_
  refine v_aload_n 3 C dL_law_1366 rfl rfl ?_
  obtain ⟨kx, wl9, c9, b9, wr9, hM1, hM2, hM3, hk0, hi9⟩ := st wl wr c (xs (i.toNatClampNeg + 1)) hi
  refine l_wrap (As := [.ref x, .int (xs (i.toNatClampNeg + 1)), .ref o9]) (rest := []) 3 C hcap hM1 wmethodLink_RL_168_yL_peel wcodeWith_yL_peel_cL_peel_4_some_int_0_9_12_13 wstatic_yL_peel winitialized_RL (by decide +kernel) (by decide) ⟨rfl, rfl⟩ rfl (by decide) dL_law_1367 ?_
  refine v_istore [(0, .ref b), (1, .ref x), (2, .ref m), (3, .ref o9), (4, .int i), (5, .int kx)] [1, 2, 3, 4, 5, 0] C dL_law_1370 (by decide) rfl ?_
  refine v_aload_n 2 C dL_law_1372 rfl rfl ?_
  refine l_arg 1 (jc := 1) (j := 1) (by decide) (by decide) C hs h0 h1 hL rfl rfl dL_law_1373 dL_law_1374 dL_law_1376 dL_law_1377 dL_law_1378 ?_
  refine l_ref (As := [.int (xs (i.toNatClampNeg + 1))]) (rest := []) 1 C (hcap.mono (Nat.le_refl _) (Nat.le_refl _)) hM2 (hI _ _ hi).2 (goodV wmethodLink_RL_170_yX10_peel winstanceMethod_yX10_peel wselects_RX10_yX10_peel_yX10_peel winitialized_RX10 wcode_yX10_peel_cX10_peel_2_some_int) (by decide +kernel) (by decide) ⟨rfl, rfl⟩ rfl (by decide) dL_law_1379 ?_
  refine v_istore [(0, .ref b), (1, .ref x), (2, .ref m), (3, .ref o9), (4, .int i), (5, .int kx), (6, .int b9)] [1, 2, 3, 4, 5, 6, 0] C dL_law_1382 (by decide) rfl ?_
  refine v_aload_n 2 C dL_law_1384 rfl rfl ?_
  refine l_ref (As := []) (rest := []) 0 C (hcap.mono (Nat.le_refl _) (Nat.le_refl _)) hM3 (hI _ _ hi9).2 (goodV wmethodLink_RL_95_yX10_thrown winstanceMethod_yX10_thrown wselects_RX10_yX10_thrown_yX10_thrown winitialized_RX10 wcode_yX10_thrown_cX10_thrown_1_some_int) (by decide +kernel) (by decide) ⟨rfl, rfl⟩ rfl (by decide) dL_law_1385 ?_
  refine v_iload 5 C dL_law_1388 rfl ?_
  refine v_icmp_eq (e1 := ()) (e2 := ()) (o := ()) 1395 C dL_law_1390 (by decide) (by split <;> rfl) (fun _ _ => ?_) (fun h9 _ => absurd rfl h9)
  refine v_iload 5 C dL_law_1395 rfl ?_
  refine v_if_ne (e1 := ()) (e2 := ()) (o := ()) 1412 C dL_law_1397 (by decide) (by split <;> rfl) (fun h9 _ => ?_) (fun _ _ => ?_)
  · refine v_aload_n 3 C dL_law_1400 rfl rfl ?_
    refine v_iconst (v := 0) C dL_law_1401 (by decide) ?_
    refine l_out0 C dL_law_1402 ?_
    rw [hk0 h9]
    refine v_iload 6 C dL_law_1403 rfl ?_
    refine v_i2l (K := fun z => z) (o := b9.toInt64) C dL_law_1405 rfl (fun z hz => ?_)
    subst hz
    refine v_lcmp_eq (e1 := ()) (e2 := ()) (o := ()) 1412 C dL_law_1406 dL_law_1407 (by decide) (by split <;> rfl) (fun _ _ => ?_) (fun h8 _ => absurd rfl h8)
    refine v_goto 1636 C dL_law_1412 (by decide) ?_
    refine v_lv [(0, .ref b), (1, .ref x), (2, .ref m), (3, .ref o9), (4, .int i)] [0, 1, 2, 3, 4] rfl ?_
    exact kk _ _ _ hi9
  · refine v_goto 1636 C dL_law_1412 (by decide) ?_
    refine v_lv [(0, .ref b), (1, .ref x), (2, .ref m), (3, .ref o9), (4, .int i)] [0, 1, 2, 3, 4] rfl ?_
    exact kk _ _ _ hi9
def St_found (E : Nat → Nat → Nat) (T : Nat → ClassId) (x m o9 : Nat) (I : va_W → va_W → Prop) : Prop := ∀ (wl wr : va_W) (c : Nat → Int64) (x1 : Int32) (x2 : Int32), I wl wr → ∃ (k : Int32) (wl' : va_W) (c' : Nat → Int64) (b : Int32) (wr' : va_W), (∀ D, MetW (SFG E) yL_found cL_found 5 (some .int) [(0, 10, 13, 13)] { frames := 8, cells := 1, slots := 6, locals := 150 } D T [.ref x, .int x1, .int x2, .ref o9] (wl ++ [ocell o9 T c]) (some (.int k)) (wl' ++ [ocell o9 T c'])) ∧ (∀ D, MetM (SFG E) yX10_found cX10_found 3 (some .int) { frames := 7, cells := 0, slots := 0, locals := 163 } D T [.ref m, .int x1, .int x2] wr (some (.int b)) wr') ∧ (∀ D, MetM (SFG E) yX10_thrown cX10_thrown 1 (some .int) { frames := 0, cells := 0, slots := 0, locals := 0 } D T [.ref m] wr' (some (.int k)) wr') ∧ (k = 0 → c' 0 = b.toInt64) ∧ I wl' wr'
set_option maxRecDepth 100000 in
set_option maxHeartbeats 2000000 in
theorem Lk_found (C : Cx X (SFG E) T cL_law RL (some .boolean) 8 12 460) (hs : ScrOK X b L xs) (hcap : CapOK X (k + 1) (n + 6)) (hI : FirstOK x m I) (hi : I wl wr) (h0 : 0 ≤ i.toInt) (h1 : i.toInt + 3 < L) (hL : L ≤ 2048) (st : St_found E T x m o9 I) (kk : ∀ wl' wr' c', I wl' wr' → V X (k + 1) (n + 6) ((wl' ++ [ocell o9 T c']) ++ wr') [(0, .ref b), (1, .ref x), (2, .ref m), (3, .ref o9), (4, .int i)] 1636 []) : V X k n ((wl ++ [ocell o9 T c]) ++ wr) [(0, .ref b), (1, .ref x), (2, .ref m), (3, .ref o9), (4, .int i)] 1415 [] := by
  refine v_aload_n 1 C dL_law_1415 rfl rfl ?_
  refine l_arg 1 (jc := 1) (j := 1) (by decide) (by decide) C hs h0 h1 hL rfl rfl dL_law_1416 dL_law_1417 dL_law_1419 dL_law_1420 dL_law_1421 ?_
  refine l_arg 2 (jc := 2) (j := 2) (by decide) (by decide) C hs h0 h1 hL rfl rfl dL_law_1422 dL_law_1423 dL_law_1425 dL_law_1426 dL_law_1427 ?_
  refine v_aload_n 3 C dL_law_1428 rfl rfl ?_
  obtain ⟨kx, wl9, c9, b9, wr9, hM1, hM2, hM3, hk0, hi9⟩ := st wl wr c (xs (i.toNatClampNeg + 1)) (xs (i.toNatClampNeg + 2)) hi
  refine l_wrap (As := [.ref x, .int (xs (i.toNatClampNeg + 1)), .int (xs (i.toNatClampNeg + 2)), .ref o9]) (rest := []) 4 C hcap hM1 wmethodLink_RL_171_yL_found wcodeWith_yL_found_cL_found_5_some_int_0_10_13_13 wstatic_yL_found winitialized_RL (by decide +kernel) (by decide) ⟨rfl, rfl⟩ rfl (by decide) dL_law_1429 ?_
  refine v_istore [(0, .ref b), (1, .ref x), (2, .ref m), (3, .ref o9), (4, .int i), (5, .int kx)] [1, 2, 3, 4, 5, 0] C dL_law_1432 (by decide) rfl ?_
  refine v_aload_n 2 C dL_law_1434 rfl rfl ?_
  refine l_arg 1 (jc := 1) (j := 1) (by decide) (by decide) C hs h0 h1 hL rfl rfl dL_law_1435 dL_law_1436 dL_law_1438 dL_law_1439 dL_law_1440 ?_
  refine l_arg 2 (jc := 2) (j := 2) (by decide) (by decide) C hs h0 h1 hL rfl rfl dL_law_1441 dL_law_1442 dL_law_1444 dL_law_1445 dL_law_1446 ?_
  refine l_ref (As := [.int (xs (i.toNatClampNeg + 1)), .int (xs (i.toNatClampNeg + 2))]) (rest := []) 2 C (hcap.mono (Nat.le_refl _) (Nat.le_refl _)) hM2 (hI _ _ hi).2 (goodV wmethodLink_RL_173_yX10_found winstanceMethod_yX10_found wselects_RX10_yX10_found_yX10_found winitialized_RX10 wcode_yX10_found_cX10_found_3_some_int) (by decide +kernel) (by decide) ⟨rfl, rfl⟩ rfl (by decide) dL_law_1447 ?_
  refine v_istore [(0, .ref b), (1, .ref x), (2, .ref m), (3, .ref o9), (4, .int i), (5, .int kx), (6, .int b9)] [1, 2, 3, 4, 5, 6, 0] C dL_law_1450 (by decide) rfl ?_
  refine v_aload_n 2 C dL_law_1452 rfl rfl ?_
  refine l_ref (As := []) (rest := []) 0 C (hcap.mono (Nat.le_refl _) (Nat.le_refl _)) hM3 (hI _ _ hi9).2 (goodV wmethodLink_RL_95_yX10_thrown winstanceMethod_yX10_thrown wselects_RX10_yX10_thrown_yX10_thrown winitialized_RX10 wcode_yX10_thrown_cX10_thrown_1_some_int) (by decide +kernel) (by decide) ⟨rfl, rfl⟩ rfl (by decide) dL_law_1453 ?_
  refine v_iload 5 C dL_law_1456 rfl ?_
  refine v_icmp_eq (e1 := ()) (e2 := ()) (o := ()) 1463 C dL_law_1458 (by decide) (by split <;> rfl) (fun _ _ => ?_) (fun h9 _ => absurd rfl h9)
  refine v_iload 5 C dL_law_1463 rfl ?_
  refine v_if_ne (e1 := ()) (e2 := ()) (o := ()) 1480 C dL_law_1465 (by decide) (by split <;> rfl) (fun h9 _ => ?_) (fun _ _ => ?_)
  · refine v_aload_n 3 C dL_law_1468 rfl rfl ?_
    refine v_iconst (v := 0) C dL_law_1469 (by decide) ?_
    refine l_out0 C dL_law_1470 ?_
    rw [hk0 h9]
    refine v_iload 6 C dL_law_1471 rfl ?_
    refine v_i2l (K := fun z => z) (o := b9.toInt64) C dL_law_1473 rfl (fun z hz => ?_)
    subst hz
    refine v_lcmp_eq (e1 := ()) (e2 := ()) (o := ()) 1480 C dL_law_1474 dL_law_1475 (by decide) (by split <;> rfl) (fun _ _ => ?_) (fun h8 _ => absurd rfl h8)
    refine v_goto 1636 C dL_law_1480 (by decide) ?_
    refine v_lv [(0, .ref b), (1, .ref x), (2, .ref m), (3, .ref o9), (4, .int i)] [0, 1, 2, 3, 4] rfl ?_
    exact kk _ _ _ hi9
  · refine v_goto 1636 C dL_law_1480 (by decide) ?_
    refine v_lv [(0, .ref b), (1, .ref x), (2, .ref m), (3, .ref o9), (4, .int i)] [0, 1, 2, 3, 4] rfl ?_
    exact kk _ _ _ hi9
def St_adopt (E : Nat → Nat → Nat) (T : Nat → ClassId) (x m o9 : Nat) (I : va_W → va_W → Prop) : Prop := ∀ (wl wr : va_W), I wl wr → ∃ (r : Int32) (wl' wr' : va_W), (∀ D, MetM (SFG E) yX9_adopt cX9_adopt 1 (some .int) { frames := 6, cells := 0, slots := 0, locals := 152 } D T [.ref x] wl (some (.int r)) wl') ∧ (∀ D, MetM (SFG E) yX10_adopt cX10_adopt 1 (some .int) { frames := 8, cells := 0, slots := 0, locals := 184 } D T [.ref m] wr (some (.int r)) wr') ∧ I wl' wr'
set_option maxRecDepth 100000 in
set_option maxHeartbeats 2000000 in
theorem Lk_adopt (C : Cx X (SFG E) T cL_law RL (some .boolean) 8 12 460) (hs : ScrOK X b L xs) (hcap : CapOK X (k + 1) (n + 6)) (hI : FirstOK x m I) (hi : I wl wr) (h0 : 0 ≤ i.toInt) (h1 : i.toInt + 3 < L) (hL : L ≤ 2048) (st : St_adopt E T x m o9 I) (kk : ∀ wl' wr' c', I wl' wr' → V X (k + 1) (n + 6) ((wl' ++ [ocell o9 T c']) ++ wr') [(0, .ref b), (1, .ref x), (2, .ref m), (3, .ref o9), (4, .int i)] 1636 []) : V X k n ((wl ++ [ocell o9 T c]) ++ wr) [(0, .ref b), (1, .ref x), (2, .ref m), (3, .ref o9), (4, .int i)] 1483 [] := by
  refine v_aload_n 1 C dL_law_1483 rfl rfl ?_
  obtain ⟨r9, wl9, wr9, hM1, hM2, hi9⟩ := st wl wr hi
  refine l_cls (As := []) (rest := []) 0 C (hcap.mono (Nat.le_add_right _ _) (Nat.le_add_right _ _)) hM1 (hI _ _ hi).1 (goodV wmethodLink_RL_174_yX9_adopt winstanceMethod_yX9_adopt wselects_RX9_yX9_adopt_yX9_adopt winitialized_RX9 wcode_yX9_adopt_cX9_adopt_1_some_int) (by decide +kernel) (by decide) ⟨rfl, rfl⟩ rfl (by decide) dL_law_1484 ?_
  refine v_aload_n 2 C dL_law_1487 rfl rfl ?_
  refine l_ref (As := []) (rest := [.int r9]) 0 C (hcap.mono (Nat.le_add_right _ _) (Nat.le_add_right _ _)) hM2 (hI _ _ hi).2 (goodV wmethodLink_RL_177_yX10_adopt winstanceMethod_yX10_adopt wselects_RX10_yX10_adopt_yX10_adopt winitialized_RX10 wcode_yX10_adopt_cX10_adopt_1_some_int) (by decide +kernel) (by decide) ⟨rfl, rfl⟩ rfl (Nat.le_of_ble_eq_true rfl) dL_law_1488 ?_
  refine v_icmp_eq (e1 := ()) (e2 := ()) (o := ()) 1636 C dL_law_1491 (by decide) (by split <;> rfl) (fun _ _ => ?_) (fun h9 _ => absurd rfl h9)
  exact v_widen (Nat.le_add_right _ _) (Nat.le_add_right _ _) (kk _ _ _ hi9)
def St_type (E : Nat → Nat → Nat) (T : Nat → ClassId) (x m o9 : Nat) (I : va_W → va_W → Prop) : Prop := ∀ (wl wr : va_W) (c : Nat → Int64) (x1 : Int32), I wl wr → ∃ (k : Int32) (wl' : va_W) (c' : Nat → Int64) (b : Int32) (wr' : va_W), (∀ D, MetW (SFG E) yL_type cL_type 4 (some .int) [(0, 9, 12, 13), (0, 9, 15, 15)] { frames := 8, cells := 1, slots := 6, locals := 136 } D T [.ref x, .int x1, .ref o9] (wl ++ [ocell o9 T c]) (some (.int k)) (wl' ++ [ocell o9 T c'])) ∧ (∀ D, MetM (SFG E) yX10_type cX10_type 2 (some .int) { frames := 1, cells := 0, slots := 0, locals := 25 } D T [.ref m, .int x1] wr (some (.int b)) wr') ∧ (∀ D, MetM (SFG E) yX10_thrown cX10_thrown 1 (some .int) { frames := 0, cells := 0, slots := 0, locals := 0 } D T [.ref m] wr' (some (.int k)) wr') ∧ (k = 0 → c' 0 = b.toInt64) ∧ I wl' wr'
set_option maxRecDepth 100000 in
set_option maxHeartbeats 2000000 in
theorem Lk_type (C : Cx X (SFG E) T cL_law RL (some .boolean) 8 12 460) (hs : ScrOK X b L xs) (hcap : CapOK X (k + 1) (n + 6)) (hI : FirstOK x m I) (hi : I wl wr) (h0 : 0 ≤ i.toInt) (h1 : i.toInt + 3 < L) (hL : L ≤ 2048) (st : St_type E T x m o9 I) (kk : ∀ wl' wr' c', I wl' wr' → V X (k + 1) (n + 6) ((wl' ++ [ocell o9 T c']) ++ wr') [(0, .ref b), (1, .ref x), (2, .ref m), (3, .ref o9), (4, .int i)] 1636 []) : V X k n ((wl ++ [ocell o9 T c]) ++ wr) [(0, .ref b), (1, .ref x), (2, .ref m), (3, .ref o9), (4, .int i)] 1496 [] := by
  refine v_aload_n 1 C dL_law_1496 rfl rfl ?_
  refine l_arg 1 (jc := 1) (j := 1) (by decide) (by decide) C hs h0 h1 hL rfl rfl dL_law_1497 dL_law_1498 dL_law_1500 dL_law_1501 dL_law_1502 ?_
  refine v_aload_n 3 C dL_law_1503 rfl rfl ?_
  obtain ⟨kx, wl9, c9, b9, wr9, hM1, hM2, hM3, hk0, hi9⟩ := st wl wr c (xs (i.toNatClampNeg + 1)) hi
  refine l_wrap (As := [.ref x, .int (xs (i.toNatClampNeg + 1)), .ref o9]) (rest := []) 3 C hcap hM1 wmethodLink_RL_178_yL_type wcodeWith_yL_type_cL_type_4_some_int_0_9_12_13_0_9_15_15 wstatic_yL_type winitialized_RL (by decide +kernel) (by decide) ⟨rfl, rfl⟩ rfl (by decide) dL_law_1504 ?_
  refine v_istore [(0, .ref b), (1, .ref x), (2, .ref m), (3, .ref o9), (4, .int i), (5, .int kx)] [1, 2, 3, 4, 5, 0] C dL_law_1507 (by decide) rfl ?_
  refine v_aload_n 2 C dL_law_1509 rfl rfl ?_
  refine l_arg 1 (jc := 1) (j := 1) (by decide) (by decide) C hs h0 h1 hL rfl rfl dL_law_1510 dL_law_1511 dL_law_1513 dL_law_1514 dL_law_1515 ?_
  refine l_ref (As := [.int (xs (i.toNatClampNeg + 1))]) (rest := []) 1 C (hcap.mono (Nat.le_refl _) (Nat.le_refl _)) hM2 (hI _ _ hi).2 (goodV wmethodLink_RL_180_yX10_type winstanceMethod_yX10_type wselects_RX10_yX10_type_yX10_type winitialized_RX10 wcode_yX10_type_cX10_type_2_some_int) (by decide +kernel) (by decide) ⟨rfl, rfl⟩ rfl (by decide) dL_law_1516 ?_
  refine v_istore [(0, .ref b), (1, .ref x), (2, .ref m), (3, .ref o9), (4, .int i), (5, .int kx), (6, .int b9)] [1, 2, 3, 4, 5, 6, 0] C dL_law_1519 (by decide) rfl ?_
  refine v_aload_n 2 C dL_law_1521 rfl rfl ?_
  refine l_ref (As := []) (rest := []) 0 C (hcap.mono (Nat.le_refl _) (Nat.le_refl _)) hM3 (hI _ _ hi9).2 (goodV wmethodLink_RL_95_yX10_thrown winstanceMethod_yX10_thrown wselects_RX10_yX10_thrown_yX10_thrown winitialized_RX10 wcode_yX10_thrown_cX10_thrown_1_some_int) (by decide +kernel) (by decide) ⟨rfl, rfl⟩ rfl (by decide) dL_law_1522 ?_
  refine v_iload 5 C dL_law_1525 rfl ?_
  refine v_icmp_eq (e1 := ()) (e2 := ()) (o := ()) 1532 C dL_law_1527 (by decide) (by split <;> rfl) (fun _ _ => ?_) (fun h9 _ => absurd rfl h9)
  refine v_iload 5 C dL_law_1532 rfl ?_
  refine v_if_ne (e1 := ()) (e2 := ()) (o := ()) 1549 C dL_law_1534 (by decide) (by split <;> rfl) (fun h9 _ => ?_) (fun _ _ => ?_)
  · refine v_aload_n 3 C dL_law_1537 rfl rfl ?_
    refine v_iconst (v := 0) C dL_law_1538 (by decide) ?_
    refine l_out0 C dL_law_1539 ?_
    rw [hk0 h9]
    refine v_iload 6 C dL_law_1540 rfl ?_
    refine v_i2l (K := fun z => z) (o := b9.toInt64) C dL_law_1542 rfl (fun z hz => ?_)
    subst hz
    refine v_lcmp_eq (e1 := ()) (e2 := ()) (o := ()) 1549 C dL_law_1543 dL_law_1544 (by decide) (by split <;> rfl) (fun _ _ => ?_) (fun h8 _ => absurd rfl h8)
    refine v_goto 1636 C dL_law_1549 (by decide) ?_
    refine v_lv [(0, .ref b), (1, .ref x), (2, .ref m), (3, .ref o9), (4, .int i)] [0, 1, 2, 3, 4] rfl ?_
    exact kk _ _ _ hi9
  · refine v_goto 1636 C dL_law_1549 (by decide) ?_
    refine v_lv [(0, .ref b), (1, .ref x), (2, .ref m), (3, .ref o9), (4, .int i)] [0, 1, 2, 3, 4] rfl ?_
    exact kk _ _ _ hi9
def St_clearScript (E : Nat → Nat → Nat) (T : Nat → ClassId) (x m o9 : Nat) (I : va_W → va_W → Prop) : Prop := ∀ (wl wr : va_W), I wl wr → ∃ (r : Int32) (wl' wr' : va_W), (∀ D, MetM (SFG E) yX9_clearScript cX9_clearScript 2 (some .int) { frames := 0, cells := 0, slots := 0, locals := 0 } D T [.ref x] wl (some (.int r)) wl') ∧ (∀ D, MetM (SFG E) yX10_clearScript cX10_clearScript 2 (some .int) { frames := 0, cells := 0, slots := 0, locals := 0 } D T [.ref m] wr (some (.int r)) wr') ∧ I wl' wr'
set_option maxRecDepth 100000 in
set_option maxHeartbeats 2000000 in
theorem Lk_clearScript (C : Cx X (SFG E) T cL_law RL (some .boolean) 8 12 460) (hs : ScrOK X b L xs) (hcap : CapOK X (k + 1) (n + 6)) (hI : FirstOK x m I) (hi : I wl wr) (h0 : 0 ≤ i.toInt) (h1 : i.toInt + 3 < L) (hL : L ≤ 2048) (st : St_clearScript E T x m o9 I) (kk : ∀ wl' wr' c', I wl' wr' → V X (k + 1) (n + 6) ((wl' ++ [ocell o9 T c']) ++ wr') [(0, .ref b), (1, .ref x), (2, .ref m), (3, .ref o9), (4, .int i)] 1636 []) : V X k n ((wl ++ [ocell o9 T c]) ++ wr) [(0, .ref b), (1, .ref x), (2, .ref m), (3, .ref o9), (4, .int i)] 1552 [] := by
  refine v_aload_n 1 C dL_law_1552 rfl rfl ?_
  obtain ⟨r9, wl9, wr9, hM1, hM2, hi9⟩ := st wl wr hi
  refine l_cls (As := []) (rest := []) 0 C (hcap.mono (Nat.le_add_right _ _) (Nat.le_add_right _ _)) hM1 (hI _ _ hi).1 (goodV wmethodLink_RL_181_yX9_clearScript winstanceMethod_yX9_clearScript wselects_RX9_yX9_clearScript_yX9_clearScript winitialized_RX9 wcode_yX9_clearScript_cX9_clearScript_2_some_int) (by decide +kernel) (by decide) ⟨rfl, rfl⟩ rfl (by decide) dL_law_1553 ?_
  refine v_aload_n 2 C dL_law_1556 rfl rfl ?_
  refine l_ref (As := []) (rest := [.int r9]) 0 C (hcap.mono (Nat.le_add_right _ _) (Nat.le_add_right _ _)) hM2 (hI _ _ hi).2 (goodV wmethodLink_RL_184_yX10_clearScript winstanceMethod_yX10_clearScript wselects_RX10_yX10_clearScript_yX10_clearScript winitialized_RX10 wcode_yX10_clearScript_cX10_clearScript_2_some_int) (by decide +kernel) (by decide) ⟨rfl, rfl⟩ rfl (Nat.le_of_ble_eq_true rfl) dL_law_1557 ?_
  refine v_icmp_eq (e1 := ()) (e2 := ()) (o := ()) 1636 C dL_law_1560 (by decide) (by split <;> rfl) (fun _ _ => ?_) (fun h9 _ => absurd rfl h9)
  exact v_widen (Nat.le_add_right _ _) (Nat.le_add_right _ _) (kk _ _ _ hi9)
def St_run (E : Nat → Nat → Nat) (T : Nat → ClassId) (x m o9 : Nat) (I : va_W → va_W → Prop) : Prop := ∀ (wl wr : va_W), I wl wr → ∃ (r : Int32) (wl' wr' : va_W), (∀ D, MetM (SFG E) yX9_run cX9_run 4 (some .int) { frames := 8, cells := 0, slots := 0, locals := 177 } D T [.ref x] wl (some (.int r)) wl') ∧ (∀ D, MetM (SFG E) yX10_run cX10_run 2 (some .int) { frames := 9, cells := 0, slots := 0, locals := 209 } D T [.ref m] wr (some (.int r)) wr') ∧ I wl' wr'
set_option maxRecDepth 100000 in
set_option maxHeartbeats 2000000 in
theorem Lk_run (C : Cx X (SFG E) T cL_law RL (some .boolean) 8 12 460) (hs : ScrOK X b L xs) (hcap : CapOK X (k + 1) (n + 6)) (hI : FirstOK x m I) (hi : I wl wr) (h0 : 0 ≤ i.toInt) (h1 : i.toInt + 3 < L) (hL : L ≤ 2048) (st : St_run E T x m o9 I) (kk : ∀ wl' wr' c', I wl' wr' → V X (k + 1) (n + 6) ((wl' ++ [ocell o9 T c']) ++ wr') [(0, .ref b), (1, .ref x), (2, .ref m), (3, .ref o9), (4, .int i)] 1636 []) : V X k n ((wl ++ [ocell o9 T c]) ++ wr) [(0, .ref b), (1, .ref x), (2, .ref m), (3, .ref o9), (4, .int i)] 1565 [] := by
  refine v_aload_n 1 C dL_law_1565 rfl rfl ?_
  obtain ⟨r9, wl9, wr9, hM1, hM2, hi9⟩ := st wl wr hi
  refine l_cls (As := []) (rest := []) 0 C (hcap.mono (Nat.le_add_right _ _) (Nat.le_add_right _ _)) hM1 (hI _ _ hi).1 (goodV wmethodLink_RL_185_yX9_run winstanceMethod_yX9_run wselects_RX9_yX9_run_yX9_run winitialized_RX9 wcode_yX9_run_cX9_run_4_some_int) (by decide +kernel) (by decide) ⟨rfl, rfl⟩ rfl (by decide) dL_law_1566 ?_
  refine v_aload_n 2 C dL_law_1569 rfl rfl ?_
  refine l_ref (As := []) (rest := [.int r9]) 0 C (hcap.mono (Nat.le_add_right _ _) (Nat.le_add_right _ _)) hM2 (hI _ _ hi).2 (goodV wmethodLink_RL_188_yX10_run winstanceMethod_yX10_run wselects_RX10_yX10_run_yX10_run winitialized_RX10 wcode_yX10_run_cX10_run_2_some_int) (by decide +kernel) (by decide) ⟨rfl, rfl⟩ rfl (Nat.le_of_ble_eq_true rfl) dL_law_1570 ?_
  refine v_icmp_eq (e1 := ()) (e2 := ()) (o := ()) 1636 C dL_law_1573 (by decide) (by split <;> rfl) (fun _ _ => ?_) (fun h9 _ => absurd rfl h9)
  exact v_widen (Nat.le_add_right _ _) (Nat.le_add_right _ _) (kk _ _ _ hi9)
def St_undo (E : Nat → Nat → Nat) (T : Nat → ClassId) (x m o9 : Nat) (I : va_W → va_W → Prop) : Prop := ∀ (wl wr : va_W) (c : Nat → Int64) , I wl wr → ∃ (k : Int32) (wl' : va_W) (c' : Nat → Int64) (b : Int32) (wr' : va_W), (∀ D, MetW (SFG E) yL_undo cL_undo 3 (some .int) [(0, 8, 11, 15)] { frames := 7, cells := 1, slots := 6, locals := 164 } D T [.ref x, .ref o9] (wl ++ [ocell o9 T c]) (some (.int k)) (wl' ++ [ocell o9 T c'])) ∧ (∀ D, MetM (SFG E) yX10_undo cX10_undo 2 (some .int) { frames := 0, cells := 0, slots := 0, locals := 0 } D T [.ref m] wr (some (.int b)) wr') ∧ (∀ D, MetM (SFG E) yX10_thrown cX10_thrown 1 (some .int) { frames := 0, cells := 0, slots := 0, locals := 0 } D T [.ref m] wr' (some (.int k)) wr') ∧ (k = 0 → c' 0 = b.toInt64) ∧ I wl' wr'
set_option maxRecDepth 100000 in
set_option maxHeartbeats 2000000 in
theorem Lk_undo (C : Cx X (SFG E) T cL_law RL (some .boolean) 8 12 460) (hs : ScrOK X b L xs) (hcap : CapOK X (k + 1) (n + 6)) (hI : FirstOK x m I) (hi : I wl wr) (h0 : 0 ≤ i.toInt) (h1 : i.toInt + 3 < L) (hL : L ≤ 2048) (st : St_undo E T x m o9 I) (kk : ∀ wl' wr' c', I wl' wr' → V X (k + 1) (n + 6) ((wl' ++ [ocell o9 T c']) ++ wr') [(0, .ref b), (1, .ref x), (2, .ref m), (3, .ref o9), (4, .int i)] 1636 []) : V X k n ((wl ++ [ocell o9 T c]) ++ wr) [(0, .ref b), (1, .ref x), (2, .ref m), (3, .ref o9), (4, .int i)] 1578 [] := by
  refine v_aload_n 1 C dL_law_1578 rfl rfl ?_
  refine v_aload_n 3 C dL_law_1579 rfl rfl ?_
  obtain ⟨kx, wl9, c9, b9, wr9, hM1, hM2, hM3, hk0, hi9⟩ := st wl wr c  hi
  refine l_wrap (As := [.ref x, .ref o9]) (rest := []) 2 C hcap hM1 wmethodLink_RL_189_yL_undo wcodeWith_yL_undo_cL_undo_3_some_int_0_8_11_15 wstatic_yL_undo winitialized_RL (by decide +kernel) (by decide) ⟨rfl, rfl⟩ rfl (by decide) dL_law_1580 ?_
  refine v_istore [(0, .ref b), (1, .ref x), (2, .ref m), (3, .ref o9), (4, .int i), (5, .int kx)] [1, 2, 3, 4, 5, 0] C dL_law_1583 (by decide) rfl ?_
  refine v_aload_n 2 C dL_law_1585 rfl rfl ?_
  refine l_ref (As := []) (rest := []) 0 C (hcap.mono (Nat.le_refl _) (Nat.le_refl _)) hM2 (hI _ _ hi).2 (goodV wmethodLink_RL_192_yX10_undo winstanceMethod_yX10_undo wselects_RX10_yX10_undo_yX10_undo winitialized_RX10 wcode_yX10_undo_cX10_undo_2_some_int) (by decide +kernel) (by decide) ⟨rfl, rfl⟩ rfl (by decide) dL_law_1586 ?_
  refine v_istore [(0, .ref b), (1, .ref x), (2, .ref m), (3, .ref o9), (4, .int i), (5, .int kx), (6, .int b9)] [1, 2, 3, 4, 5, 6, 0] C dL_law_1589 (by decide) rfl ?_
  refine v_aload_n 2 C dL_law_1591 rfl rfl ?_
  refine l_ref (As := []) (rest := []) 0 C (hcap.mono (Nat.le_refl _) (Nat.le_refl _)) hM3 (hI _ _ hi9).2 (goodV wmethodLink_RL_95_yX10_thrown winstanceMethod_yX10_thrown wselects_RX10_yX10_thrown_yX10_thrown winitialized_RX10 wcode_yX10_thrown_cX10_thrown_1_some_int) (by decide +kernel) (by decide) ⟨rfl, rfl⟩ rfl (by decide) dL_law_1592 ?_
  refine v_iload 5 C dL_law_1595 rfl ?_
  refine v_icmp_eq (e1 := ()) (e2 := ()) (o := ()) 1602 C dL_law_1597 (by decide) (by split <;> rfl) (fun _ _ => ?_) (fun h9 _ => absurd rfl h9)
  refine v_iload 5 C dL_law_1602 rfl ?_
  refine v_if_ne (e1 := ()) (e2 := ()) (o := ()) 1619 C dL_law_1604 (by decide) (by split <;> rfl) (fun h9 _ => ?_) (fun _ _ => ?_)
  · refine v_aload_n 3 C dL_law_1607 rfl rfl ?_
    refine v_iconst (v := 0) C dL_law_1608 (by decide) ?_
    refine l_out0 C dL_law_1609 ?_
    rw [hk0 h9]
    refine v_iload 6 C dL_law_1610 rfl ?_
    refine v_i2l (K := fun z => z) (o := b9.toInt64) C dL_law_1612 rfl (fun z hz => ?_)
    subst hz
    refine v_lcmp_eq (e1 := ()) (e2 := ()) (o := ()) 1619 C dL_law_1613 dL_law_1614 (by decide) (by split <;> rfl) (fun _ _ => ?_) (fun h8 _ => absurd rfl h8)
    refine v_goto 1636 C dL_law_1619 (by decide) ?_
    refine v_lv [(0, .ref b), (1, .ref x), (2, .ref m), (3, .ref o9), (4, .int i)] [0, 1, 2, 3, 4] rfl ?_
    exact kk _ _ _ hi9
  · refine v_goto 1636 C dL_law_1619 (by decide) ?_
    refine v_lv [(0, .ref b), (1, .ref x), (2, .ref m), (3, .ref o9), (4, .int i)] [0, 1, 2, 3, 4] rfl ?_
    exact kk _ _ _ hi9
def St_digest (E : Nat → Nat → Nat) (T : Nat → ClassId) (x m o9 : Nat) (I : va_W → va_W → Prop) : Prop := ∀ (wl wr : va_W), I wl wr → ∃ (r : Int64) (wl' wr' : va_W), (∀ D, MetM (SFG E) yX9_digest cX9_digest 4 (some .long) { frames := 9, cells := 0, slots := 0, locals := 161 } D T [.ref x] wl (some (.long r)) wl') ∧ (∀ D, MetM (SFG E) yX10_digest cX10_digest 2 (some .long) { frames := 7, cells := 0, slots := 0, locals := 163 } D T [.ref m] wr (some (.long r)) wr') ∧ I wl' wr'
set_option maxRecDepth 100000 in
set_option maxHeartbeats 2000000 in
theorem Lk_digest (C : Cx X (SFG E) T cL_law RL (some .boolean) 8 12 460) (hs : ScrOK X b L xs) (hcap : CapOK X (k + 1) (n + 6)) (hI : FirstOK x m I) (hi : I wl wr) (h0 : 0 ≤ i.toInt) (h1 : i.toInt + 3 < L) (hL : L ≤ 2048) (st : St_digest E T x m o9 I) (kk : ∀ wl' wr' c', I wl' wr' → V X (k + 1) (n + 6) ((wl' ++ [ocell o9 T c']) ++ wr') [(0, .ref b), (1, .ref x), (2, .ref m), (3, .ref o9), (4, .int i)] 1636 []) : V X k n ((wl ++ [ocell o9 T c]) ++ wr) [(0, .ref b), (1, .ref x), (2, .ref m), (3, .ref o9), (4, .int i)] 1622 [] := by
  refine v_aload_n 1 C dL_law_1622 rfl rfl ?_
  obtain ⟨r9, wl9, wr9, hM1, hM2, hi9⟩ := st wl wr hi
  refine l_cls (As := []) (rest := []) 0 C (hcap.mono (Nat.le_add_right _ _) (Nat.le_add_right _ _)) hM1 (hI _ _ hi).1 (goodV wmethodLink_RL_193_yX9_digest winstanceMethod_yX9_digest wselects_RX9_yX9_digest_yX9_digest winitialized_RX9 wcode_yX9_digest_cX9_digest_4_some_long) (by decide +kernel) (by decide) ⟨rfl, rfl⟩ rfl (by decide) dL_law_1623 ?_
  refine v_aload_n 2 C dL_law_1626 rfl rfl ?_
  refine l_ref (As := []) (rest := [.long r9]) 0 C (hcap.mono (Nat.le_add_right _ _) (Nat.le_add_right _ _)) hM2 (hI _ _ hi).2 (goodV wmethodLink_RL_197_yX10_digest winstanceMethod_yX10_digest wselects_RX10_yX10_digest_yX10_digest winitialized_RX10 wcode_yX10_digest_cX10_digest_2_some_long) (by decide +kernel) (by decide) ⟨rfl, rfl⟩ rfl (Nat.le_of_ble_eq_true rfl) dL_law_1627 ?_
  refine v_lcmp_eq (e1 := ()) (e2 := ()) (o := ()) 1636 C dL_law_1630 dL_law_1631 (by decide) (by split <;> rfl) (fun _ _ => ?_) (fun h8 _ => absurd rfl h8)
  exact v_widen (Nat.le_add_right _ _) (Nat.le_add_right _ _) (kk _ _ _ hi9)
end LAW3
