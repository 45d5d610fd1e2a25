/-- THE REFERENCE'S WORLD: the object at a 0, its arrays at a 1 .. a 11 -/
abbrev wR (a : Nat → Nat) (T : Nat → ClassId) (c_m : Nat → Int64) (c_saved : Nat → Int64) (c_savedCount : Int32) (c_script : Nat → Int32) (c_scriptLength : Int32) (c_code : Int32) (c_lineParts : Int32) (c_lengths : Nat → Int32) (c_fractions : Nat → Int32) (c_pulseMany : Int32) (c_times : Nat → Int32) (c_energies : Nat → Int64) (c_far : Nat → Int64) (c_near : Nat → Int64) (c_echoes : Nat → Int64) (c_left : Int64) (c_dropped : Int64) (c_merged : Int32) (c_drops : Int32) (c_contributions : Int32) (c_packet : Int64) (c_peelResult : Int32) (c_peelTime : Int32) (c_peelSum : Int32) (c_at : Int32) (c_commands : Int32) (c_draft : Nat → Int32) (c_hash : Int64) : va_W := [(a 0, .inr (8, [.ref (a 1), .ref (a 2), .int c_savedCount, .ref (a 3), .int c_scriptLength, .int c_code, .int c_lineParts, .ref (a 4), .ref (a 5), .int c_pulseMany, .ref (a 6), .ref (a 7), .ref (a 8), .ref (a 9), .ref (a 10), .long c_left, .long c_dropped, .int c_merged, .int c_drops, .int c_contributions, .long c_packet, .int c_peelResult, .int c_peelTime, .int c_peelSum, .int c_at, .int c_commands, .ref (a 11), .long c_hash])), (a 1, .inl (T 0, 431, .inr (.inl c_m))), (a 2, .inl (T 0, 1293, .inr (.inl c_saved))), (a 3, .inl (T 1, 120, .inl c_script)), (a 4, .inl (T 1, 8, .inl c_lengths)), (a 5, .inl (T 1, 9, .inl c_fractions)), (a 6, .inl (T 1, 4, .inl c_times)), (a 7, .inl (T 0, 4, .inr (.inl c_energies))), (a 8, .inl (T 0, 1809, .inr (.inl c_far))), (a 9, .inl (T 0, 1809, .inr (.inl c_near))), (a 10, .inl (T 0, 201, .inr (.inl c_echoes))), (a 11, .inl (T 1, 120, .inl c_draft))]
theorem wfieldLink_RX10_7_LineEchoesModel_m_J : Cond.fieldLink RX10 7 "LineEchoesModel" "m" "[J" ∈ wsG := mG (seg4 (List.mem_of_getElem? (i := 221) rfl)) rfl
theorem wfieldLink_RX10_13_LineEchoesModel_saved_J : Cond.fieldLink RX10 13 "LineEchoesModel" "saved" "[J" ∈ wsG := mG (seg4 (List.mem_of_getElem? (i := 222) rfl)) rfl
theorem wfieldLink_RX10_52_LineEchoesModel_savedCount_I : Cond.fieldLink RX10 52 "LineEchoesModel" "savedCount" "I" ∈ wsG := mG (seg4 (List.mem_of_getElem? (i := 223) rfl)) rfl
theorem wfieldLink_RX10_16_LineEchoesModel_script_I : Cond.fieldLink RX10 16 "LineEchoesModel" "script" "[I" ∈ wsG := mG (seg4 (List.mem_of_getElem? (i := 224) rfl)) rfl
theorem wfieldLink_RX10_261_LineEchoesModel_scriptLength_I : Cond.fieldLink RX10 261 "LineEchoesModel" "scriptLength" "I" ∈ wsG := mG (seg4 (List.mem_of_getElem? (i := 225) rfl)) rfl
theorem wfieldLink_RX10_48_LineEchoesModel_code_I : Cond.fieldLink RX10 48 "LineEchoesModel" "code" "I" ∈ wsG := mG (seg4 (List.mem_of_getElem? (i := 226) rfl)) rfl
theorem wfieldLink_RX10_79_LineEchoesModel_lineParts_I : Cond.fieldLink RX10 79 "LineEchoesModel" "lineParts" "I" ∈ wsG := mG (seg4 (List.mem_of_getElem? (i := 227) rfl)) rfl
theorem wfieldLink_RX10_20_LineEchoesModel_lengths_I : Cond.fieldLink RX10 20 "LineEchoesModel" "lengths" "[I" ∈ wsG := mG (seg4 (List.mem_of_getElem? (i := 228) rfl)) rfl
theorem wfieldLink_RX10_23_LineEchoesModel_fractions_I : Cond.fieldLink RX10 23 "LineEchoesModel" "fractions" "[I" ∈ wsG := mG (seg4 (List.mem_of_getElem? (i := 229) rfl)) rfl
theorem wfieldLink_RX10_84_LineEchoesModel_pulseMany_I : Cond.fieldLink RX10 84 "LineEchoesModel" "pulseMany" "I" ∈ wsG := mG (seg4 (List.mem_of_getElem? (i := 230) rfl)) rfl
theorem wfieldLink_RX10_26_LineEchoesModel_times_I : Cond.fieldLink RX10 26 "LineEchoesModel" "times" "[I" ∈ wsG := mG (seg4 (List.mem_of_getElem? (i := 231) rfl)) rfl
theorem wfieldLink_RX10_29_LineEchoesModel_energies_J : Cond.fieldLink RX10 29 "LineEchoesModel" "energies" "[J" ∈ wsG := mG (seg4 (List.mem_of_getElem? (i := 232) rfl)) rfl
theorem wfieldLink_RX10_32_LineEchoesModel_far_J : Cond.fieldLink RX10 32 "LineEchoesModel" "far" "[J" ∈ wsG := mG (seg4 (List.mem_of_getElem? (i := 233) rfl)) rfl
theorem wfieldLink_RX10_35_LineEchoesModel_near_J : Cond.fieldLink RX10 35 "LineEchoesModel" "near" "[J" ∈ wsG := mG (seg4 (List.mem_of_getElem? (i := 234) rfl)) rfl
theorem wfieldLink_RX10_38_LineEchoesModel_echoes_J : Cond.fieldLink RX10 38 "LineEchoesModel" "echoes" "[J" ∈ wsG := mG (seg4 (List.mem_of_getElem? (i := 235) rfl)) rfl
theorem wfieldLink_RX10_107_LineEchoesModel_left_J : Cond.fieldLink RX10 107 "LineEchoesModel" "left" "J" ∈ wsG := mG (seg4 (List.mem_of_getElem? (i := 236) rfl)) rfl
theorem wfieldLink_RX10_76_LineEchoesModel_dropped_J : Cond.fieldLink RX10 76 "LineEchoesModel" "dropped" "J" ∈ wsG := mG (seg4 (List.mem_of_getElem? (i := 237) rfl)) rfl
theorem wfieldLink_RX10_70_LineEchoesModel_merged_I : Cond.fieldLink RX10 70 "LineEchoesModel" "merged" "I" ∈ wsG := mG (seg4 (List.mem_of_getElem? (i := 238) rfl)) rfl
theorem wfieldLink_RX10_73_LineEchoesModel_drops_I : Cond.fieldLink RX10 73 "LineEchoesModel" "drops" "I" ∈ wsG := mG (seg4 (List.mem_of_getElem? (i := 239) rfl)) rfl
theorem wfieldLink_RX10_63_LineEchoesModel_contributions_I : Cond.fieldLink RX10 63 "LineEchoesModel" "contributions" "I" ∈ wsG := mG (seg5 (List.mem_of_getElem? (i := 0) rfl)) rfl
theorem wfieldLink_RX10_66_LineEchoesModel_packet_J : Cond.fieldLink RX10 66 "LineEchoesModel" "packet" "J" ∈ wsG := mG (seg5 (List.mem_of_getElem? (i := 1) rfl)) rfl
theorem wfieldLink_RX10_240_LineEchoesModel_peelResult_I : Cond.fieldLink RX10 240 "LineEchoesModel" "peelResult" "I" ∈ wsG := mG (seg5 (List.mem_of_getElem? (i := 2) rfl)) rfl
theorem wfieldLink_RX10_237_LineEchoesModel_peelTime_I : Cond.fieldLink RX10 237 "LineEchoesModel" "peelTime" "I" ∈ wsG := mG (seg5 (List.mem_of_getElem? (i := 3) rfl)) rfl
theorem wfieldLink_RX10_231_LineEchoesModel_peelSum_I : Cond.fieldLink RX10 231 "LineEchoesModel" "peelSum" "I" ∈ wsG := mG (seg5 (List.mem_of_getElem? (i := 4) rfl)) rfl
theorem wfieldLink_RX10_264_LineEchoesModel_at_I : Cond.fieldLink RX10 264 "LineEchoesModel" "at" "I" ∈ wsG := mG (seg5 (List.mem_of_getElem? (i := 5) rfl)) rfl
theorem wfieldLink_RX10_304_LineEchoesModel_commands_I : Cond.fieldLink RX10 304 "LineEchoesModel" "commands" "I" ∈ wsG := mG (seg5 (List.mem_of_getElem? (i := 6) rfl)) rfl
theorem wfieldLink_RX10_41_LineEchoesModel_draft_I : Cond.fieldLink RX10 41 "LineEchoesModel" "draft" "[I" ∈ wsG := mG (seg5 (List.mem_of_getElem? (i := 7) rfl)) rfl
theorem wfieldLink_RX10_324_LineEchoesModel_hash_J : Cond.fieldLink RX10 324 "LineEchoesModel" "hash" "J" ∈ wsG := mG (seg5 (List.mem_of_getElem? (i := 8) rfl)) rfl
theorem wmethodLink_RX10_59_yX10_in : Cond.methodLink RX10 59 yX10_in ∈ wsG := mG (seg5 (List.mem_of_getElem? (i := 82) rfl)) rfl
theorem wstatic_yX10_in : Cond.static yX10_in ∈ wsG := mG (seg5 (List.mem_of_getElem? (i := 83) rfl)) rfl
theorem winitialized_RX10 : Cond.initialized RX10 ∈ wsG := mG (seg1 (List.mem_of_getElem? (i := 10) rfl)) rfl
theorem wcode_yX10_in_cX10_in_6_some_boolean : Cond.code yX10_in cX10_in 6 (some .boolean) ∈ wsG := mG (seg5 (List.mem_of_getElem? (i := 84) rfl)) rfl
theorem wmethodLink_RX10_134_yX10_keep : Cond.methodLink RX10 134 yX10_keep ∈ wsG := mG (seg5 (List.mem_of_getElem? (i := 90) rfl)) rfl
theorem winstanceMethod_yX10_keep : Cond.instanceMethod yX10_keep ∈ wsG := mG (seg5 (List.mem_of_getElem? (i := 92) rfl)) rfl
theorem wselects_RX10_yX10_keep_yX10_keep : Cond.selects RX10 yX10_keep yX10_keep ∈ wsG := mG (seg0 (List.mem_of_getElem? (i := 34) rfl)) rfl
theorem wcode_yX10_keep_cX10_keep_2_none : Cond.code yX10_keep cX10_keep 2 none ∈ wsG := mG (seg5 (List.mem_of_getElem? (i := 93) rfl)) rfl
theorem wmethodLink_RX10_55_yX10_parts : Cond.methodLink RX10 55 yX10_parts ∈ wsG := mG (seg5 (List.mem_of_getElem? (i := 86) rfl)) rfl
theorem winstanceMethod_yX10_parts : Cond.instanceMethod yX10_parts ∈ wsG := mG (seg5 (List.mem_of_getElem? (i := 88) rfl)) rfl
theorem wselects_RX10_yX10_parts_yX10_parts : Cond.selects RX10 yX10_parts yX10_parts ∈ wsG := mG (seg0 (List.mem_of_getElem? (i := 33) rfl)) rfl
theorem wcode_yX10_parts_cX10_parts_1_some_int : Cond.code yX10_parts cX10_parts 1 (some .int) ∈ wsG := mG (seg5 (List.mem_of_getElem? (i := 89) rfl)) rfl
theorem wmethodLink_RX10_140_yX10_isPart : Cond.methodLink RX10 140 yX10_isPart ∈ wsG := mG (seg5 (List.mem_of_getElem? (i := 110) rfl)) rfl
theorem winstanceMethod_yX10_isPart : Cond.instanceMethod yX10_isPart ∈ wsG := mG (seg5 (List.mem_of_getElem? (i := 112) rfl)) rfl
theorem wselects_RX10_yX10_isPart_yX10_isPart : Cond.selects RX10 yX10_isPart yX10_isPart ∈ wsG := mG (seg0 (List.mem_of_getElem? (i := 38) rfl)) rfl
theorem wcode_yX10_isPart_cX10_isPart_2_some_boolean : Cond.code yX10_isPart cX10_isPart 2 (some .boolean) ∈ wsG := mG (seg5 (List.mem_of_getElem? (i := 113) rfl)) rfl
theorem wmethodLink_RX10_110_yX10_window : Cond.methodLink RX10 110 yX10_window ∈ wsG := mG (seg5 (List.mem_of_getElem? (i := 156) rfl)) rfl
theorem winstanceMethod_yX10_window : Cond.instanceMethod yX10_window ∈ wsG := mG (seg5 (List.mem_of_getElem? (i := 158) rfl)) rfl
theorem wselects_RX10_yX10_window_yX10_window : Cond.selects RX10 yX10_window yX10_window ∈ wsG := mG (seg0 (List.mem_of_getElem? (i := 45) rfl)) rfl
theorem wcode_yX10_window_cX10_window_1_some_int : Cond.code yX10_window cX10_window 1 (some .int) ∈ wsG := mG (seg5 (List.mem_of_getElem? (i := 159) rfl)) rfl
theorem wmethodLink_RX10_87_yX10_contribute : Cond.methodLink RX10 87 yX10_contribute ∈ wsG := mG (seg5 (List.mem_of_getElem? (i := 213) rfl)) rfl
theorem winstanceMethod_yX10_contribute : Cond.instanceMethod yX10_contribute ∈ wsG := mG (seg5 (List.mem_of_getElem? (i := 215) rfl)) rfl
theorem wselects_RX10_yX10_contribute_yX10_contribute : Cond.selects RX10 yX10_contribute yX10_contribute ∈ wsG := mG (seg0 (List.mem_of_getElem? (i := 53) rfl)) rfl
theorem wcode_yX10_contribute_cX10_contribute_3_none : Cond.code yX10_contribute cX10_contribute 3 none ∈ wsG := mG (seg5 (List.mem_of_getElem? (i := 216) rfl)) rfl
theorem wmethodLink_RX10_103_yX10_setsOut : Cond.methodLink RX10 103 yX10_setsOut ∈ wsG := mG (seg5 (List.mem_of_getElem? (i := 229) rfl)) rfl
theorem winstanceMethod_yX10_setsOut : Cond.instanceMethod yX10_setsOut ∈ wsG := mG (seg5 (List.mem_of_getElem? (i := 231) rfl)) rfl
theorem wselects_RX10_yX10_setsOut_yX10_setsOut : Cond.selects RX10 yX10_setsOut yX10_setsOut ∈ wsG := mG (seg0 (List.mem_of_getElem? (i := 57) rfl)) rfl
theorem wcode_yX10_setsOut_cX10_setsOut_3_some_long : Cond.code yX10_setsOut cX10_setsOut 3 (some .long) ∈ wsG := mG (seg5 (List.mem_of_getElem? (i := 232) rfl)) rfl
theorem wmethodLink_RX10_91_yX10_arrives : Cond.methodLink RX10 91 yX10_arrives ∈ wsG := mG (seg5 (List.mem_of_getElem? (i := 221) rfl)) rfl
theorem winstanceMethod_yX10_arrives : Cond.instanceMethod yX10_arrives ∈ wsG := mG (seg5 (List.mem_of_getElem? (i := 223) rfl)) rfl
theorem wselects_RX10_yX10_arrives_yX10_arrives : Cond.selects RX10 yX10_arrives yX10_arrives ∈ wsG := mG (seg0 (List.mem_of_getElem? (i := 55) rfl)) rfl
theorem wcode_yX10_arrives_cX10_arrives_6_some_long : Cond.code yX10_arrives cX10_arrives 6 (some .long) ∈ wsG := mG (seg5 (List.mem_of_getElem? (i := 224) rfl)) rfl
theorem wconstantLong_RX10_82_1000 : Cond.constantLong RX10 82 (1000) ∈ wsG := mG (seg5 (List.mem_of_getElem? (i := 85) rfl)) rfl
theorem wmethodLink_RX10_95_yX10_back : Cond.methodLink RX10 95 yX10_back ∈ wsG := mG (seg5 (List.mem_of_getElem? (i := 225) rfl)) rfl
theorem winstanceMethod_yX10_back : Cond.instanceMethod yX10_back ∈ wsG := mG (seg5 (List.mem_of_getElem? (i := 227) rfl)) rfl
theorem wselects_RX10_yX10_back_yX10_back : Cond.selects RX10 yX10_back yX10_back ∈ wsG := mG (seg0 (List.mem_of_getElem? (i := 56) rfl)) rfl
theorem wcode_yX10_back_cX10_back_4_some_long : Cond.code yX10_back cX10_back 4 (some .long) ∈ wsG := mG (seg5 (List.mem_of_getElem? (i := 228) rfl)) rfl
theorem wmethodLink_RX10_99_yX10_passPulses : Cond.methodLink RX10 99 yX10_passPulses ∈ wsG := mG (seg5 (List.mem_of_getElem? (i := 209) rfl)) rfl
theorem winstanceMethod_yX10_passPulses : Cond.instanceMethod yX10_passPulses ∈ wsG := mG (seg5 (List.mem_of_getElem? (i := 211) rfl)) rfl
theorem wselects_RX10_yX10_passPulses_yX10_passPulses : Cond.selects RX10 yX10_passPulses yX10_passPulses ∈ wsG := mG (seg0 (List.mem_of_getElem? (i := 52) rfl)) rfl
theorem wcode_yX10_passPulses_cX10_passPulses_3_none : Cond.code yX10_passPulses cX10_passPulses 3 none ∈ wsG := mG (seg5 (List.mem_of_getElem? (i := 212) rfl)) rfl
theorem wmethodLink_RX10_113_yX10_runAt : Cond.methodLink RX10 113 yX10_runAt ∈ wsG := mG (seg5 (List.mem_of_getElem? (i := 217) rfl)) rfl
theorem winstanceMethod_yX10_runAt : Cond.instanceMethod yX10_runAt ∈ wsG := mG (seg5 (List.mem_of_getElem? (i := 219) rfl)) rfl
theorem wselects_RX10_yX10_runAt_yX10_runAt : Cond.selects RX10 yX10_runAt yX10_runAt ∈ wsG := mG (seg0 (List.mem_of_getElem? (i := 54) rfl)) rfl
theorem wcode_yX10_runAt_cX10_runAt_11_none : Cond.code yX10_runAt cX10_runAt 11 none ∈ wsG := mG (seg5 (List.mem_of_getElem? (i := 220) rfl)) rfl
theorem wmethodLink_RX10_117_yX10_runLine : Cond.methodLink RX10 117 yX10_runLine ∈ wsG := mG (seg5 (List.mem_of_getElem? (i := 205) rfl)) rfl
theorem winstanceMethod_yX10_runLine : Cond.instanceMethod yX10_runLine ∈ wsG := mG (seg5 (List.mem_of_getElem? (i := 207) rfl)) rfl
theorem wselects_RX10_yX10_runLine_yX10_runLine : Cond.selects RX10 yX10_runLine yX10_runLine ∈ wsG := mG (seg0 (List.mem_of_getElem? (i := 51) rfl)) rfl
theorem wcode_yX10_runLine_cX10_runLine_3_none : Cond.code yX10_runLine cX10_runLine 3 none ∈ wsG := mG (seg5 (List.mem_of_getElem? (i := 208) rfl)) rfl
theorem wmethodLink_RX10_193_yX10_runPresent : Cond.methodLink RX10 193 yX10_runPresent ∈ wsG := mG (seg5 (List.mem_of_getElem? (i := 201) rfl)) rfl
theorem winstanceMethod_yX10_runPresent : Cond.instanceMethod yX10_runPresent ∈ wsG := mG (seg5 (List.mem_of_getElem? (i := 203) rfl)) rfl
theorem wselects_RX10_yX10_runPresent_yX10_runPresent : Cond.selects RX10 yX10_runPresent yX10_runPresent ∈ wsG := mG (seg0 (List.mem_of_getElem? (i := 50) rfl)) rfl
theorem wcode_yX10_runPresent_cX10_runPresent_2_none : Cond.code yX10_runPresent cX10_runPresent 2 none ∈ wsG := mG (seg5 (List.mem_of_getElem? (i := 204) rfl)) rfl
theorem wmethodLink_RX10_196_yX10_underWay : Cond.methodLink RX10 196 yX10_underWay ∈ wsG := mG (seg6 (List.mem_of_getElem? (i := 6) rfl)) rfl
theorem winstanceMethod_yX10_underWay : Cond.instanceMethod yX10_underWay ∈ wsG := mG (seg6 (List.mem_of_getElem? (i := 8) rfl)) rfl
theorem wselects_RX10_yX10_underWay_yX10_underWay : Cond.selects RX10 yX10_underWay yX10_underWay ∈ wsG := mG (seg0 (List.mem_of_getElem? (i := 59) rfl)) rfl
theorem wcode_yX10_underWay_cX10_underWay_6_some_long : Cond.code yX10_underWay cX10_underWay 6 (some .long) ∈ wsG := mG (seg6 (List.mem_of_getElem? (i := 9) rfl)) rfl
theorem wconstantLong_RX10_120_20 : Cond.constantLong RX10 120 (20) ∈ wsG := mG (seg5 (List.mem_of_getElem? (i := 81) rfl)) rfl
theorem wmethodLink_RX10_122_yX10_arePartNumbers : Cond.methodLink RX10 122 yX10_arePartNumbers ∈ wsG := mG (seg5 (List.mem_of_getElem? (i := 78) rfl)) rfl
theorem wstatic_yX10_arePartNumbers : Cond.static yX10_arePartNumbers ∈ wsG := mG (seg5 (List.mem_of_getElem? (i := 79) rfl)) rfl
theorem wcode_yX10_arePartNumbers_cX10_arePartNumbers_2_some_boolean : Cond.code yX10_arePartNumbers cX10_arePartNumbers 2 (some .boolean) ∈ wsG := mG (seg5 (List.mem_of_getElem? (i := 80) rfl)) rfl
theorem wmethodLink_RX10_126_yX10_laysPart : Cond.methodLink RX10 126 yX10_laysPart ∈ wsG := mG (seg5 (List.mem_of_getElem? (i := 98) rfl)) rfl
theorem winstanceMethod_yX10_laysPart : Cond.instanceMethod yX10_laysPart ∈ wsG := mG (seg5 (List.mem_of_getElem? (i := 100) rfl)) rfl
theorem wselects_RX10_yX10_laysPart_yX10_laysPart : Cond.selects RX10 yX10_laysPart yX10_laysPart ∈ wsG := mG (seg0 (List.mem_of_getElem? (i := 36) rfl)) rfl
theorem wcode_yX10_laysPart_cX10_laysPart_4_none : Cond.code yX10_laysPart cX10_laysPart 4 none ∈ wsG := mG (seg5 (List.mem_of_getElem? (i := 101) rfl)) rfl
theorem wmethodLink_RX10_130_yX10_whyNoPart : Cond.methodLink RX10 130 yX10_whyNoPart ∈ wsG := mG (seg5 (List.mem_of_getElem? (i := 74) rfl)) rfl
theorem winstanceMethod_yX10_whyNoPart : Cond.instanceMethod yX10_whyNoPart ∈ wsG := mG (seg5 (List.mem_of_getElem? (i := 76) rfl)) rfl
theorem wselects_RX10_yX10_whyNoPart_yX10_whyNoPart : Cond.selects RX10 yX10_whyNoPart yX10_whyNoPart ∈ wsG := mG (seg0 (List.mem_of_getElem? (i := 32) rfl)) rfl
theorem wcode_yX10_whyNoPart_cX10_whyNoPart_3_some_int : Cond.code yX10_whyNoPart cX10_whyNoPart 3 (some .int) ∈ wsG := mG (seg5 (List.mem_of_getElem? (i := 77) rfl)) rfl
theorem wmethodLink_RX10_137_yX10_addsPart : Cond.methodLink RX10 137 yX10_addsPart ∈ wsG := mG (seg5 (List.mem_of_getElem? (i := 94) rfl)) rfl
theorem winstanceMethod_yX10_addsPart : Cond.instanceMethod yX10_addsPart ∈ wsG := mG (seg5 (List.mem_of_getElem? (i := 96) rfl)) rfl
theorem wselects_RX10_yX10_addsPart_yX10_addsPart : Cond.selects RX10 yX10_addsPart yX10_addsPart ∈ wsG := mG (seg0 (List.mem_of_getElem? (i := 35) rfl)) rfl
theorem wcode_yX10_addsPart_cX10_addsPart_3_some_int : Cond.code yX10_addsPart cX10_addsPart 3 (some .int) ∈ wsG := mG (seg5 (List.mem_of_getElem? (i := 97) rfl)) rfl
theorem wmethodLink_RX10_144_yX10_whyNotSet : Cond.methodLink RX10 144 yX10_whyNotSet ∈ wsG := mG (seg5 (List.mem_of_getElem? (i := 106) rfl)) rfl
theorem winstanceMethod_yX10_whyNotSet : Cond.instanceMethod yX10_whyNotSet ∈ wsG := mG (seg5 (List.mem_of_getElem? (i := 108) rfl)) rfl
theorem wselects_RX10_yX10_whyNotSet_yX10_whyNotSet : Cond.selects RX10 yX10_whyNotSet yX10_whyNotSet ∈ wsG := mG (seg0 (List.mem_of_getElem? (i := 37) rfl)) rfl
theorem wcode_yX10_whyNotSet_cX10_whyNotSet_4_some_int : Cond.code yX10_whyNotSet cX10_whyNotSet 4 (some .int) ∈ wsG := mG (seg5 (List.mem_of_getElem? (i := 109) rfl)) rfl
theorem wmethodLink_RX10_148_yX10_setsPart : Cond.methodLink RX10 148 yX10_setsPart ∈ wsG := mG (seg5 (List.mem_of_getElem? (i := 114) rfl)) rfl
theorem winstanceMethod_yX10_setsPart : Cond.instanceMethod yX10_setsPart ∈ wsG := mG (seg5 (List.mem_of_getElem? (i := 116) rfl)) rfl
theorem wselects_RX10_yX10_setsPart_yX10_setsPart : Cond.selects RX10 yX10_setsPart yX10_setsPart ∈ wsG := mG (seg0 (List.mem_of_getElem? (i := 39) rfl)) rfl
theorem wcode_yX10_setsPart_cX10_setsPart_5_some_int : Cond.code yX10_setsPart cX10_setsPart 5 (some .int) ∈ wsG := mG (seg5 (List.mem_of_getElem? (i := 117) rfl)) rfl
theorem wmethodLink_RX10_151_yX10_removesPart : Cond.methodLink RX10 151 yX10_removesPart ∈ wsG := mG (seg5 (List.mem_of_getElem? (i := 122) rfl)) rfl
theorem winstanceMethod_yX10_removesPart : Cond.instanceMethod yX10_removesPart ∈ wsG := mG (seg5 (List.mem_of_getElem? (i := 124) rfl)) rfl
theorem wselects_RX10_yX10_removesPart_yX10_removesPart : Cond.selects RX10 yX10_removesPart yX10_removesPart ∈ wsG := mG (seg0 (List.mem_of_getElem? (i := 40) rfl)) rfl
theorem wcode_yX10_removesPart_cX10_removesPart_3_some_int : Cond.code yX10_removesPart cX10_removesPart 3 (some .int) ∈ wsG := mG (seg5 (List.mem_of_getElem? (i := 125) rfl)) rfl
theorem wmethodLink_RX10_155_yX10_whyNotSplit : Cond.methodLink RX10 155 yX10_whyNotSplit ∈ wsG := mG (seg5 (List.mem_of_getElem? (i := 130) rfl)) rfl
theorem winstanceMethod_yX10_whyNotSplit : Cond.instanceMethod yX10_whyNotSplit ∈ wsG := mG (seg5 (List.mem_of_getElem? (i := 132) rfl)) rfl
theorem wselects_RX10_yX10_whyNotSplit_yX10_whyNotSplit : Cond.selects RX10 yX10_whyNotSplit yX10_whyNotSplit ∈ wsG := mG (seg0 (List.mem_of_getElem? (i := 41) rfl)) rfl
theorem wcode_yX10_whyNotSplit_cX10_whyNotSplit_4_some_int : Cond.code yX10_whyNotSplit cX10_whyNotSplit 4 (some .int) ∈ wsG := mG (seg5 (List.mem_of_getElem? (i := 133) rfl)) rfl
theorem wmethodLink_RX10_158_yX10_splitsPart : Cond.methodLink RX10 158 yX10_splitsPart ∈ wsG := mG (seg5 (List.mem_of_getElem? (i := 134) rfl)) rfl
theorem winstanceMethod_yX10_splitsPart : Cond.instanceMethod yX10_splitsPart ∈ wsG := mG (seg5 (List.mem_of_getElem? (i := 136) rfl)) rfl
theorem wselects_RX10_yX10_splitsPart_yX10_splitsPart : Cond.selects RX10 yX10_splitsPart yX10_splitsPart ∈ wsG := mG (seg0 (List.mem_of_getElem? (i := 42) rfl)) rfl
theorem wcode_yX10_splitsPart_cX10_splitsPart_5_some_int : Cond.code yX10_splitsPart cX10_splitsPart 5 (some .int) ∈ wsG := mG (seg5 (List.mem_of_getElem? (i := 137) rfl)) rfl
theorem wmethodLink_RX10_164_yX10_sumOfLengths : Cond.methodLink RX10 164 yX10_sumOfLengths ∈ wsG := mG (seg5 (List.mem_of_getElem? (i := 146) rfl)) rfl
theorem winstanceMethod_yX10_sumOfLengths : Cond.instanceMethod yX10_sumOfLengths ∈ wsG := mG (seg5 (List.mem_of_getElem? (i := 148) rfl)) rfl
theorem wselects_RX10_yX10_sumOfLengths_yX10_sumOfLengths : Cond.selects RX10 yX10_sumOfLengths yX10_sumOfLengths ∈ wsG := mG (seg0 (List.mem_of_getElem? (i := 44) rfl)) rfl
theorem wcode_yX10_sumOfLengths_cX10_sumOfLengths_3_some_int : Cond.code yX10_sumOfLengths cX10_sumOfLengths 3 (some .int) ∈ wsG := mG (seg5 (List.mem_of_getElem? (i := 149) rfl)) rfl
theorem wmethodLink_RX10_161_yX10_exchange : Cond.methodLink RX10 161 yX10_exchange ∈ wsG := mG (seg5 (List.mem_of_getElem? (i := 142) rfl)) rfl
theorem winstanceMethod_yX10_exchange : Cond.instanceMethod yX10_exchange ∈ wsG := mG (seg5 (List.mem_of_getElem? (i := 144) rfl)) rfl
theorem wselects_RX10_yX10_exchange_yX10_exchange : Cond.selects RX10 yX10_exchange yX10_exchange ∈ wsG := mG (seg0 (List.mem_of_getElem? (i := 43) rfl)) rfl
theorem wcode_yX10_exchange_cX10_exchange_5_none : Cond.code yX10_exchange cX10_exchange 5 none ∈ wsG := mG (seg5 (List.mem_of_getElem? (i := 145) rfl)) rfl
theorem wconstantLong_RX10_167_999 : Cond.constantLong RX10 167 (999) ∈ wsG := mG (seg5 (List.mem_of_getElem? (i := 154) rfl)) rfl
theorem wconstantLong_RX10_169_200 : Cond.constantLong RX10 169 (200) ∈ wsG := mG (seg5 (List.mem_of_getElem? (i := 155) rfl)) rfl
theorem wconstantLong_RX10_44_100 : Cond.constantLong RX10 44 (100) ∈ wsG := mG (seg4 (List.mem_of_getElem? (i := 219) rfl)) rfl
theorem wconstantLong_RX10_171_1000000 : Cond.constantLong RX10 171 (1000000) ∈ wsG := mG (seg5 (List.mem_of_getElem? (i := 168) rfl)) rfl
theorem wconstantLong_RX10_173_4 : Cond.constantLong RX10 173 (4) ∈ wsG := mG (seg5 (List.mem_of_getElem? (i := 169) rfl)) rfl
theorem wmethodLink_RX10_175_yX10_whyNoPulse : Cond.methodLink RX10 175 yX10_whyNoPulse ∈ wsG := mG (seg5 (List.mem_of_getElem? (i := 164) rfl)) rfl
theorem winstanceMethod_yX10_whyNoPulse : Cond.instanceMethod yX10_whyNoPulse ∈ wsG := mG (seg5 (List.mem_of_getElem? (i := 166) rfl)) rfl
theorem wselects_RX10_yX10_whyNoPulse_yX10_whyNoPulse : Cond.selects RX10 yX10_whyNoPulse yX10_whyNoPulse ∈ wsG := mG (seg0 (List.mem_of_getElem? (i := 46) rfl)) rfl
theorem wcode_yX10_whyNoPulse_cX10_whyNoPulse_3_some_int : Cond.code yX10_whyNoPulse cX10_whyNoPulse 3 (some .int) ∈ wsG := mG (seg5 (List.mem_of_getElem? (i := 167) rfl)) rfl
theorem wmethodLink_RX10_178_yX10_addsPulse : Cond.methodLink RX10 178 yX10_addsPulse ∈ wsG := mG (seg5 (List.mem_of_getElem? (i := 170) rfl)) rfl
theorem winstanceMethod_yX10_addsPulse : Cond.instanceMethod yX10_addsPulse ∈ wsG := mG (seg5 (List.mem_of_getElem? (i := 172) rfl)) rfl
theorem wselects_RX10_yX10_addsPulse_yX10_addsPulse : Cond.selects RX10 yX10_addsPulse yX10_addsPulse ∈ wsG := mG (seg0 (List.mem_of_getElem? (i := 47) rfl)) rfl
theorem wcode_yX10_addsPulse_cX10_addsPulse_4_some_int : Cond.code yX10_addsPulse cX10_addsPulse 4 (some .int) ∈ wsG := mG (seg5 (List.mem_of_getElem? (i := 173) rfl)) rfl
theorem wconstantLong_RX10_181_21 : Cond.constantLong RX10 181 (21) ∈ wsG := mG (seg5 (List.mem_of_getElem? (i := 178) rfl)) rfl
theorem wconstantLong_RX10_183_2 : Cond.constantLong RX10 183 (2) ∈ wsG := mG (seg5 (List.mem_of_getElem? (i := 179) rfl)) rfl
theorem wmethodLink_RX10_185_yX10_upTo : Cond.methodLink RX10 185 yX10_upTo ∈ wsG := mG (seg5 (List.mem_of_getElem? (i := 184) rfl)) rfl
theorem winstanceMethod_yX10_upTo : Cond.instanceMethod yX10_upTo ∈ wsG := mG (seg5 (List.mem_of_getElem? (i := 186) rfl)) rfl
theorem wselects_RX10_yX10_upTo_yX10_upTo : Cond.selects RX10 yX10_upTo yX10_upTo ∈ wsG := mG (seg0 (List.mem_of_getElem? (i := 48) rfl)) rfl
theorem wcode_yX10_upTo_cX10_upTo_4_some_int : Cond.code yX10_upTo cX10_upTo 4 (some .int) ∈ wsG := mG (seg5 (List.mem_of_getElem? (i := 187) rfl)) rfl
theorem wmethodLink_RX10_190_yX10_benchOf : Cond.methodLink RX10 190 yX10_benchOf ∈ wsG := mG (seg5 (List.mem_of_getElem? (i := 193) rfl)) rfl
theorem winstanceMethod_yX10_benchOf : Cond.instanceMethod yX10_benchOf ∈ wsG := mG (seg5 (List.mem_of_getElem? (i := 195) rfl)) rfl
theorem wselects_RX10_yX10_benchOf_yX10_benchOf : Cond.selects RX10 yX10_benchOf yX10_benchOf ∈ wsG := mG (seg0 (List.mem_of_getElem? (i := 49) rfl)) rfl
theorem wcode_yX10_benchOf_cX10_benchOf_2_some_int : Cond.code yX10_benchOf cX10_benchOf 2 (some .int) ∈ wsG := mG (seg5 (List.mem_of_getElem? (i := 196) rfl)) rfl
theorem wconstantLong_RX10_188_5 : Cond.constantLong RX10 188 (5) ∈ wsG := mG (seg5 (List.mem_of_getElem? (i := 192) rfl)) rfl
theorem wmethodLink_RX10_201_yX10_totalOf : Cond.methodLink RX10 201 yX10_totalOf ∈ wsG := mG (seg6 (List.mem_of_getElem? (i := 2) rfl)) rfl
theorem winstanceMethod_yX10_totalOf : Cond.instanceMethod yX10_totalOf ∈ wsG := mG (seg6 (List.mem_of_getElem? (i := 4) rfl)) rfl
theorem wselects_RX10_yX10_totalOf_yX10_totalOf : Cond.selects RX10 yX10_totalOf yX10_totalOf ∈ wsG := mG (seg0 (List.mem_of_getElem? (i := 58) rfl)) rfl
theorem wcode_yX10_totalOf_cX10_totalOf_10_some_long : Cond.code yX10_totalOf cX10_totalOf 10 (some .long) ∈ wsG := mG (seg6 (List.mem_of_getElem? (i := 5) rfl)) rfl
theorem wconstantLong_RX10_199_8 : Cond.constantLong RX10 199 (8) ∈ wsG := mG (seg6 (List.mem_of_getElem? (i := 1) rfl)) rfl
theorem wconstantLong_RX10_205_10 : Cond.constantLong RX10 205 (10) ∈ wsG := mG (seg6 (List.mem_of_getElem? (i := 21) rfl)) rfl
theorem wmethodLink_RX10_207_yX10_digits : Cond.methodLink RX10 207 yX10_digits ∈ wsG := mG (seg6 (List.mem_of_getElem? (i := 18) rfl)) rfl
theorem wstatic_yX10_digits : Cond.static yX10_digits ∈ wsG := mG (seg6 (List.mem_of_getElem? (i := 19) rfl)) rfl
theorem wcode_yX10_digits_cX10_digits_5_some_int : Cond.code yX10_digits cX10_digits 5 (some .int) ∈ wsG := mG (seg6 (List.mem_of_getElem? (i := 20) rfl)) rfl
theorem wmethodLink_RX10_211_yX10_digitOf : Cond.methodLink RX10 211 yX10_digitOf ∈ wsG := mG (seg6 (List.mem_of_getElem? (i := 22) rfl)) rfl
theorem wstatic_yX10_digitOf : Cond.static yX10_digitOf ∈ wsG := mG (seg6 (List.mem_of_getElem? (i := 23) rfl)) rfl
theorem wcode_yX10_digitOf_cX10_digitOf_6_some_int : Cond.code yX10_digitOf cX10_digitOf 6 (some .int) ∈ wsG := mG (seg6 (List.mem_of_getElem? (i := 24) rfl)) rfl
theorem wmethodLink_RX10_215_yX10_copies : Cond.methodLink RX10 215 yX10_copies ∈ wsG := mG (seg6 (List.mem_of_getElem? (i := 29) rfl)) rfl
theorem winstanceMethod_yX10_copies : Cond.instanceMethod yX10_copies ∈ wsG := mG (seg6 (List.mem_of_getElem? (i := 31) rfl)) rfl
theorem wselects_RX10_yX10_copies_yX10_copies : Cond.selects RX10 yX10_copies yX10_copies ∈ wsG := mG (seg0 (List.mem_of_getElem? (i := 60) rfl)) rfl
theorem wcode_yX10_copies_cX10_copies_4_some_int : Cond.code yX10_copies cX10_copies 4 (some .int) ∈ wsG := mG (seg6 (List.mem_of_getElem? (i := 32) rfl)) rfl
theorem wmethodLink_RX10_218_yX10_differencesNow : Cond.methodLink RX10 218 yX10_differencesNow ∈ wsG := mG (seg6 (List.mem_of_getElem? (i := 37) rfl)) rfl
theorem winstanceMethod_yX10_differencesNow : Cond.instanceMethod yX10_differencesNow ∈ wsG := mG (seg6 (List.mem_of_getElem? (i := 39) rfl)) rfl
theorem wselects_RX10_yX10_differencesNow_yX10_differencesNow : Cond.selects RX10 yX10_differencesNow yX10_differencesNow ∈ wsG := mG (seg0 (List.mem_of_getElem? (i := 61) rfl)) rfl
theorem wcode_yX10_differencesNow_cX10_differencesNow_3_some_int : Cond.code yX10_differencesNow cX10_differencesNow 3 (some .int) ∈ wsG := mG (seg6 (List.mem_of_getElem? (i := 40) rfl)) rfl
theorem wmethodLink_RX10_221_yX10_earliest : Cond.methodLink RX10 221 yX10_earliest ∈ wsG := mG (seg6 (List.mem_of_getElem? (i := 50) rfl)) rfl
theorem winstanceMethod_yX10_earliest : Cond.instanceMethod yX10_earliest ∈ wsG := mG (seg6 (List.mem_of_getElem? (i := 52) rfl)) rfl
theorem wselects_RX10_yX10_earliest_yX10_earliest : Cond.selects RX10 yX10_earliest yX10_earliest ∈ wsG := mG (seg0 (List.mem_of_getElem? (i := 63) rfl)) rfl
theorem wcode_yX10_earliest_cX10_earliest_3_some_int : Cond.code yX10_earliest cX10_earliest 3 (some .int) ∈ wsG := mG (seg6 (List.mem_of_getElem? (i := 53) rfl)) rfl
theorem wmethodLink_RX10_226_yX10_faultOf : Cond.methodLink RX10 226 yX10_faultOf ∈ wsG := mG (seg6 (List.mem_of_getElem? (i := 46) rfl)) rfl
theorem winstanceMethod_yX10_faultOf : Cond.instanceMethod yX10_faultOf ∈ wsG := mG (seg6 (List.mem_of_getElem? (i := 48) rfl)) rfl
theorem wselects_RX10_yX10_faultOf_yX10_faultOf : Cond.selects RX10 yX10_faultOf yX10_faultOf ∈ wsG := mG (seg0 (List.mem_of_getElem? (i := 62) rfl)) rfl
theorem wcode_yX10_faultOf_cX10_faultOf_5_some_int : Cond.code yX10_faultOf cX10_faultOf 5 (some .int) ∈ wsG := mG (seg6 (List.mem_of_getElem? (i := 49) rfl)) rfl
theorem wconstantLong_RX10_224_3 : Cond.constantLong RX10 224 (3) ∈ wsG := mG (seg6 (List.mem_of_getElem? (i := 45) rfl)) rfl
theorem wconstantLong_RX10_229_4000000 : Cond.constantLong RX10 229 (4000000) ∈ wsG := mG (seg6 (List.mem_of_getElem? (i := 62) rfl)) rfl
theorem wmethodLink_RX10_234_yX10_firstUnlike : Cond.methodLink RX10 234 yX10_firstUnlike ∈ wsG := mG (seg6 (List.mem_of_getElem? (i := 79) rfl)) rfl
theorem winstanceMethod_yX10_firstUnlike : Cond.instanceMethod yX10_firstUnlike ∈ wsG := mG (seg6 (List.mem_of_getElem? (i := 81) rfl)) rfl
theorem wselects_RX10_yX10_firstUnlike_yX10_firstUnlike : Cond.selects RX10 yX10_firstUnlike yX10_firstUnlike ∈ wsG := mG (seg0 (List.mem_of_getElem? (i := 66) rfl)) rfl
theorem wcode_yX10_firstUnlike_cX10_firstUnlike_2_some_int : Cond.code yX10_firstUnlike cX10_firstUnlike 2 (some .int) ∈ wsG := mG (seg6 (List.mem_of_getElem? (i := 82) rfl)) rfl
theorem wmethodLink_RX10_243_yX10_puts : Cond.methodLink RX10 243 yX10_puts ∈ wsG := mG (seg6 (List.mem_of_getElem? (i := 83) rfl)) rfl
theorem winstanceMethod_yX10_puts : Cond.instanceMethod yX10_puts ∈ wsG := mG (seg6 (List.mem_of_getElem? (i := 85) rfl)) rfl
theorem wselects_RX10_yX10_puts_yX10_puts : Cond.selects RX10 yX10_puts yX10_puts ∈ wsG := mG (seg0 (List.mem_of_getElem? (i := 67) rfl)) rfl
theorem wcode_yX10_puts_cX10_puts_6_some_boolean : Cond.code yX10_puts cX10_puts 6 (some .boolean) ∈ wsG := mG (seg6 (List.mem_of_getElem? (i := 86) rfl)) rfl
theorem wmethodLink_RX10_246_yX10_peels : Cond.methodLink RX10 246 yX10_peels ∈ wsG := mG (seg6 (List.mem_of_getElem? (i := 75) rfl)) rfl
theorem winstanceMethod_yX10_peels : Cond.instanceMethod yX10_peels ∈ wsG := mG (seg6 (List.mem_of_getElem? (i := 77) rfl)) rfl
theorem wselects_RX10_yX10_peels_yX10_peels : Cond.selects RX10 yX10_peels yX10_peels ∈ wsG := mG (seg0 (List.mem_of_getElem? (i := 65) rfl)) rfl
theorem wcode_yX10_peels_cX10_peels_2_some_boolean : Cond.code yX10_peels cX10_peels 2 (some .boolean) ∈ wsG := mG (seg6 (List.mem_of_getElem? (i := 78) rfl)) rfl
theorem wmethodLink_RX10_250_yX10_peelAll : Cond.methodLink RX10 250 yX10_peelAll ∈ wsG := mG (seg6 (List.mem_of_getElem? (i := 71) rfl)) rfl
theorem winstanceMethod_yX10_peelAll : Cond.instanceMethod yX10_peelAll ∈ wsG := mG (seg6 (List.mem_of_getElem? (i := 73) rfl)) rfl
theorem wselects_RX10_yX10_peelAll_yX10_peelAll : Cond.selects RX10 yX10_peelAll yX10_peelAll ∈ wsG := mG (seg0 (List.mem_of_getElem? (i := 64) rfl)) rfl
theorem wcode_yX10_peelAll_cX10_peelAll_2_none : Cond.code yX10_peelAll cX10_peelAll 2 none ∈ wsG := mG (seg6 (List.mem_of_getElem? (i := 74) rfl)) rfl
theorem wmethodLink_RX10_253_yX10_peelOf : Cond.methodLink RX10 253 yX10_peelOf ∈ wsG := mG (seg6 (List.mem_of_getElem? (i := 87) rfl)) rfl
theorem winstanceMethod_yX10_peelOf : Cond.instanceMethod yX10_peelOf ∈ wsG := mG (seg6 (List.mem_of_getElem? (i := 89) rfl)) rfl
theorem wselects_RX10_yX10_peelOf_yX10_peelOf : Cond.selects RX10 yX10_peelOf yX10_peelOf ∈ wsG := mG (seg0 (List.mem_of_getElem? (i := 68) rfl)) rfl
theorem wcode_yX10_peelOf_cX10_peelOf_2_some_int : Cond.code yX10_peelOf cX10_peelOf 2 (some .int) ∈ wsG := mG (seg6 (List.mem_of_getElem? (i := 90) rfl)) rfl
theorem wmethodLink_RX10_256_yX10_adopts : Cond.methodLink RX10 256 yX10_adopts ∈ wsG := mG (seg6 (List.mem_of_getElem? (i := 99) rfl)) rfl
theorem winstanceMethod_yX10_adopts : Cond.instanceMethod yX10_adopts ∈ wsG := mG (seg6 (List.mem_of_getElem? (i := 101) rfl)) rfl
theorem wselects_RX10_yX10_adopts_yX10_adopts : Cond.selects RX10 yX10_adopts yX10_adopts ∈ wsG := mG (seg0 (List.mem_of_getElem? (i := 69) rfl)) rfl
theorem wcode_yX10_adopts_cX10_adopts_2_some_int : Cond.code yX10_adopts cX10_adopts 2 (some .int) ∈ wsG := mG (seg6 (List.mem_of_getElem? (i := 102) rfl)) rfl
theorem wconstantLong_RX10_259_127 : Cond.constantLong RX10 259 (127) ∈ wsG := mG (seg6 (List.mem_of_getElem? (i := 107) rfl)) rfl
theorem wmethodLink_RX10_267_yX10_here : Cond.methodLink RX10 267 yX10_here ∈ wsG := mG (seg6 (List.mem_of_getElem? (i := 124) rfl)) rfl
theorem winstanceMethod_yX10_here : Cond.instanceMethod yX10_here ∈ wsG := mG (seg6 (List.mem_of_getElem? (i := 126) rfl)) rfl
theorem wselects_RX10_yX10_here_yX10_here : Cond.selects RX10 yX10_here yX10_here ∈ wsG := mG (seg0 (List.mem_of_getElem? (i := 72) rfl)) rfl
theorem wcode_yX10_here_cX10_here_1_some_int : Cond.code yX10_here cX10_here 1 (some .int) ∈ wsG := mG (seg6 (List.mem_of_getElem? (i := 127) rfl)) rfl
theorem wmethodLink_RX10_297_yX10_spaces : Cond.methodLink RX10 297 yX10_spaces ∈ wsG := mG (seg6 (List.mem_of_getElem? (i := 120) rfl)) rfl
theorem winstanceMethod_yX10_spaces : Cond.instanceMethod yX10_spaces ∈ wsG := mG (seg6 (List.mem_of_getElem? (i := 122) rfl)) rfl
theorem wselects_RX10_yX10_spaces_yX10_spaces : Cond.selects RX10 yX10_spaces yX10_spaces ∈ wsG := mG (seg0 (List.mem_of_getElem? (i := 71) rfl)) rfl
theorem wcode_yX10_spaces_cX10_spaces_2_some_boolean : Cond.code yX10_spaces cX10_spaces 2 (some .boolean) ∈ wsG := mG (seg6 (List.mem_of_getElem? (i := 123) rfl)) rfl
theorem wconstantLong_RX10_270_1897204 : Cond.constantLong RX10 270 (1897204) ∈ wsG := mG (seg6 (List.mem_of_getElem? (i := 143) rfl)) rfl
theorem wconstantLong_RX10_274_236484980 : Cond.constantLong RX10 274 (236484980) ∈ wsG := mG (seg6 (List.mem_of_getElem? (i := 145) rfl)) rfl
theorem wconstantLong_RX10_278_1637108 : Cond.constantLong RX10 278 (1637108) ∈ wsG := mG (seg6 (List.mem_of_getElem? (i := 147) rfl)) rfl
theorem wconstantLong_RX10_272_31106741492 : Cond.constantLong RX10 272 (31106741492) ∈ wsG := mG (seg6 (List.mem_of_getElem? (i := 144) rfl)) rfl
theorem wconstantLong_RX10_276_30311922149 : Cond.constantLong RX10 276 (30311922149) ∈ wsG := mG (seg6 (List.mem_of_getElem? (i := 146) rfl)) rfl
theorem wconstantLong_RX10_280_31104792420 : Cond.constantLong RX10 280 (31104792420) ∈ wsG := mG (seg6 (List.mem_of_getElem? (i := 148) rfl)) rfl
theorem wconstantLong_RX10_282_228325355 : Cond.constantLong RX10 282 (228325355) ∈ wsG := mG (seg6 (List.mem_of_getElem? (i := 149) rfl)) rfl
theorem wconstantLong_RX10_284_26249787508 : Cond.constantLong RX10 284 (26249787508) ∈ wsG := mG (seg6 (List.mem_of_getElem? (i := 150) rfl)) rfl
theorem wmethodLink_RX10_294_yX10_kindOf : Cond.methodLink RX10 294 yX10_kindOf ∈ wsG := mG (seg6 (List.mem_of_getElem? (i := 140) rfl)) rfl
theorem wstatic_yX10_kindOf : Cond.static yX10_kindOf ∈ wsG := mG (seg6 (List.mem_of_getElem? (i := 141) rfl)) rfl
theorem wcode_yX10_kindOf_cX10_kindOf_2_some_int : Cond.code yX10_kindOf cX10_kindOf 2 (some .int) ∈ wsG := mG (seg6 (List.mem_of_getElem? (i := 142) rfl)) rfl
theorem wconstantLong_RX10_286_97 : Cond.constantLong RX10 286 (97) ∈ wsG := mG (seg6 (List.mem_of_getElem? (i := 136) rfl)) rfl
theorem wconstantLong_RX10_288_122 : Cond.constantLong RX10 288 (122) ∈ wsG := mG (seg6 (List.mem_of_getElem? (i := 137) rfl)) rfl
theorem wconstantLong_RX10_292_1 : Cond.constantLong RX10 292 (-1) ∈ wsG := mG (seg6 (List.mem_of_getElem? (i := 139) rfl)) rfl
theorem wconstantLong_RX10_290_128 : Cond.constantLong RX10 290 (128) ∈ wsG := mG (seg6 (List.mem_of_getElem? (i := 138) rfl)) rfl
theorem wmethodLink_RX10_307_yX10_readWord : Cond.methodLink RX10 307 yX10_readWord ∈ wsG := mG (seg6 (List.mem_of_getElem? (i := 132) rfl)) rfl
theorem winstanceMethod_yX10_readWord : Cond.instanceMethod yX10_readWord ∈ wsG := mG (seg6 (List.mem_of_getElem? (i := 134) rfl)) rfl
theorem wselects_RX10_yX10_readWord_yX10_readWord : Cond.selects RX10 yX10_readWord yX10_readWord ∈ wsG := mG (seg0 (List.mem_of_getElem? (i := 74) rfl)) rfl
theorem wcode_yX10_readWord_cX10_readWord_5_some_boolean : Cond.code yX10_readWord cX10_readWord 5 (some .boolean) ∈ wsG := mG (seg6 (List.mem_of_getElem? (i := 135) rfl)) rfl
theorem wconstantLong_RX10_300_48 : Cond.constantLong RX10 300 (48) ∈ wsG := mG (seg6 (List.mem_of_getElem? (i := 155) rfl)) rfl
theorem wconstantLong_RX10_302_57 : Cond.constantLong RX10 302 (57) ∈ wsG := mG (seg6 (List.mem_of_getElem? (i := 156) rfl)) rfl
theorem wmethodLink_RX10_310_yX10_readNumber : Cond.methodLink RX10 310 yX10_readNumber ∈ wsG := mG (seg6 (List.mem_of_getElem? (i := 151) rfl)) rfl
theorem winstanceMethod_yX10_readNumber : Cond.instanceMethod yX10_readNumber ∈ wsG := mG (seg6 (List.mem_of_getElem? (i := 153) rfl)) rfl
theorem wselects_RX10_yX10_readNumber_yX10_readNumber : Cond.selects RX10 yX10_readNumber yX10_readNumber ∈ wsG := mG (seg0 (List.mem_of_getElem? (i := 75) rfl)) rfl
theorem wcode_yX10_readNumber_cX10_readNumber_4_some_boolean : Cond.code yX10_readNumber cX10_readNumber 4 (some .boolean) ∈ wsG := mG (seg6 (List.mem_of_getElem? (i := 154) rfl)) rfl
theorem wmethodLink_RX10_313_yX10_readCommand : Cond.methodLink RX10 313 yX10_readCommand ∈ wsG := mG (seg6 (List.mem_of_getElem? (i := 128) rfl)) rfl
theorem winstanceMethod_yX10_readCommand : Cond.instanceMethod yX10_readCommand ∈ wsG := mG (seg6 (List.mem_of_getElem? (i := 130) rfl)) rfl
theorem wselects_RX10_yX10_readCommand_yX10_readCommand : Cond.selects RX10 yX10_readCommand yX10_readCommand ∈ wsG := mG (seg0 (List.mem_of_getElem? (i := 73) rfl)) rfl
theorem wcode_yX10_readCommand_cX10_readCommand_5_some_boolean : Cond.code yX10_readCommand cX10_readCommand 5 (some .boolean) ∈ wsG := mG (seg6 (List.mem_of_getElem? (i := 131) rfl)) rfl
theorem wmethodLink_RX10_316_yX10_readAll : Cond.methodLink RX10 316 yX10_readAll ∈ wsG := mG (seg6 (List.mem_of_getElem? (i := 116) rfl)) rfl
theorem winstanceMethod_yX10_readAll : Cond.instanceMethod yX10_readAll ∈ wsG := mG (seg6 (List.mem_of_getElem? (i := 118) rfl)) rfl
theorem wselects_RX10_yX10_readAll_yX10_readAll : Cond.selects RX10 yX10_readAll yX10_readAll ∈ wsG := mG (seg0 (List.mem_of_getElem? (i := 70) rfl)) rfl
theorem wcode_yX10_readAll_cX10_readAll_2_some_boolean : Cond.code yX10_readAll cX10_readAll 2 (some .boolean) ∈ wsG := mG (seg6 (List.mem_of_getElem? (i := 119) rfl)) rfl
theorem wmethodLink_RX10_319_yX10_does : Cond.methodLink RX10 319 yX10_does ∈ wsG := mG (seg6 (List.mem_of_getElem? (i := 157) rfl)) rfl
theorem winstanceMethod_yX10_does : Cond.instanceMethod yX10_does ∈ wsG := mG (seg6 (List.mem_of_getElem? (i := 159) rfl)) rfl
theorem wselects_RX10_yX10_does_yX10_does : Cond.selects RX10 yX10_does yX10_does ∈ wsG := mG (seg0 (List.mem_of_getElem? (i := 76) rfl)) rfl
theorem wcode_yX10_does_cX10_does_6_some_boolean : Cond.code yX10_does cX10_does 6 (some .boolean) ∈ wsG := mG (seg6 (List.mem_of_getElem? (i := 160) rfl)) rfl
theorem wconstantLong_RX10_322_31 : Cond.constantLong RX10 322 (31) ∈ wsG := mG (seg6 (List.mem_of_getElem? (i := 174) rfl)) rfl
theorem wmethodLink_RX10_327_yX10_mix : Cond.methodLink RX10 327 yX10_mix ∈ wsG := mG (seg6 (List.mem_of_getElem? (i := 170) rfl)) rfl
theorem winstanceMethod_yX10_mix : Cond.instanceMethod yX10_mix ∈ wsG := mG (seg6 (List.mem_of_getElem? (i := 172) rfl)) rfl
theorem wselects_RX10_yX10_mix_yX10_mix : Cond.selects RX10 yX10_mix yX10_mix ∈ wsG := mG (seg0 (List.mem_of_getElem? (i := 77) rfl)) rfl
theorem wcode_yX10_mix_cX10_mix_3_none : Cond.code yX10_mix cX10_mix 3 none ∈ wsG := mG (seg6 (List.mem_of_getElem? (i := 173) rfl)) rfl
theorem wmethodLink_RX10_332_yX10_mixEchoes : Cond.methodLink RX10 332 yX10_mixEchoes ∈ wsG := mG (seg6 (List.mem_of_getElem? (i := 175) rfl)) rfl
theorem winstanceMethod_yX10_mixEchoes : Cond.instanceMethod yX10_mixEchoes ∈ wsG := mG (seg6 (List.mem_of_getElem? (i := 177) rfl)) rfl
theorem wselects_RX10_yX10_mixEchoes_yX10_mixEchoes : Cond.selects RX10 yX10_mixEchoes yX10_mixEchoes ∈ wsG := mG (seg0 (List.mem_of_getElem? (i := 78) rfl)) rfl
theorem wcode_yX10_mixEchoes_cX10_mixEchoes_2_none : Cond.code yX10_mixEchoes cX10_mixEchoes 2 none ∈ wsG := mG (seg6 (List.mem_of_getElem? (i := 178) rfl)) rfl
theorem wconstantLong_RX10_330_11908 : Cond.constantLong RX10 330 (11908) ∈ wsG := mG (seg6 (List.mem_of_getElem? (i := 169) rfl)) rfl
set_option maxRecDepth 20000 in
theorem inG10 : ∀ w ∈ wsX100, w ∈ wsG := fun w h => mG ((goodIn_r wsX100 [1048, 1050, 1052, 1054, 1056, 1058, 1060, 1062, 1064, 1066, 1068, 1070, 1072, 1074, 1076, 1078, 1080, 1082, 1084, 1086, 1088, 1090, 1092, 1094, 1096, 1098, 1100, 1102] (by decide +kernel) (by decide +kernel) w h).1) (List.all_eq_true.mp (show wsX100.all goodWord = true by decide +kernel) w h)
section RROWS
variable {X : CxT} {G : SG} {T : Nat → ClassId} {a : Nat → Nat} {w : va_W} {c_m : Nat → Int64} {c_saved : Nat → Int64} {c_savedCount : Int32} {c_script : Nat → Int32} {c_scriptLength : Int32} {c_code : Int32} {c_lineParts : Int32} {c_lengths : Nat → Int32} {c_fractions : Nat → Int32} {c_pulseMany : Int32} {c_times : Nat → Int32} {c_energies : Nat → Int64} {c_far : Nat → Int64} {c_near : Nat → Int64} {c_echoes : Nat → Int64} {c_left : Int64} {c_dropped : Int64} {c_merged : Int32} {c_drops : Int32} {c_contributions : Int32} {c_packet : Int64} {c_peelResult : Int32} {c_peelTime : Int32} {c_peelSum : Int32} {c_at : Int32} {c_commands : Int32} {c_draft : Nat → Int32} {c_hash : Int64}
variable {cc : ByteArray} {ret : Option FieldType} {nl fr lo k n : Nat} {lv : List (Nat × Value)} {pc : Nat} {rest : List Value}
theorem Rg_m (C : Cx X G T cc RX10 ret nl fr lo) (hdg : decode cc pc = .ok (.getfield 7, 3)) (kk : V X k n (wR a T c_m c_saved c_savedCount c_script c_scriptLength c_code c_lineParts c_lengths c_fractions c_pulseMany c_times c_energies c_far c_near c_echoes c_left c_dropped c_merged c_drops c_contributions c_packet c_peelResult c_peelTime c_peelSum c_at c_commands c_draft c_hash) lv (pc + 3) (.ref (a 1) :: rest)) : V X k n (wR a T c_m c_saved c_savedCount c_script c_scriptLength c_code c_lineParts c_lengths c_fractions c_pulseMany c_times c_energies c_far c_near c_echoes c_left c_dropped c_merged c_drops c_contributions c_packet c_peelResult c_peelTime c_peelSum c_at c_commands c_draft c_hash) lv pc (.ref (a 0) :: rest) := by
  obtain ⟨p, l, e, R, s, m, args, below, meth, c, D, A, H0, nL, Q⟩ := X
  obtain ⟨hx, hb, hml, hown, hts, hK, hlocks, hr, hA, hnl, hfr, hlo, htr, hG, hGs, hH0⟩ := C
  intro H locs ls hP hD hS hl
  exact va_get (D := D) (ci := 8) (C := RX10) (T := TX10) (N := 28) hx hb hts inG10 hown hK hP 0 rfl rfl 0 (by decide) (hts _ wfieldLink_RX10_7_LineEchoesModel_m_J) (fun _ h9 => h9) rfl hdg (kk H locs ls hP hD hS hl)
theorem Ral_m {i : Int32} {β : Type} {K : Int64 → Option β} {o : β} (C : Cx X G T cc RX10 ret nl fr lo) (hdg : decode cc pc = .ok (.laload, 1)) (hf : chk (inb i 431) (nm (c_m i.toNatClampNeg) K) = some o) (kk : ∀ z, K z = some o → V X k n (wR a T c_m c_saved c_savedCount c_script c_scriptLength c_code c_lineParts c_lengths c_fractions c_pulseMany c_times c_energies c_far c_near c_echoes c_left c_dropped c_merged c_drops c_contributions c_packet c_peelResult c_peelTime c_peelSum c_at c_commands c_draft c_hash) lv (pc + 1) (.long z :: rest)) : V X k n (wR a T c_m c_saved c_savedCount c_script c_scriptLength c_code c_lineParts c_lengths c_fractions c_pulseMany c_times c_energies c_far c_near c_echoes c_left c_dropped c_merged c_drops c_contributions c_packet c_peelResult c_peelTime c_peelSum c_at c_commands c_draft c_hash) lv pc (.int i :: .ref (a 1) :: rest) := by
  obtain ⟨hin, hf⟩ := chk_some hf
  replace hin := vp_in_iff.mpr hin
  replace kk := kk _ hf
  obtain ⟨p, l, e, R, s, m, args, below, meth, c, D, A, H0, nL, Q⟩ := X
  obtain ⟨hx, hb, hml, hown, hts, hK, hlocks, hr, hA, hnl, hfr, hlo, htr, hG, hGs, hH0⟩ := C
  intro H locs ls hP hD hS hl
  exact va_lald hx hb hK hP 1 0 rfl rfl hin hdg (kk H locs ls hP hD hS hl)
theorem Ras_m {i : Int32} {x : Int64} {β : Type} {K : (Nat → Int64) → Option β} {o : β} (C : Cx X G T cc RX10 ret nl fr lo) (hdg : decode cc pc = .ok (.lastore, 1)) (hf : chk (inb i 431) (nm (vp_updL c_m i.toNatClampNeg x) K) = some o) (kk : ∀ z, K z = some o → V X k n (wR a T z c_saved c_savedCount c_script c_scriptLength c_code c_lineParts c_lengths c_fractions c_pulseMany c_times c_energies c_far c_near c_echoes c_left c_dropped c_merged c_drops c_contributions c_packet c_peelResult c_peelTime c_peelSum c_at c_commands c_draft c_hash) lv (pc + 1) rest) : V X k n (wR a T c_m c_saved c_savedCount c_script c_scriptLength c_code c_lineParts c_lengths c_fractions c_pulseMany c_times c_energies c_far c_near c_echoes c_left c_dropped c_merged c_drops c_contributions c_packet c_peelResult c_peelTime c_peelSum c_at c_commands c_draft c_hash) lv pc (.long x :: .int i :: .ref (a 1) :: rest) := by
  obtain ⟨hin, hf⟩ := chk_some hf
  replace hin := vp_in_iff.mpr hin
  replace kk := kk _ hf
  obtain ⟨p, l, e, R, s, m, args, below, meth, c, D, A, H0, nL, Q⟩ := X
  obtain ⟨hx, hb, hml, hown, hts, hK, hlocks, hr, hA, hnl, hfr, hlo, htr, hG, hGs, hH0⟩ := C
  intro H locs ls hP hD hS hl
  exact va_last hx hb hK hP hD hS 1 0 rfl rfl hin hdg (fun H2 locs2 hP2 hD2 hS2 => kk H2 locs2 ls hP2 hD2 hS2 hl)
theorem Rg_saved (C : Cx X G T cc RX10 ret nl fr lo) (hdg : decode cc pc = .ok (.getfield 13, 3)) (kk : V X k n (wR a T c_m c_saved c_savedCount c_script c_scriptLength c_code c_lineParts c_lengths c_fractions c_pulseMany c_times c_energies c_far c_near c_echoes c_left c_dropped c_merged c_drops c_contributions c_packet c_peelResult c_peelTime c_peelSum c_at c_commands c_draft c_hash) lv (pc + 3) (.ref (a 2) :: rest)) : V X k n (wR a T c_m c_saved c_savedCount c_script c_scriptLength c_code c_lineParts c_lengths c_fractions c_pulseMany c_times c_energies c_far c_near c_echoes c_left c_dropped c_merged c_drops c_contributions c_packet c_peelResult c_peelTime c_peelSum c_at c_commands c_draft c_hash) lv pc (.ref (a 0) :: rest) := by
  obtain ⟨p, l, e, R, s, m, args, below, meth, c, D, A, H0, nL, Q⟩ := X
  obtain ⟨hx, hb, hml, hown, hts, hK, hlocks, hr, hA, hnl, hfr, hlo, htr, hG, hGs, hH0⟩ := C
  intro H locs ls hP hD hS hl
  exact va_get (D := D) (ci := 8) (C := RX10) (T := TX10) (N := 28) hx hb hts inG10 hown hK hP 0 rfl rfl 1 (by decide) (hts _ wfieldLink_RX10_13_LineEchoesModel_saved_J) (fun _ h9 => h9) rfl hdg (kk H locs ls hP hD hS hl)
theorem Ral_saved {i : Int32} {β : Type} {K : Int64 → Option β} {o : β} (C : Cx X G T cc RX10 ret nl fr lo) (hdg : decode cc pc = .ok (.laload, 1)) (hf : chk (inb i 1293) (nm (c_saved i.toNatClampNeg) K) = some o) (kk : ∀ z, K z = some o → V X k n (wR a T c_m c_saved c_savedCount c_script c_scriptLength c_code c_lineParts c_lengths c_fractions c_pulseMany c_times c_energies c_far c_near c_echoes c_left c_dropped c_merged c_drops c_contributions c_packet c_peelResult c_peelTime c_peelSum c_at c_commands c_draft c_hash) lv (pc + 1) (.long z :: rest)) : V X k n (wR a T c_m c_saved c_savedCount c_script c_scriptLength c_code c_lineParts c_lengths c_fractions c_pulseMany c_times c_energies c_far c_near c_echoes c_left c_dropped c_merged c_drops c_contributions c_packet c_peelResult c_peelTime c_peelSum c_at c_commands c_draft c_hash) lv pc (.int i :: .ref (a 2) :: rest) := by
  obtain ⟨hin, hf⟩ := chk_some hf
  replace hin := vp_in_iff.mpr hin
  replace kk := kk _ hf
  obtain ⟨p, l, e, R, s, m, args, below, meth, c, D, A, H0, nL, Q⟩ := X
  obtain ⟨hx, hb, hml, hown, hts, hK, hlocks, hr, hA, hnl, hfr, hlo, htr, hG, hGs, hH0⟩ := C
  intro H locs ls hP hD hS hl
  exact va_lald hx hb hK hP 2 0 rfl rfl hin hdg (kk H locs ls hP hD hS hl)
theorem Ras_saved {i : Int32} {x : Int64} {β : Type} {K : (Nat → Int64) → Option β} {o : β} (C : Cx X G T cc RX10 ret nl fr lo) (hdg : decode cc pc = .ok (.lastore, 1)) (hf : chk (inb i 1293) (nm (vp_updL c_saved i.toNatClampNeg x) K) = some o) (kk : ∀ z, K z = some o → V X k n (wR a T c_m z c_savedCount c_script c_scriptLength c_code c_lineParts c_lengths c_fractions c_pulseMany c_times c_energies c_far c_near c_echoes c_left c_dropped c_merged c_drops c_contributions c_packet c_peelResult c_peelTime c_peelSum c_at c_commands c_draft c_hash) lv (pc + 1) rest) : V X k n (wR a T c_m c_saved c_savedCount c_script c_scriptLength c_code c_lineParts c_lengths c_fractions c_pulseMany c_times c_energies c_far c_near c_echoes c_left c_dropped c_merged c_drops c_contributions c_packet c_peelResult c_peelTime c_peelSum c_at c_commands c_draft c_hash) lv pc (.long x :: .int i :: .ref (a 2) :: rest) := by
  obtain ⟨hin, hf⟩ := chk_some hf
  replace hin := vp_in_iff.mpr hin
  replace kk := kk _ hf
  obtain ⟨p, l, e, R, s, m, args, below, meth, c, D, A, H0, nL, Q⟩ := X
  obtain ⟨hx, hb, hml, hown, hts, hK, hlocks, hr, hA, hnl, hfr, hlo, htr, hG, hGs, hH0⟩ := C
  intro H locs ls hP hD hS hl
  exact va_last hx hb hK hP hD hS 2 0 rfl rfl hin hdg (fun H2 locs2 hP2 hD2 hS2 => kk H2 locs2 ls hP2 hD2 hS2 hl)
theorem Rg_savedCount (C : Cx X G T cc RX10 ret nl fr lo) (hdg : decode cc pc = .ok (.getfield 52, 3)) (kk : V X k n (wR a T c_m c_saved c_savedCount c_script c_scriptLength c_code c_lineParts c_lengths c_fractions c_pulseMany c_times c_energies c_far c_near c_echoes c_left c_dropped c_merged c_drops c_contributions c_packet c_peelResult c_peelTime c_peelSum c_at c_commands c_draft c_hash) lv (pc + 3) (.int c_savedCount :: rest)) : V X k n (wR a T c_m c_saved c_savedCount c_script c_scriptLength c_code c_lineParts c_lengths c_fractions c_pulseMany c_times c_energies c_far c_near c_echoes c_left c_dropped c_merged c_drops c_contributions c_packet c_peelResult c_peelTime c_peelSum c_at c_commands c_draft c_hash) lv pc (.ref (a 0) :: rest) := by
  obtain ⟨p, l, e, R, s, m, args, below, meth, c, D, A, H0, nL, Q⟩ := X
  obtain ⟨hx, hb, hml, hown, hts, hK, hlocks, hr, hA, hnl, hfr, hlo, htr, hG, hGs, hH0⟩ := C
  intro H locs ls hP hD hS hl
  exact va_get (D := D) (ci := 8) (C := RX10) (T := TX10) (N := 28) hx hb hts inG10 hown hK hP 0 rfl rfl 2 (by decide) (hts _ wfieldLink_RX10_52_LineEchoesModel_savedCount_I) (fun _ h9 => h9) rfl hdg (kk H locs ls hP hD hS hl)
theorem Rp_savedCount {z : Int32} (C : Cx X G T cc RX10 ret nl fr lo) (hdg : decode cc pc = .ok (.putfield 52, 3)) (kk : V X k n (wR a T c_m c_saved z c_script c_scriptLength c_code c_lineParts c_lengths c_fractions c_pulseMany c_times c_energies c_far c_near c_echoes c_left c_dropped c_merged c_drops c_contributions c_packet c_peelResult c_peelTime c_peelSum c_at c_commands c_draft c_hash) lv (pc + 3) rest) : V X k n (wR a T c_m c_saved c_savedCount c_script c_scriptLength c_code c_lineParts c_lengths c_fractions c_pulseMany c_times c_energies c_far c_near c_echoes c_left c_dropped c_merged c_drops c_contributions c_packet c_peelResult c_peelTime c_peelSum c_at c_commands c_draft c_hash) lv pc (.int z :: .ref (a 0) :: rest) := by
  obtain ⟨p, l, e, R, s, m, args, below, meth, c, D, A, H0, nL, Q⟩ := X
  obtain ⟨hx, hb, hml, hown, hts, hK, hlocks, hr, hA, hnl, hfr, hlo, htr, hG, hGs, hH0⟩ := C
  intro H locs ls hP hD hS hl
  exact va_put (D := D) (ci := 8) (C := RX10) (T := TX10) (N := 28) (ty := .int) hx hb hts inG10 tyX10 tyX10_ok nmX10 hown hK hP hD hS 0 rfl rfl 2 (by decide) (hts _ wfieldLink_RX10_52_LineEchoesModel_savedCount_I) (fun _ h9 => h9) rfl (by decide +kernel) rfl rfl (Nat.le_of_ble_eq_true rfl) hdg (fun H2 locs2 hP2 hD2 hS2 => kk H2 locs2 ls hP2 hD2 hS2 hl)
theorem Rg_script (C : Cx X G T cc RX10 ret nl fr lo) (hdg : decode cc pc = .ok (.getfield 16, 3)) (kk : V X k n (wR a T c_m c_saved c_savedCount c_script c_scriptLength c_code c_lineParts c_lengths c_fractions c_pulseMany c_times c_energies c_far c_near c_echoes c_left c_dropped c_merged c_drops c_contributions c_packet c_peelResult c_peelTime c_peelSum c_at c_commands c_draft c_hash) lv (pc + 3) (.ref (a 3) :: rest)) : V X k n (wR a T c_m c_saved c_savedCount c_script c_scriptLength c_code c_lineParts c_lengths c_fractions c_pulseMany c_times c_energies c_far c_near c_echoes c_left c_dropped c_merged c_drops c_contributions c_packet c_peelResult c_peelTime c_peelSum c_at c_commands c_draft c_hash) lv pc (.ref (a 0) :: rest) := by
  obtain ⟨p, l, e, R, s, m, args, below, meth, c, D, A, H0, nL, Q⟩ := X
  obtain ⟨hx, hb, hml, hown, hts, hK, hlocks, hr, hA, hnl, hfr, hlo, htr, hG, hGs, hH0⟩ := C
  intro H locs ls hP hD hS hl
  exact va_get (D := D) (ci := 8) (C := RX10) (T := TX10) (N := 28) hx hb hts inG10 hown hK hP 0 rfl rfl 3 (by decide) (hts _ wfieldLink_RX10_16_LineEchoesModel_script_I) (fun _ h9 => h9) rfl hdg (kk H locs ls hP hD hS hl)
theorem Ral_script {i : Int32} {β : Type} {K : Int32 → Option β} {o : β} (C : Cx X G T cc RX10 ret nl fr lo) (hdg : decode cc pc = .ok (.iaload, 1)) (hf : chk (inb i 120) (nm (c_script i.toNatClampNeg) K) = some o) (kk : ∀ z, K z = some o → V X k n (wR a T c_m c_saved c_savedCount c_script c_scriptLength c_code c_lineParts c_lengths c_fractions c_pulseMany c_times c_energies c_far c_near c_echoes c_left c_dropped c_merged c_drops c_contributions c_packet c_peelResult c_peelTime c_peelSum c_at c_commands c_draft c_hash) lv (pc + 1) (.int z :: rest)) : V X k n (wR a T c_m c_saved c_savedCount c_script c_scriptLength c_code c_lineParts c_lengths c_fractions c_pulseMany c_times c_energies c_far c_near c_echoes c_left c_dropped c_merged c_drops c_contributions c_packet c_peelResult c_peelTime c_peelSum c_at c_commands c_draft c_hash) lv pc (.int i :: .ref (a 3) :: rest) := by
  obtain ⟨hin, hf⟩ := chk_some hf
  replace hin := vp_in_iff.mpr hin
  replace kk := kk _ hf
  obtain ⟨p, l, e, R, s, m, args, below, meth, c, D, A, H0, nL, Q⟩ := X
  obtain ⟨hx, hb, hml, hown, hts, hK, hlocks, hr, hA, hnl, hfr, hlo, htr, hG, hGs, hH0⟩ := C
  intro H locs ls hP hD hS hl
  exact va_iald hx hb hK hP 3 1 rfl rfl hin hdg (kk H locs ls hP hD hS hl)
theorem Ras_script {i : Int32} {x : Int32} {β : Type} {K : (Nat → Int32) → Option β} {o : β} (C : Cx X G T cc RX10 ret nl fr lo) (hdg : decode cc pc = .ok (.iastore, 1)) (hf : chk (inb i 120) (nm (upd c_script i.toNatClampNeg x) K) = some o) (kk : ∀ z, K z = some o → V X k n (wR a T c_m c_saved c_savedCount z c_scriptLength c_code c_lineParts c_lengths c_fractions c_pulseMany c_times c_energies c_far c_near c_echoes c_left c_dropped c_merged c_drops c_contributions c_packet c_peelResult c_peelTime c_peelSum c_at c_commands c_draft c_hash) lv (pc + 1) rest) : V X k n (wR a T c_m c_saved c_savedCount c_script c_scriptLength c_code c_lineParts c_lengths c_fractions c_pulseMany c_times c_energies c_far c_near c_echoes c_left c_dropped c_merged c_drops c_contributions c_packet c_peelResult c_peelTime c_peelSum c_at c_commands c_draft c_hash) lv pc (.int x :: .int i :: .ref (a 3) :: rest) := by
  obtain ⟨hin, hf⟩ := chk_some hf
  replace hin := vp_in_iff.mpr hin
  replace kk := kk _ hf
  obtain ⟨p, l, e, R, s, m, args, below, meth, c, D, A, H0, nL, Q⟩ := X
  obtain ⟨hx, hb, hml, hown, hts, hK, hlocks, hr, hA, hnl, hfr, hlo, htr, hG, hGs, hH0⟩ := C
  intro H locs ls hP hD hS hl
  exact va_iast hx hb hK hP hD hS 3 1 rfl rfl hin hdg (fun H2 locs2 hP2 hD2 hS2 => kk H2 locs2 ls hP2 hD2 hS2 hl)
theorem Rg_scriptLength (C : Cx X G T cc RX10 ret nl fr lo) (hdg : decode cc pc = .ok (.getfield 261, 3)) (kk : V X k n (wR a T c_m c_saved c_savedCount c_script c_scriptLength c_code c_lineParts c_lengths c_fractions c_pulseMany c_times c_energies c_far c_near c_echoes c_left c_dropped c_merged c_drops c_contributions c_packet c_peelResult c_peelTime c_peelSum c_at c_commands c_draft c_hash) lv (pc + 3) (.int c_scriptLength :: rest)) : V X k n (wR a T c_m c_saved c_savedCount c_script c_scriptLength c_code c_lineParts c_lengths c_fractions c_pulseMany c_times c_energies c_far c_near c_echoes c_left c_dropped c_merged c_drops c_contributions c_packet c_peelResult c_peelTime c_peelSum c_at c_commands c_draft c_hash) lv pc (.ref (a 0) :: rest) := by
  obtain ⟨p, l, e, R, s, m, args, below, meth, c, D, A, H0, nL, Q⟩ := X
  obtain ⟨hx, hb, hml, hown, hts, hK, hlocks, hr, hA, hnl, hfr, hlo, htr, hG, hGs, hH0⟩ := C
  intro H locs ls hP hD hS hl
  exact va_get (D := D) (ci := 8) (C := RX10) (T := TX10) (N := 28) hx hb hts inG10 hown hK hP 0 rfl rfl 4 (by decide) (hts _ wfieldLink_RX10_261_LineEchoesModel_scriptLength_I) (fun _ h9 => h9) rfl hdg (kk H locs ls hP hD hS hl)
theorem Rp_scriptLength {z : Int32} (C : Cx X G T cc RX10 ret nl fr lo) (hdg : decode cc pc = .ok (.putfield 261, 3)) (kk : V X k n (wR a T c_m c_saved c_savedCount c_script z c_code c_lineParts c_lengths c_fractions c_pulseMany c_times c_energies c_far c_near c_echoes c_left c_dropped c_merged c_drops c_contributions c_packet c_peelResult c_peelTime c_peelSum c_at c_commands c_draft c_hash) lv (pc + 3) rest) : V X k n (wR a T c_m c_saved c_savedCount c_script c_scriptLength c_code c_lineParts c_lengths c_fractions c_pulseMany c_times c_energies c_far c_near c_echoes c_left c_dropped c_merged c_drops c_contributions c_packet c_peelResult c_peelTime c_peelSum c_at c_commands c_draft c_hash) lv pc (.int z :: .ref (a 0) :: rest) := by
  obtain ⟨p, l, e, R, s, m, args, below, meth, c, D, A, H0, nL, Q⟩ := X
  obtain ⟨hx, hb, hml, hown, hts, hK, hlocks, hr, hA, hnl, hfr, hlo, htr, hG, hGs, hH0⟩ := C
  intro H locs ls hP hD hS hl
  exact va_put (D := D) (ci := 8) (C := RX10) (T := TX10) (N := 28) (ty := .int) hx hb hts inG10 tyX10 tyX10_ok nmX10 hown hK hP hD hS 0 rfl rfl 4 (by decide) (hts _ wfieldLink_RX10_261_LineEchoesModel_scriptLength_I) (fun _ h9 => h9) rfl (by decide +kernel) rfl rfl (Nat.le_of_ble_eq_true rfl) hdg (fun H2 locs2 hP2 hD2 hS2 => kk H2 locs2 ls hP2 hD2 hS2 hl)
theorem Rg_code (C : Cx X G T cc RX10 ret nl fr lo) (hdg : decode cc pc = .ok (.getfield 48, 3)) (kk : V X k n (wR a T c_m c_saved c_savedCount c_script c_scriptLength c_code c_lineParts c_lengths c_fractions c_pulseMany c_times c_energies c_far c_near c_echoes c_left c_dropped c_merged c_drops c_contributions c_packet c_peelResult c_peelTime c_peelSum c_at c_commands c_draft c_hash) lv (pc + 3) (.int c_code :: rest)) : V X k n (wR a T c_m c_saved c_savedCount c_script c_scriptLength c_code c_lineParts c_lengths c_fractions c_pulseMany c_times c_energies c_far c_near c_echoes c_left c_dropped c_merged c_drops c_contributions c_packet c_peelResult c_peelTime c_peelSum c_at c_commands c_draft c_hash) lv pc (.ref (a 0) :: rest) := by
  obtain ⟨p, l, e, R, s, m, args, below, meth, c, D, A, H0, nL, Q⟩ := X
  obtain ⟨hx, hb, hml, hown, hts, hK, hlocks, hr, hA, hnl, hfr, hlo, htr, hG, hGs, hH0⟩ := C
  intro H locs ls hP hD hS hl
  exact va_get (D := D) (ci := 8) (C := RX10) (T := TX10) (N := 28) hx hb hts inG10 hown hK hP 0 rfl rfl 5 (by decide) (hts _ wfieldLink_RX10_48_LineEchoesModel_code_I) (fun _ h9 => h9) rfl hdg (kk H locs ls hP hD hS hl)
theorem Rp_code {z : Int32} (C : Cx X G T cc RX10 ret nl fr lo) (hdg : decode cc pc = .ok (.putfield 48, 3)) (kk : V X k n (wR a T c_m c_saved c_savedCount c_script c_scriptLength z c_lineParts c_lengths c_fractions c_pulseMany c_times c_energies c_far c_near c_echoes c_left c_dropped c_merged c_drops c_contributions c_packet c_peelResult c_peelTime c_peelSum c_at c_commands c_draft c_hash) lv (pc + 3) rest) : V X k n (wR a T c_m c_saved c_savedCount c_script c_scriptLength c_code c_lineParts c_lengths c_fractions c_pulseMany c_times c_energies c_far c_near c_echoes c_left c_dropped c_merged c_drops c_contributions c_packet c_peelResult c_peelTime c_peelSum c_at c_commands c_draft c_hash) lv pc (.int z :: .ref (a 0) :: rest) := by
  obtain ⟨p, l, e, R, s, m, args, below, meth, c, D, A, H0, nL, Q⟩ := X
  obtain ⟨hx, hb, hml, hown, hts, hK, hlocks, hr, hA, hnl, hfr, hlo, htr, hG, hGs, hH0⟩ := C
  intro H locs ls hP hD hS hl
  exact va_put (D := D) (ci := 8) (C := RX10) (T := TX10) (N := 28) (ty := .int) hx hb hts inG10 tyX10 tyX10_ok nmX10 hown hK hP hD hS 0 rfl rfl 5 (by decide) (hts _ wfieldLink_RX10_48_LineEchoesModel_code_I) (fun _ h9 => h9) rfl (by decide +kernel) rfl rfl (Nat.le_of_ble_eq_true rfl) hdg (fun H2 locs2 hP2 hD2 hS2 => kk H2 locs2 ls hP2 hD2 hS2 hl)
theorem Rg_lineParts (C : Cx X G T cc RX10 ret nl fr lo) (hdg : decode cc pc = .ok (.getfield 79, 3)) (kk : V X k n (wR a T c_m c_saved c_savedCount c_script c_scriptLength c_code c_lineParts c_lengths c_fractions c_pulseMany c_times c_energies c_far c_near c_echoes c_left c_dropped c_merged c_drops c_contributions c_packet c_peelResult c_peelTime c_peelSum c_at c_commands c_draft c_hash) lv (pc + 3) (.int c_lineParts :: rest)) : V X k n (wR a T c_m c_saved c_savedCount c_script c_scriptLength c_code c_lineParts c_lengths c_fractions c_pulseMany c_times c_energies c_far c_near c_echoes c_left c_dropped c_merged c_drops c_contributions c_packet c_peelResult c_peelTime c_peelSum c_at c_commands c_draft c_hash) lv pc (.ref (a 0) :: rest) := by
  obtain ⟨p, l, e, R, s, m, args, below, meth, c, D, A, H0, nL, Q⟩ := X
  obtain ⟨hx, hb, hml, hown, hts, hK, hlocks, hr, hA, hnl, hfr, hlo, htr, hG, hGs, hH0⟩ := C
  intro H locs ls hP hD hS hl
  exact va_get (D := D) (ci := 8) (C := RX10) (T := TX10) (N := 28) hx hb hts inG10 hown hK hP 0 rfl rfl 6 (by decide) (hts _ wfieldLink_RX10_79_LineEchoesModel_lineParts_I) (fun _ h9 => h9) rfl hdg (kk H locs ls hP hD hS hl)
theorem Rp_lineParts {z : Int32} (C : Cx X G T cc RX10 ret nl fr lo) (hdg : decode cc pc = .ok (.putfield 79, 3)) (kk : V X k n (wR a T c_m c_saved c_savedCount c_script c_scriptLength c_code z c_lengths c_fractions c_pulseMany c_times c_energies c_far c_near c_echoes c_left c_dropped c_merged c_drops c_contributions c_packet c_peelResult c_peelTime c_peelSum c_at c_commands c_draft c_hash) lv (pc + 3) rest) : V X k n (wR a T c_m c_saved c_savedCount c_script c_scriptLength c_code c_lineParts c_lengths c_fractions c_pulseMany c_times c_energies c_far c_near c_echoes c_left c_dropped c_merged c_drops c_contributions c_packet c_peelResult c_peelTime c_peelSum c_at c_commands c_draft c_hash) lv pc (.int z :: .ref (a 0) :: rest) := by
  obtain ⟨p, l, e, R, s, m, args, below, meth, c, D, A, H0, nL, Q⟩ := X
  obtain ⟨hx, hb, hml, hown, hts, hK, hlocks, hr, hA, hnl, hfr, hlo, htr, hG, hGs, hH0⟩ := C
  intro H locs ls hP hD hS hl
  exact va_put (D := D) (ci := 8) (C := RX10) (T := TX10) (N := 28) (ty := .int) hx hb hts inG10 tyX10 tyX10_ok nmX10 hown hK hP hD hS 0 rfl rfl 6 (by decide) (hts _ wfieldLink_RX10_79_LineEchoesModel_lineParts_I) (fun _ h9 => h9) rfl (by decide +kernel) rfl rfl (Nat.le_of_ble_eq_true rfl) hdg (fun H2 locs2 hP2 hD2 hS2 => kk H2 locs2 ls hP2 hD2 hS2 hl)
theorem Rg_lengths (C : Cx X G T cc RX10 ret nl fr lo) (hdg : decode cc pc = .ok (.getfield 20, 3)) (kk : V X k n (wR a T c_m c_saved c_savedCount c_script c_scriptLength c_code c_lineParts c_lengths c_fractions c_pulseMany c_times c_energies c_far c_near c_echoes c_left c_dropped c_merged c_drops c_contributions c_packet c_peelResult c_peelTime c_peelSum c_at c_commands c_draft c_hash) lv (pc + 3) (.ref (a 4) :: rest)) : V X k n (wR a T c_m c_saved c_savedCount c_script c_scriptLength c_code c_lineParts c_lengths c_fractions c_pulseMany c_times c_energies c_far c_near c_echoes c_left c_dropped c_merged c_drops c_contributions c_packet c_peelResult c_peelTime c_peelSum c_at c_commands c_draft c_hash) lv pc (.ref (a 0) :: rest) := by
  obtain ⟨p, l, e, R, s, m, args, below, meth, c, D, A, H0, nL, Q⟩ := X
  obtain ⟨hx, hb, hml, hown, hts, hK, hlocks, hr, hA, hnl, hfr, hlo, htr, hG, hGs, hH0⟩ := C
  intro H locs ls hP hD hS hl
  exact va_get (D := D) (ci := 8) (C := RX10) (T := TX10) (N := 28) hx hb hts inG10 hown hK hP 0 rfl rfl 7 (by decide) (hts _ wfieldLink_RX10_20_LineEchoesModel_lengths_I) (fun _ h9 => h9) rfl hdg (kk H locs ls hP hD hS hl)
theorem Ral_lengths {i : Int32} {β : Type} {K : Int32 → Option β} {o : β} (C : Cx X G T cc RX10 ret nl fr lo) (hdg : decode cc pc = .ok (.iaload, 1)) (hf : chk (inb i 8) (nm (c_lengths i.toNatClampNeg) K) = some o) (kk : ∀ z, K z = some o → V X k n (wR a T c_m c_saved c_savedCount c_script c_scriptLength c_code c_lineParts c_lengths c_fractions c_pulseMany c_times c_energies c_far c_near c_echoes c_left c_dropped c_merged c_drops c_contributions c_packet c_peelResult c_peelTime c_peelSum c_at c_commands c_draft c_hash) lv (pc + 1) (.int z :: rest)) : V X k n (wR a T c_m c_saved c_savedCount c_script c_scriptLength c_code c_lineParts c_lengths c_fractions c_pulseMany c_times c_energies c_far c_near c_echoes c_left c_dropped c_merged c_drops c_contributions c_packet c_peelResult c_peelTime c_peelSum c_at c_commands c_draft c_hash) lv pc (.int i :: .ref (a 4) :: rest) := by
  obtain ⟨hin, hf⟩ := chk_some hf
  replace hin := vp_in_iff.mpr hin
  replace kk := kk _ hf
  obtain ⟨p, l, e, R, s, m, args, below, meth, c, D, A, H0, nL, Q⟩ := X
  obtain ⟨hx, hb, hml, hown, hts, hK, hlocks, hr, hA, hnl, hfr, hlo, htr, hG, hGs, hH0⟩ := C
  intro H locs ls hP hD hS hl
  exact va_iald hx hb hK hP 4 1 rfl rfl hin hdg (kk H locs ls hP hD hS hl)
theorem Ras_lengths {i : Int32} {x : Int32} {β : Type} {K : (Nat → Int32) → Option β} {o : β} (C : Cx X G T cc RX10 ret nl fr lo) (hdg : decode cc pc = .ok (.iastore, 1)) (hf : chk (inb i 8) (nm (upd c_lengths i.toNatClampNeg x) K) = some o) (kk : ∀ z, K z = some o → V X k n (wR a T c_m c_saved c_savedCount c_script c_scriptLength c_code c_lineParts z c_fractions c_pulseMany c_times c_energies c_far c_near c_echoes c_left c_dropped c_merged c_drops c_contributions c_packet c_peelResult c_peelTime c_peelSum c_at c_commands c_draft c_hash) lv (pc + 1) rest) : V X k n (wR a T c_m c_saved c_savedCount c_script c_scriptLength c_code c_lineParts c_lengths c_fractions c_pulseMany c_times c_energies c_far c_near c_echoes c_left c_dropped c_merged c_drops c_contributions c_packet c_peelResult c_peelTime c_peelSum c_at c_commands c_draft c_hash) lv pc (.int x :: .int i :: .ref (a 4) :: rest) := by
  obtain ⟨hin, hf⟩ := chk_some hf
  replace hin := vp_in_iff.mpr hin
  replace kk := kk _ hf
  obtain ⟨p, l, e, R, s, m, args, below, meth, c, D, A, H0, nL, Q⟩ := X
  obtain ⟨hx, hb, hml, hown, hts, hK, hlocks, hr, hA, hnl, hfr, hlo, htr, hG, hGs, hH0⟩ := C
  intro H locs ls hP hD hS hl
  exact va_iast hx hb hK hP hD hS 4 1 rfl rfl hin hdg (fun H2 locs2 hP2 hD2 hS2 => kk H2 locs2 ls hP2 hD2 hS2 hl)
theorem Rg_fractions (C : Cx X G T cc RX10 ret nl fr lo) (hdg : decode cc pc = .ok (.getfield 23, 3)) (kk : V X k n (wR a T c_m c_saved c_savedCount c_script c_scriptLength c_code c_lineParts c_lengths c_fractions c_pulseMany c_times c_energies c_far c_near c_echoes c_left c_dropped c_merged c_drops c_contributions c_packet c_peelResult c_peelTime c_peelSum c_at c_commands c_draft c_hash) lv (pc + 3) (.ref (a 5) :: rest)) : V X k n (wR a T c_m c_saved c_savedCount c_script c_scriptLength c_code c_lineParts c_lengths c_fractions c_pulseMany c_times c_energies c_far c_near c_echoes c_left c_dropped c_merged c_drops c_contributions c_packet c_peelResult c_peelTime c_peelSum c_at c_commands c_draft c_hash) lv pc (.ref (a 0) :: rest) := by
  obtain ⟨p, l, e, R, s, m, args, below, meth, c, D, A, H0, nL, Q⟩ := X
  obtain ⟨hx, hb, hml, hown, hts, hK, hlocks, hr, hA, hnl, hfr, hlo, htr, hG, hGs, hH0⟩ := C
  intro H locs ls hP hD hS hl
  exact va_get (D := D) (ci := 8) (C := RX10) (T := TX10) (N := 28) hx hb hts inG10 hown hK hP 0 rfl rfl 8 (by decide) (hts _ wfieldLink_RX10_23_LineEchoesModel_fractions_I) (fun _ h9 => h9) rfl hdg (kk H locs ls hP hD hS hl)
theorem Ral_fractions {i : Int32} {β : Type} {K : Int32 → Option β} {o : β} (C : Cx X G T cc RX10 ret nl fr lo) (hdg : decode cc pc = .ok (.iaload, 1)) (hf : chk (inb i 9) (nm (c_fractions i.toNatClampNeg) K) = some o) (kk : ∀ z, K z = some o → V X k n (wR a T c_m c_saved c_savedCount c_script c_scriptLength c_code c_lineParts c_lengths c_fractions c_pulseMany c_times c_energies c_far c_near c_echoes c_left c_dropped c_merged c_drops c_contributions c_packet c_peelResult c_peelTime c_peelSum c_at c_commands c_draft c_hash) lv (pc + 1) (.int z :: rest)) : V X k n (wR a T c_m c_saved c_savedCount c_script c_scriptLength c_code c_lineParts c_lengths c_fractions c_pulseMany c_times c_energies c_far c_near c_echoes c_left c_dropped c_merged c_drops c_contributions c_packet c_peelResult c_peelTime c_peelSum c_at c_commands c_draft c_hash) lv pc (.int i :: .ref (a 5) :: rest) := by
  obtain ⟨hin, hf⟩ := chk_some hf
  replace hin := vp_in_iff.mpr hin
  replace kk := kk _ hf
  obtain ⟨p, l, e, R, s, m, args, below, meth, c, D, A, H0, nL, Q⟩ := X
  obtain ⟨hx, hb, hml, hown, hts, hK, hlocks, hr, hA, hnl, hfr, hlo, htr, hG, hGs, hH0⟩ := C
  intro H locs ls hP hD hS hl
  exact va_iald hx hb hK hP 5 1 rfl rfl hin hdg (kk H locs ls hP hD hS hl)
theorem Ras_fractions {i : Int32} {x : Int32} {β : Type} {K : (Nat → Int32) → Option β} {o : β} (C : Cx X G T cc RX10 ret nl fr lo) (hdg : decode cc pc = .ok (.iastore, 1)) (hf : chk (inb i 9) (nm (upd c_fractions i.toNatClampNeg x) K) = some o) (kk : ∀ z, K z = some o → V X k n (wR a T c_m c_saved c_savedCount c_script c_scriptLength c_code c_lineParts c_lengths z c_pulseMany c_times c_energies c_far c_near c_echoes c_left c_dropped c_merged c_drops c_contributions c_packet c_peelResult c_peelTime c_peelSum c_at c_commands c_draft c_hash) lv (pc + 1) rest) : V X k n (wR a T c_m c_saved c_savedCount c_script c_scriptLength c_code c_lineParts c_lengths c_fractions c_pulseMany c_times c_energies c_far c_near c_echoes c_left c_dropped c_merged c_drops c_contributions c_packet c_peelResult c_peelTime c_peelSum c_at c_commands c_draft c_hash) lv pc (.int x :: .int i :: .ref (a 5) :: rest) := by
  obtain ⟨hin, hf⟩ := chk_some hf
  replace hin := vp_in_iff.mpr hin
  replace kk := kk _ hf
  obtain ⟨p, l, e, R, s, m, args, below, meth, c, D, A, H0, nL, Q⟩ := X
  obtain ⟨hx, hb, hml, hown, hts, hK, hlocks, hr, hA, hnl, hfr, hlo, htr, hG, hGs, hH0⟩ := C
  intro H locs ls hP hD hS hl
  exact va_iast hx hb hK hP hD hS 5 1 rfl rfl hin hdg (fun H2 locs2 hP2 hD2 hS2 => kk H2 locs2 ls hP2 hD2 hS2 hl)
theorem Rg_pulseMany (C : Cx X G T cc RX10 ret nl fr lo) (hdg : decode cc pc = .ok (.getfield 84, 3)) (kk : V X k n (wR a T c_m c_saved c_savedCount c_script c_scriptLength c_code c_lineParts c_lengths c_fractions c_pulseMany c_times c_energies c_far c_near c_echoes c_left c_dropped c_merged c_drops c_contributions c_packet c_peelResult c_peelTime c_peelSum c_at c_commands c_draft c_hash) lv (pc + 3) (.int c_pulseMany :: rest)) : V X k n (wR a T c_m c_saved c_savedCount c_script c_scriptLength c_code c_lineParts c_lengths c_fractions c_pulseMany c_times c_energies c_far c_near c_echoes c_left c_dropped c_merged c_drops c_contributions c_packet c_peelResult c_peelTime c_peelSum c_at c_commands c_draft c_hash) lv pc (.ref (a 0) :: rest) := by
  obtain ⟨p, l, e, R, s, m, args, below, meth, c, D, A, H0, nL, Q⟩ := X
  obtain ⟨hx, hb, hml, hown, hts, hK, hlocks, hr, hA, hnl, hfr, hlo, htr, hG, hGs, hH0⟩ := C
  intro H locs ls hP hD hS hl
  exact va_get (D := D) (ci := 8) (C := RX10) (T := TX10) (N := 28) hx hb hts inG10 hown hK hP 0 rfl rfl 9 (by decide) (hts _ wfieldLink_RX10_84_LineEchoesModel_pulseMany_I) (fun _ h9 => h9) rfl hdg (kk H locs ls hP hD hS hl)
theorem Rp_pulseMany {z : Int32} (C : Cx X G T cc RX10 ret nl fr lo) (hdg : decode cc pc = .ok (.putfield 84, 3)) (kk : V X k n (wR a T c_m c_saved c_savedCount c_script c_scriptLength c_code c_lineParts c_lengths c_fractions z c_times c_energies c_far c_near c_echoes c_left c_dropped c_merged c_drops c_contributions c_packet c_peelResult c_peelTime c_peelSum c_at c_commands c_draft c_hash) lv (pc + 3) rest) : V X k n (wR a T c_m c_saved c_savedCount c_script c_scriptLength c_code c_lineParts c_lengths c_fractions c_pulseMany c_times c_energies c_far c_near c_echoes c_left c_dropped c_merged c_drops c_contributions c_packet c_peelResult c_peelTime c_peelSum c_at c_commands c_draft c_hash) lv pc (.int z :: .ref (a 0) :: rest) := by
  obtain ⟨p, l, e, R, s, m, args, below, meth, c, D, A, H0, nL, Q⟩ := X
  obtain ⟨hx, hb, hml, hown, hts, hK, hlocks, hr, hA, hnl, hfr, hlo, htr, hG, hGs, hH0⟩ := C
  intro H locs ls hP hD hS hl
  exact va_put (D := D) (ci := 8) (C := RX10) (T := TX10) (N := 28) (ty := .int) hx hb hts inG10 tyX10 tyX10_ok nmX10 hown hK hP hD hS 0 rfl rfl 9 (by decide) (hts _ wfieldLink_RX10_84_LineEchoesModel_pulseMany_I) (fun _ h9 => h9) rfl (by decide +kernel) rfl rfl (Nat.le_of_ble_eq_true rfl) hdg (fun H2 locs2 hP2 hD2 hS2 => kk H2 locs2 ls hP2 hD2 hS2 hl)
theorem Rg_times (C : Cx X G T cc RX10 ret nl fr lo) (hdg : decode cc pc = .ok (.getfield 26, 3)) (kk : V X k n (wR a T c_m c_saved c_savedCount c_script c_scriptLength c_code c_lineParts c_lengths c_fractions c_pulseMany c_times c_energies c_far c_near c_echoes c_left c_dropped c_merged c_drops c_contributions c_packet c_peelResult c_peelTime c_peelSum c_at c_commands c_draft c_hash) lv (pc + 3) (.ref (a 6) :: rest)) : V X k n (wR a T c_m c_saved c_savedCount c_script c_scriptLength c_code c_lineParts c_lengths c_fractions c_pulseMany c_times c_energies c_far c_near c_echoes c_left c_dropped c_merged c_drops c_contributions c_packet c_peelResult c_peelTime c_peelSum c_at c_commands c_draft c_hash) lv pc (.ref (a 0) :: rest) := by
  obtain ⟨p, l, e, R, s, m, args, below, meth, c, D, A, H0, nL, Q⟩ := X
  obtain ⟨hx, hb, hml, hown, hts, hK, hlocks, hr, hA, hnl, hfr, hlo, htr, hG, hGs, hH0⟩ := C
  intro H locs ls hP hD hS hl
  exact va_get (D := D) (ci := 8) (C := RX10) (T := TX10) (N := 28) hx hb hts inG10 hown hK hP 0 rfl rfl 10 (by decide) (hts _ wfieldLink_RX10_26_LineEchoesModel_times_I) (fun _ h9 => h9) rfl hdg (kk H locs ls hP hD hS hl)
theorem Ral_times {i : Int32} {β : Type} {K : Int32 → Option β} {o : β} (C : Cx X G T cc RX10 ret nl fr lo) (hdg : decode cc pc = .ok (.iaload, 1)) (hf : chk (inb i 4) (nm (c_times i.toNatClampNeg) K) = some o) (kk : ∀ z, K z = some o → V X k n (wR a T c_m c_saved c_savedCount c_script c_scriptLength c_code c_lineParts c_lengths c_fractions c_pulseMany c_times c_energies c_far c_near c_echoes c_left c_dropped c_merged c_drops c_contributions c_packet c_peelResult c_peelTime c_peelSum c_at c_commands c_draft c_hash) lv (pc + 1) (.int z :: rest)) : V X k n (wR a T c_m c_saved c_savedCount c_script c_scriptLength c_code c_lineParts c_lengths c_fractions c_pulseMany c_times c_energies c_far c_near c_echoes c_left c_dropped c_merged c_drops c_contributions c_packet c_peelResult c_peelTime c_peelSum c_at c_commands c_draft c_hash) lv pc (.int i :: .ref (a 6) :: rest) := by
  obtain ⟨hin, hf⟩ := chk_some hf
  replace hin := vp_in_iff.mpr hin
  replace kk := kk _ hf
  obtain ⟨p, l, e, R, s, m, args, below, meth, c, D, A, H0, nL, Q⟩ := X
  obtain ⟨hx, hb, hml, hown, hts, hK, hlocks, hr, hA, hnl, hfr, hlo, htr, hG, hGs, hH0⟩ := C
  intro H locs ls hP hD hS hl
  exact va_iald hx hb hK hP 6 1 rfl rfl hin hdg (kk H locs ls hP hD hS hl)
theorem Ras_times {i : Int32} {x : Int32} {β : Type} {K : (Nat → Int32) → Option β} {o : β} (C : Cx X G T cc RX10 ret nl fr lo) (hdg : decode cc pc = .ok (.iastore, 1)) (hf : chk (inb i 4) (nm (upd c_times i.toNatClampNeg x) K) = some o) (kk : ∀ z, K z = some o → V X k n (wR a T c_m c_saved c_savedCount c_script c_scriptLength c_code c_lineParts c_lengths c_fractions c_pulseMany z c_energies c_far c_near c_echoes c_left c_dropped c_merged c_drops c_contributions c_packet c_peelResult c_peelTime c_peelSum c_at c_commands c_draft c_hash) lv (pc + 1) rest) : V X k n (wR a T c_m c_saved c_savedCount c_script c_scriptLength c_code c_lineParts c_lengths c_fractions c_pulseMany c_times c_energies c_far c_near c_echoes c_left c_dropped c_merged c_drops c_contributions c_packet c_peelResult c_peelTime c_peelSum c_at c_commands c_draft c_hash) lv pc (.int x :: .int i :: .ref (a 6) :: rest) := by
  obtain ⟨hin, hf⟩ := chk_some hf
  replace hin := vp_in_iff.mpr hin
  replace kk := kk _ hf
  obtain ⟨p, l, e, R, s, m, args, below, meth, c, D, A, H0, nL, Q⟩ := X
  obtain ⟨hx, hb, hml, hown, hts, hK, hlocks, hr, hA, hnl, hfr, hlo, htr, hG, hGs, hH0⟩ := C
  intro H locs ls hP hD hS hl
  exact va_iast hx hb hK hP hD hS 6 1 rfl rfl hin hdg (fun H2 locs2 hP2 hD2 hS2 => kk H2 locs2 ls hP2 hD2 hS2 hl)
theorem Rg_energies (C : Cx X G T cc RX10 ret nl fr lo) (hdg : decode cc pc = .ok (.getfield 29, 3)) (kk : V X k n (wR a T c_m c_saved c_savedCount c_script c_scriptLength c_code c_lineParts c_lengths c_fractions c_pulseMany c_times c_energies c_far c_near c_echoes c_left c_dropped c_merged c_drops c_contributions c_packet c_peelResult c_peelTime c_peelSum c_at c_commands c_draft c_hash) lv (pc + 3) (.ref (a 7) :: rest)) : V X k n (wR a T c_m c_saved c_savedCount c_script c_scriptLength c_code c_lineParts c_lengths c_fractions c_pulseMany c_times c_energies c_far c_near c_echoes c_left c_dropped c_merged c_drops c_contributions c_packet c_peelResult c_peelTime c_peelSum c_at c_commands c_draft c_hash) lv pc (.ref (a 0) :: rest) := by
  obtain ⟨p, l, e, R, s, m, args, below, meth, c, D, A, H0, nL, Q⟩ := X
  obtain ⟨hx, hb, hml, hown, hts, hK, hlocks, hr, hA, hnl, hfr, hlo, htr, hG, hGs, hH0⟩ := C
  intro H locs ls hP hD hS hl
  exact va_get (D := D) (ci := 8) (C := RX10) (T := TX10) (N := 28) hx hb hts inG10 hown hK hP 0 rfl rfl 11 (by decide) (hts _ wfieldLink_RX10_29_LineEchoesModel_energies_J) (fun _ h9 => h9) rfl hdg (kk H locs ls hP hD hS hl)
theorem Ral_energies {i : Int32} {β : Type} {K : Int64 → Option β} {o : β} (C : Cx X G T cc RX10 ret nl fr lo) (hdg : decode cc pc = .ok (.laload, 1)) (hf : chk (inb i 4) (nm (c_energies i.toNatClampNeg) K) = some o) (kk : ∀ z, K z = some o → V X k n (wR a T c_m c_saved c_savedCount c_script c_scriptLength c_code c_lineParts c_lengths c_fractions c_pulseMany c_times c_energies c_far c_near c_echoes c_left c_dropped c_merged c_drops c_contributions c_packet c_peelResult c_peelTime c_peelSum c_at c_commands c_draft c_hash) lv (pc + 1) (.long z :: rest)) : V X k n (wR a T c_m c_saved c_savedCount c_script c_scriptLength c_code c_lineParts c_lengths c_fractions c_pulseMany c_times c_energies c_far c_near c_echoes c_left c_dropped c_merged c_drops c_contributions c_packet c_peelResult c_peelTime c_peelSum c_at c_commands c_draft c_hash) lv pc (.int i :: .ref (a 7) :: rest) := by
  obtain ⟨hin, hf⟩ := chk_some hf
  replace hin := vp_in_iff.mpr hin
  replace kk := kk _ hf
  obtain ⟨p, l, e, R, s, m, args, below, meth, c, D, A, H0, nL, Q⟩ := X
  obtain ⟨hx, hb, hml, hown, hts, hK, hlocks, hr, hA, hnl, hfr, hlo, htr, hG, hGs, hH0⟩ := C
  intro H locs ls hP hD hS hl
  exact va_lald hx hb hK hP 7 0 rfl rfl hin hdg (kk H locs ls hP hD hS hl)
theorem Ras_energies {i : Int32} {x : Int64} {β : Type} {K : (Nat → Int64) → Option β} {o : β} (C : Cx X G T cc RX10 ret nl fr lo) (hdg : decode cc pc = .ok (.lastore, 1)) (hf : chk (inb i 4) (nm (vp_updL c_energies i.toNatClampNeg x) K) = some o) (kk : ∀ z, K z = some o → V X k n (wR a T c_m c_saved c_savedCount c_script c_scriptLength c_code c_lineParts c_lengths c_fractions c_pulseMany c_times z c_far c_near c_echoes c_left c_dropped c_merged c_drops c_contributions c_packet c_peelResult c_peelTime c_peelSum c_at c_commands c_draft c_hash) lv (pc + 1) rest) : V X k n (wR a T c_m c_saved c_savedCount c_script c_scriptLength c_code c_lineParts c_lengths c_fractions c_pulseMany c_times c_energies c_far c_near c_echoes c_left c_dropped c_merged c_drops c_contributions c_packet c_peelResult c_peelTime c_peelSum c_at c_commands c_draft c_hash) lv pc (.long x :: .int i :: .ref (a 7) :: rest) := by
  obtain ⟨hin, hf⟩ := chk_some hf
  replace hin := vp_in_iff.mpr hin
  replace kk := kk _ hf
  obtain ⟨p, l, e, R, s, m, args, below, meth, c, D, A, H0, nL, Q⟩ := X
  obtain ⟨hx, hb, hml, hown, hts, hK, hlocks, hr, hA, hnl, hfr, hlo, htr, hG, hGs, hH0⟩ := C
  intro H locs ls hP hD hS hl
  exact va_last hx hb hK hP hD hS 7 0 rfl rfl hin hdg (fun H2 locs2 hP2 hD2 hS2 => kk H2 locs2 ls hP2 hD2 hS2 hl)
theorem Rg_far (C : Cx X G T cc RX10 ret nl fr lo) (hdg : decode cc pc = .ok (.getfield 32, 3)) (kk : V X k n (wR a T c_m c_saved c_savedCount c_script c_scriptLength c_code c_lineParts c_lengths c_fractions c_pulseMany c_times c_energies c_far c_near c_echoes c_left c_dropped c_merged c_drops c_contributions c_packet c_peelResult c_peelTime c_peelSum c_at c_commands c_draft c_hash) lv (pc + 3) (.ref (a 8) :: rest)) : V X k n (wR a T c_m c_saved c_savedCount c_script c_scriptLength c_code c_lineParts c_lengths c_fractions c_pulseMany c_times c_energies c_far c_near c_echoes c_left c_dropped c_merged c_drops c_contributions c_packet c_peelResult c_peelTime c_peelSum c_at c_commands c_draft c_hash) lv pc (.ref (a 0) :: rest) := by
  obtain ⟨p, l, e, R, s, m, args, below, meth, c, D, A, H0, nL, Q⟩ := X
  obtain ⟨hx, hb, hml, hown, hts, hK, hlocks, hr, hA, hnl, hfr, hlo, htr, hG, hGs, hH0⟩ := C
  intro H locs ls hP hD hS hl
  exact va_get (D := D) (ci := 8) (C := RX10) (T := TX10) (N := 28) hx hb hts inG10 hown hK hP 0 rfl rfl 12 (by decide) (hts _ wfieldLink_RX10_32_LineEchoesModel_far_J) (fun _ h9 => h9) rfl hdg (kk H locs ls hP hD hS hl)
theorem Ral_far {i : Int32} {β : Type} {K : Int64 → Option β} {o : β} (C : Cx X G T cc RX10 ret nl fr lo) (hdg : decode cc pc = .ok (.laload, 1)) (hf : chk (inb i 1809) (nm (c_far i.toNatClampNeg) K) = some o) (kk : ∀ z, K z = some o → V X k n (wR a T c_m c_saved c_savedCount c_script c_scriptLength c_code c_lineParts c_lengths c_fractions c_pulseMany c_times c_energies c_far c_near c_echoes c_left c_dropped c_merged c_drops c_contributions c_packet c_peelResult c_peelTime c_peelSum c_at c_commands c_draft c_hash) lv (pc + 1) (.long z :: rest)) : V X k n (wR a T c_m c_saved c_savedCount c_script c_scriptLength c_code c_lineParts c_lengths c_fractions c_pulseMany c_times c_energies c_far c_near c_echoes c_left c_dropped c_merged c_drops c_contributions c_packet c_peelResult c_peelTime c_peelSum c_at c_commands c_draft c_hash) lv pc (.int i :: .ref (a 8) :: rest) := by
  obtain ⟨hin, hf⟩ := chk_some hf
  replace hin := vp_in_iff.mpr hin
  replace kk := kk _ hf
  obtain ⟨p, l, e, R, s, m, args, below, meth, c, D, A, H0, nL, Q⟩ := X
  obtain ⟨hx, hb, hml, hown, hts, hK, hlocks, hr, hA, hnl, hfr, hlo, htr, hG, hGs, hH0⟩ := C
  intro H locs ls hP hD hS hl
  exact va_lald hx hb hK hP 8 0 rfl rfl hin hdg (kk H locs ls hP hD hS hl)
theorem Ras_far {i : Int32} {x : Int64} {β : Type} {K : (Nat → Int64) → Option β} {o : β} (C : Cx X G T cc RX10 ret nl fr lo) (hdg : decode cc pc = .ok (.lastore, 1)) (hf : chk (inb i 1809) (nm (vp_updL c_far i.toNatClampNeg x) K) = some o) (kk : ∀ z, K z = some o → V X k n (wR a T c_m c_saved c_savedCount c_script c_scriptLength c_code c_lineParts c_lengths c_fractions c_pulseMany c_times c_energies z c_near c_echoes c_left c_dropped c_merged c_drops c_contributions c_packet c_peelResult c_peelTime c_peelSum c_at c_commands c_draft c_hash) lv (pc + 1) rest) : V X k n (wR a T c_m c_saved c_savedCount c_script c_scriptLength c_code c_lineParts c_lengths c_fractions c_pulseMany c_times c_energies c_far c_near c_echoes c_left c_dropped c_merged c_drops c_contributions c_packet c_peelResult c_peelTime c_peelSum c_at c_commands c_draft c_hash) lv pc (.long x :: .int i :: .ref (a 8) :: rest) := by
  obtain ⟨hin, hf⟩ := chk_some hf
  replace hin := vp_in_iff.mpr hin
  replace kk := kk _ hf
  obtain ⟨p, l, e, R, s, m, args, below, meth, c, D, A, H0, nL, Q⟩ := X
  obtain ⟨hx, hb, hml, hown, hts, hK, hlocks, hr, hA, hnl, hfr, hlo, htr, hG, hGs, hH0⟩ := C
  intro H locs ls hP hD hS hl
  exact va_last hx hb hK hP hD hS 8 0 rfl rfl hin hdg (fun H2 locs2 hP2 hD2 hS2 => kk H2 locs2 ls hP2 hD2 hS2 hl)
theorem Rg_near (C : Cx X G T cc RX10 ret nl fr lo) (hdg : decode cc pc = .ok (.getfield 35, 3)) (kk : V X k n (wR a T c_m c_saved c_savedCount c_script c_scriptLength c_code c_lineParts c_lengths c_fractions c_pulseMany c_times c_energies c_far c_near c_echoes c_left c_dropped c_merged c_drops c_contributions c_packet c_peelResult c_peelTime c_peelSum c_at c_commands c_draft c_hash) lv (pc + 3) (.ref (a 9) :: rest)) : V X k n (wR a T c_m c_saved c_savedCount c_script c_scriptLength c_code c_lineParts c_lengths c_fractions c_pulseMany c_times c_energies c_far c_near c_echoes c_left c_dropped c_merged c_drops c_contributions c_packet c_peelResult c_peelTime c_peelSum c_at c_commands c_draft c_hash) lv pc (.ref (a 0) :: rest) := by
  obtain ⟨p, l, e, R, s, m, args, below, meth, c, D, A, H0, nL, Q⟩ := X
  obtain ⟨hx, hb, hml, hown, hts, hK, hlocks, hr, hA, hnl, hfr, hlo, htr, hG, hGs, hH0⟩ := C
  intro H locs ls hP hD hS hl
  exact va_get (D := D) (ci := 8) (C := RX10) (T := TX10) (N := 28) hx hb hts inG10 hown hK hP 0 rfl rfl 13 (by decide) (hts _ wfieldLink_RX10_35_LineEchoesModel_near_J) (fun _ h9 => h9) rfl hdg (kk H locs ls hP hD hS hl)
theorem Ral_near {i : Int32} {β : Type} {K : Int64 → Option β} {o : β} (C : Cx X G T cc RX10 ret nl fr lo) (hdg : decode cc pc = .ok (.laload, 1)) (hf : chk (inb i 1809) (nm (c_near i.toNatClampNeg) K) = some o) (kk : ∀ z, K z = some o → V X k n (wR a T c_m c_saved c_savedCount c_script c_scriptLength c_code c_lineParts c_lengths c_fractions c_pulseMany c_times c_energies c_far c_near c_echoes c_left c_dropped c_merged c_drops c_contributions c_packet c_peelResult c_peelTime c_peelSum c_at c_commands c_draft c_hash) lv (pc + 1) (.long z :: rest)) : V X k n (wR a T c_m c_saved c_savedCount c_script c_scriptLength c_code c_lineParts c_lengths c_fractions c_pulseMany c_times c_energies c_far c_near c_echoes c_left c_dropped c_merged c_drops c_contributions c_packet c_peelResult c_peelTime c_peelSum c_at c_commands c_draft c_hash) lv pc (.int i :: .ref (a 9) :: rest) := by
  obtain ⟨hin, hf⟩ := chk_some hf
  replace hin := vp_in_iff.mpr hin
  replace kk := kk _ hf
  obtain ⟨p, l, e, R, s, m, args, below, meth, c, D, A, H0, nL, Q⟩ := X
  obtain ⟨hx, hb, hml, hown, hts, hK, hlocks, hr, hA, hnl, hfr, hlo, htr, hG, hGs, hH0⟩ := C
  intro H locs ls hP hD hS hl
  exact va_lald hx hb hK hP 9 0 rfl rfl hin hdg (kk H locs ls hP hD hS hl)
theorem Ras_near {i : Int32} {x : Int64} {β : Type} {K : (Nat → Int64) → Option β} {o : β} (C : Cx X G T cc RX10 ret nl fr lo) (hdg : decode cc pc = .ok (.lastore, 1)) (hf : chk (inb i 1809) (nm (vp_updL c_near i.toNatClampNeg x) K) = some o) (kk : ∀ z, K z = some o → V X k n (wR a T c_m c_saved c_savedCount c_script c_scriptLength c_code c_lineParts c_lengths c_fractions c_pulseMany c_times c_energies c_far z c_echoes c_left c_dropped c_merged c_drops c_contributions c_packet c_peelResult c_peelTime c_peelSum c_at c_commands c_draft c_hash) lv (pc + 1) rest) : V X k n (wR a T c_m c_saved c_savedCount c_script c_scriptLength c_code c_lineParts c_lengths c_fractions c_pulseMany c_times c_energies c_far c_near c_echoes c_left c_dropped c_merged c_drops c_contributions c_packet c_peelResult c_peelTime c_peelSum c_at c_commands c_draft c_hash) lv pc (.long x :: .int i :: .ref (a 9) :: rest) := by
  obtain ⟨hin, hf⟩ := chk_some hf
  replace hin := vp_in_iff.mpr hin
  replace kk := kk _ hf
  obtain ⟨p, l, e, R, s, m, args, below, meth, c, D, A, H0, nL, Q⟩ := X
  obtain ⟨hx, hb, hml, hown, hts, hK, hlocks, hr, hA, hnl, hfr, hlo, htr, hG, hGs, hH0⟩ := C
  intro H locs ls hP hD hS hl
  exact va_last hx hb hK hP hD hS 9 0 rfl rfl hin hdg (fun H2 locs2 hP2 hD2 hS2 => kk H2 locs2 ls hP2 hD2 hS2 hl)
theorem Rg_echoes (C : Cx X G T cc RX10 ret nl fr lo) (hdg : decode cc pc = .ok (.getfield 38, 3)) (kk : V X k n (wR a T c_m c_saved c_savedCount c_script c_scriptLength c_code c_lineParts c_lengths c_fractions c_pulseMany c_times c_energies c_far c_near c_echoes c_left c_dropped c_merged c_drops c_contributions c_packet c_peelResult c_peelTime c_peelSum c_at c_commands c_draft c_hash) lv (pc + 3) (.ref (a 10) :: rest)) : V X k n (wR a T c_m c_saved c_savedCount c_script c_scriptLength c_code c_lineParts c_lengths c_fractions c_pulseMany c_times c_energies c_far c_near c_echoes c_left c_dropped c_merged c_drops c_contributions c_packet c_peelResult c_peelTime c_peelSum c_at c_commands c_draft c_hash) lv pc (.ref (a 0) :: rest) := by
  obtain ⟨p, l, e, R, s, m, args, below, meth, c, D, A, H0, nL, Q⟩ := X
  obtain ⟨hx, hb, hml, hown, hts, hK, hlocks, hr, hA, hnl, hfr, hlo, htr, hG, hGs, hH0⟩ := C
  intro H locs ls hP hD hS hl
  exact va_get (D := D) (ci := 8) (C := RX10) (T := TX10) (N := 28) hx hb hts inG10 hown hK hP 0 rfl rfl 14 (by decide) (hts _ wfieldLink_RX10_38_LineEchoesModel_echoes_J) (fun _ h9 => h9) rfl hdg (kk H locs ls hP hD hS hl)
theorem Ral_echoes {i : Int32} {β : Type} {K : Int64 → Option β} {o : β} (C : Cx X G T cc RX10 ret nl fr lo) (hdg : decode cc pc = .ok (.laload, 1)) (hf : chk (inb i 201) (nm (c_echoes i.toNatClampNeg) K) = some o) (kk : ∀ z, K z = some o → V X k n (wR a T c_m c_saved c_savedCount c_script c_scriptLength c_code c_lineParts c_lengths c_fractions c_pulseMany c_times c_energies c_far c_near c_echoes c_left c_dropped c_merged c_drops c_contributions c_packet c_peelResult c_peelTime c_peelSum c_at c_commands c_draft c_hash) lv (pc + 1) (.long z :: rest)) : V X k n (wR a T c_m c_saved c_savedCount c_script c_scriptLength c_code c_lineParts c_lengths c_fractions c_pulseMany c_times c_energies c_far c_near c_echoes c_left c_dropped c_merged c_drops c_contributions c_packet c_peelResult c_peelTime c_peelSum c_at c_commands c_draft c_hash) lv pc (.int i :: .ref (a 10) :: rest) := by
  obtain ⟨hin, hf⟩ := chk_some hf
  replace hin := vp_in_iff.mpr hin
  replace kk := kk _ hf
  obtain ⟨p, l, e, R, s, m, args, below, meth, c, D, A, H0, nL, Q⟩ := X
  obtain ⟨hx, hb, hml, hown, hts, hK, hlocks, hr, hA, hnl, hfr, hlo, htr, hG, hGs, hH0⟩ := C
  intro H locs ls hP hD hS hl
  exact va_lald hx hb hK hP 10 0 rfl rfl hin hdg (kk H locs ls hP hD hS hl)
theorem Ras_echoes {i : Int32} {x : Int64} {β : Type} {K : (Nat → Int64) → Option β} {o : β} (C : Cx X G T cc RX10 ret nl fr lo) (hdg : decode cc pc = .ok (.lastore, 1)) (hf : chk (inb i 201) (nm (vp_updL c_echoes i.toNatClampNeg x) K) = some o) (kk : ∀ z, K z = some o → V X k n (wR a T c_m c_saved c_savedCount c_script c_scriptLength c_code c_lineParts c_lengths c_fractions c_pulseMany c_times c_energies c_far c_near z c_left c_dropped c_merged c_drops c_contributions c_packet c_peelResult c_peelTime c_peelSum c_at c_commands c_draft c_hash) lv (pc + 1) rest) : V X k n (wR a T c_m c_saved c_savedCount c_script c_scriptLength c_code c_lineParts c_lengths c_fractions c_pulseMany c_times c_energies c_far c_near c_echoes c_left c_dropped c_merged c_drops c_contributions c_packet c_peelResult c_peelTime c_peelSum c_at c_commands c_draft c_hash) lv pc (.long x :: .int i :: .ref (a 10) :: rest) := by
  obtain ⟨hin, hf⟩ := chk_some hf
  replace hin := vp_in_iff.mpr hin
  replace kk := kk _ hf
  obtain ⟨p, l, e, R, s, m, args, below, meth, c, D, A, H0, nL, Q⟩ := X
  obtain ⟨hx, hb, hml, hown, hts, hK, hlocks, hr, hA, hnl, hfr, hlo, htr, hG, hGs, hH0⟩ := C
  intro H locs ls hP hD hS hl
  exact va_last hx hb hK hP hD hS 10 0 rfl rfl hin hdg (fun H2 locs2 hP2 hD2 hS2 => kk H2 locs2 ls hP2 hD2 hS2 hl)
theorem Rg_left (C : Cx X G T cc RX10 ret nl fr lo) (hdg : decode cc pc = .ok (.getfield 107, 3)) (kk : V X k n (wR a T c_m c_saved c_savedCount c_script c_scriptLength c_code c_lineParts c_lengths c_fractions c_pulseMany c_times c_energies c_far c_near c_echoes c_left c_dropped c_merged c_drops c_contributions c_packet c_peelResult c_peelTime c_peelSum c_at c_commands c_draft c_hash) lv (pc + 3) (.long c_left :: rest)) : V X k n (wR a T c_m c_saved c_savedCount c_script c_scriptLength c_code c_lineParts c_lengths c_fractions c_pulseMany c_times c_energies c_far c_near c_echoes c_left c_dropped c_merged c_drops c_contributions c_packet c_peelResult c_peelTime c_peelSum c_at c_commands c_draft c_hash) lv pc (.ref (a 0) :: rest) := by
  obtain ⟨p, l, e, R, s, m, args, below, meth, c, D, A, H0, nL, Q⟩ := X
  obtain ⟨hx, hb, hml, hown, hts, hK, hlocks, hr, hA, hnl, hfr, hlo, htr, hG, hGs, hH0⟩ := C
  intro H locs ls hP hD hS hl
  exact va_get (D := D) (ci := 8) (C := RX10) (T := TX10) (N := 28) hx hb hts inG10 hown hK hP 0 rfl rfl 15 (by decide) (hts _ wfieldLink_RX10_107_LineEchoesModel_left_J) (fun _ h9 => h9) rfl hdg (kk H locs ls hP hD hS hl)
theorem Rp_left {z : Int64} (C : Cx X G T cc RX10 ret nl fr lo) (hdg : decode cc pc = .ok (.putfield 107, 3)) (kk : V X k n (wR a T c_m c_saved c_savedCount c_script c_scriptLength c_code c_lineParts c_lengths c_fractions c_pulseMany c_times c_energies c_far c_near c_echoes z c_dropped c_merged c_drops c_contributions c_packet c_peelResult c_peelTime c_peelSum c_at c_commands c_draft c_hash) lv (pc + 3) rest) : V X k n (wR a T c_m c_saved c_savedCount c_script c_scriptLength c_code c_lineParts c_lengths c_fractions c_pulseMany c_times c_energies c_far c_near c_echoes c_left c_dropped c_merged c_drops c_contributions c_packet c_peelResult c_peelTime c_peelSum c_at c_commands c_draft c_hash) lv pc (.long z :: .ref (a 0) :: rest) := by
  obtain ⟨p, l, e, R, s, m, args, below, meth, c, D, A, H0, nL, Q⟩ := X
  obtain ⟨hx, hb, hml, hown, hts, hK, hlocks, hr, hA, hnl, hfr, hlo, htr, hG, hGs, hH0⟩ := C
  intro H locs ls hP hD hS hl
  exact va_put (D := D) (ci := 8) (C := RX10) (T := TX10) (N := 28) (ty := .long) hx hb hts inG10 tyX10 tyX10_ok nmX10 hown hK hP hD hS 0 rfl rfl 15 (by decide) (hts _ wfieldLink_RX10_107_LineEchoesModel_left_J) (fun _ h9 => h9) rfl (by decide +kernel) rfl rfl (Nat.le_of_ble_eq_true rfl) hdg (fun H2 locs2 hP2 hD2 hS2 => kk H2 locs2 ls hP2 hD2 hS2 hl)
theorem Rg_dropped (C : Cx X G T cc RX10 ret nl fr lo) (hdg : decode cc pc = .ok (.getfield 76, 3)) (kk : V X k n (wR a T c_m c_saved c_savedCount c_script c_scriptLength c_code c_lineParts c_lengths c_fractions c_pulseMany c_times c_energies c_far c_near c_echoes c_left c_dropped c_merged c_drops c_contributions c_packet c_peelResult c_peelTime c_peelSum c_at c_commands c_draft c_hash) lv (pc + 3) (.long c_dropped :: rest)) : V X k n (wR a T c_m c_saved c_savedCount c_script c_scriptLength c_code c_lineParts c_lengths c_fractions c_pulseMany c_times c_energies c_far c_near c_echoes c_left c_dropped c_merged c_drops c_contributions c_packet c_peelResult c_peelTime c_peelSum c_at c_commands c_draft c_hash) lv pc (.ref (a 0) :: rest) := by
  obtain ⟨p, l, e, R, s, m, args, below, meth, c, D, A, H0, nL, Q⟩ := X
  obtain ⟨hx, hb, hml, hown, hts, hK, hlocks, hr, hA, hnl, hfr, hlo, htr, hG, hGs, hH0⟩ := C
  intro H locs ls hP hD hS hl
  exact va_get (D := D) (ci := 8) (C := RX10) (T := TX10) (N := 28) hx hb hts inG10 hown hK hP 0 rfl rfl 16 (by decide) (hts _ wfieldLink_RX10_76_LineEchoesModel_dropped_J) (fun _ h9 => h9) rfl hdg (kk H locs ls hP hD hS hl)
theorem Rp_dropped {z : Int64} (C : Cx X G T cc RX10 ret nl fr lo) (hdg : decode cc pc = .ok (.putfield 76, 3)) (kk : V X k n (wR a T c_m c_saved c_savedCount c_script c_scriptLength c_code c_lineParts c_lengths c_fractions c_pulseMany c_times c_energies c_far c_near c_echoes c_left z c_merged c_drops c_contributions c_packet c_peelResult c_peelTime c_peelSum c_at c_commands c_draft c_hash) lv (pc + 3) rest) : V X k n (wR a T c_m c_saved c_savedCount c_script c_scriptLength c_code c_lineParts c_lengths c_fractions c_pulseMany c_times c_energies c_far c_near c_echoes c_left c_dropped c_merged c_drops c_contributions c_packet c_peelResult c_peelTime c_peelSum c_at c_commands c_draft c_hash) lv pc (.long z :: .ref (a 0) :: rest) := by
  obtain ⟨p, l, e, R, s, m, args, below, meth, c, D, A, H0, nL, Q⟩ := X
  obtain ⟨hx, hb, hml, hown, hts, hK, hlocks, hr, hA, hnl, hfr, hlo, htr, hG, hGs, hH0⟩ := C
  intro H locs ls hP hD hS hl
  exact va_put (D := D) (ci := 8) (C := RX10) (T := TX10) (N := 28) (ty := .long) hx hb hts inG10 tyX10 tyX10_ok nmX10 hown hK hP hD hS 0 rfl rfl 16 (by decide) (hts _ wfieldLink_RX10_76_LineEchoesModel_dropped_J) (fun _ h9 => h9) rfl (by decide +kernel) rfl rfl (Nat.le_of_ble_eq_true rfl) hdg (fun H2 locs2 hP2 hD2 hS2 => kk H2 locs2 ls hP2 hD2 hS2 hl)
theorem Rg_merged (C : Cx X G T cc RX10 ret nl fr lo) (hdg : decode cc pc = .ok (.getfield 70, 3)) (kk : V X k n (wR a T c_m c_saved c_savedCount c_script c_scriptLength c_code c_lineParts c_lengths c_fractions c_pulseMany c_times c_energies c_far c_near c_echoes c_left c_dropped c_merged c_drops c_contributions c_packet c_peelResult c_peelTime c_peelSum c_at c_commands c_draft c_hash) lv (pc + 3) (.int c_merged :: rest)) : V X k n (wR a T c_m c_saved c_savedCount c_script c_scriptLength c_code c_lineParts c_lengths c_fractions c_pulseMany c_times c_energies c_far c_near c_echoes c_left c_dropped c_merged c_drops c_contributions c_packet c_peelResult c_peelTime c_peelSum c_at c_commands c_draft c_hash) lv pc (.ref (a 0) :: rest) := by
  obtain ⟨p, l, e, R, s, m, args, below, meth, c, D, A, H0, nL, Q⟩ := X
  obtain ⟨hx, hb, hml, hown, hts, hK, hlocks, hr, hA, hnl, hfr, hlo, htr, hG, hGs, hH0⟩ := C
  intro H locs ls hP hD hS hl
  exact va_get (D := D) (ci := 8) (C := RX10) (T := TX10) (N := 28) hx hb hts inG10 hown hK hP 0 rfl rfl 17 (by decide) (hts _ wfieldLink_RX10_70_LineEchoesModel_merged_I) (fun _ h9 => h9) rfl hdg (kk H locs ls hP hD hS hl)
theorem Rp_merged {z : Int32} (C : Cx X G T cc RX10 ret nl fr lo) (hdg : decode cc pc = .ok (.putfield 70, 3)) (kk : V X k n (wR a T c_m c_saved c_savedCount c_script c_scriptLength c_code c_lineParts c_lengths c_fractions c_pulseMany c_times c_energies c_far c_near c_echoes c_left c_dropped z c_drops c_contributions c_packet c_peelResult c_peelTime c_peelSum c_at c_commands c_draft c_hash) lv (pc + 3) rest) : V X k n (wR a T c_m c_saved c_savedCount c_script c_scriptLength c_code c_lineParts c_lengths c_fractions c_pulseMany c_times c_energies c_far c_near c_echoes c_left c_dropped c_merged c_drops c_contributions c_packet c_peelResult c_peelTime c_peelSum c_at c_commands c_draft c_hash) lv pc (.int z :: .ref (a 0) :: rest) := by
  obtain ⟨p, l, e, R, s, m, args, below, meth, c, D, A, H0, nL, Q⟩ := X
  obtain ⟨hx, hb, hml, hown, hts, hK, hlocks, hr, hA, hnl, hfr, hlo, htr, hG, hGs, hH0⟩ := C
  intro H locs ls hP hD hS hl
  exact va_put (D := D) (ci := 8) (C := RX10) (T := TX10) (N := 28) (ty := .int) hx hb hts inG10 tyX10 tyX10_ok nmX10 hown hK hP hD hS 0 rfl rfl 17 (by decide) (hts _ wfieldLink_RX10_70_LineEchoesModel_merged_I) (fun _ h9 => h9) rfl (by decide +kernel) rfl rfl (Nat.le_of_ble_eq_true rfl) hdg (fun H2 locs2 hP2 hD2 hS2 => kk H2 locs2 ls hP2 hD2 hS2 hl)
theorem Rg_drops (C : Cx X G T cc RX10 ret nl fr lo) (hdg : decode cc pc = .ok (.getfield 73, 3)) (kk : V X k n (wR a T c_m c_saved c_savedCount c_script c_scriptLength c_code c_lineParts c_lengths c_fractions c_pulseMany c_times c_energies c_far c_near c_echoes c_left c_dropped c_merged c_drops c_contributions c_packet c_peelResult c_peelTime c_peelSum c_at c_commands c_draft c_hash) lv (pc + 3) (.int c_drops :: rest)) : V X k n (wR a T c_m c_saved c_savedCount c_script c_scriptLength c_code c_lineParts c_lengths c_fractions c_pulseMany c_times c_energies c_far c_near c_echoes c_left c_dropped c_merged c_drops c_contributions c_packet c_peelResult c_peelTime c_peelSum c_at c_commands c_draft c_hash) lv pc (.ref (a 0) :: rest) := by
  obtain ⟨p, l, e, R, s, m, args, below, meth, c, D, A, H0, nL, Q⟩ := X
  obtain ⟨hx, hb, hml, hown, hts, hK, hlocks, hr, hA, hnl, hfr, hlo, htr, hG, hGs, hH0⟩ := C
  intro H locs ls hP hD hS hl
  exact va_get (D := D) (ci := 8) (C := RX10) (T := TX10) (N := 28) hx hb hts inG10 hown hK hP 0 rfl rfl 18 (by decide) (hts _ wfieldLink_RX10_73_LineEchoesModel_drops_I) (fun _ h9 => h9) rfl hdg (kk H locs ls hP hD hS hl)
theorem Rp_drops {z : Int32} (C : Cx X G T cc RX10 ret nl fr lo) (hdg : decode cc pc = .ok (.putfield 73, 3)) (kk : V X k n (wR a T c_m c_saved c_savedCount c_script c_scriptLength c_code c_lineParts c_lengths c_fractions c_pulseMany c_times c_energies c_far c_near c_echoes c_left c_dropped c_merged z c_contributions c_packet c_peelResult c_peelTime c_peelSum c_at c_commands c_draft c_hash) lv (pc + 3) rest) : V X k n (wR a T c_m c_saved c_savedCount c_script c_scriptLength c_code c_lineParts c_lengths c_fractions c_pulseMany c_times c_energies c_far c_near c_echoes c_left c_dropped c_merged c_drops c_contributions c_packet c_peelResult c_peelTime c_peelSum c_at c_commands c_draft c_hash) lv pc (.int z :: .ref (a 0) :: rest) := by
  obtain ⟨p, l, e, R, s, m, args, below, meth, c, D, A, H0, nL, Q⟩ := X
  obtain ⟨hx, hb, hml, hown, hts, hK, hlocks, hr, hA, hnl, hfr, hlo, htr, hG, hGs, hH0⟩ := C
  intro H locs ls hP hD hS hl
  exact va_put (D := D) (ci := 8) (C := RX10) (T := TX10) (N := 28) (ty := .int) hx hb hts inG10 tyX10 tyX10_ok nmX10 hown hK hP hD hS 0 rfl rfl 18 (by decide) (hts _ wfieldLink_RX10_73_LineEchoesModel_drops_I) (fun _ h9 => h9) rfl (by decide +kernel) rfl rfl (Nat.le_of_ble_eq_true rfl) hdg (fun H2 locs2 hP2 hD2 hS2 => kk H2 locs2 ls hP2 hD2 hS2 hl)
theorem Rg_contributions (C : Cx X G T cc RX10 ret nl fr lo) (hdg : decode cc pc = .ok (.getfield 63, 3)) (kk : V X k n (wR a T c_m c_saved c_savedCount c_script c_scriptLength c_code c_lineParts c_lengths c_fractions c_pulseMany c_times c_energies c_far c_near c_echoes c_left c_dropped c_merged c_drops c_contributions c_packet c_peelResult c_peelTime c_peelSum c_at c_commands c_draft c_hash) lv (pc + 3) (.int c_contributions :: rest)) : V X k n (wR a T c_m c_saved c_savedCount c_script c_scriptLength c_code c_lineParts c_lengths c_fractions c_pulseMany c_times c_energies c_far c_near c_echoes c_left c_dropped c_merged c_drops c_contributions c_packet c_peelResult c_peelTime c_peelSum c_at c_commands c_draft c_hash) lv pc (.ref (a 0) :: rest) := by
  obtain ⟨p, l, e, R, s, m, args, below, meth, c, D, A, H0, nL, Q⟩ := X
  obtain ⟨hx, hb, hml, hown, hts, hK, hlocks, hr, hA, hnl, hfr, hlo, htr, hG, hGs, hH0⟩ := C
  intro H locs ls hP hD hS hl
  exact va_get (D := D) (ci := 8) (C := RX10) (T := TX10) (N := 28) hx hb hts inG10 hown hK hP 0 rfl rfl 19 (by decide) (hts _ wfieldLink_RX10_63_LineEchoesModel_contributions_I) (fun _ h9 => h9) rfl hdg (kk H locs ls hP hD hS hl)
theorem Rp_contributions {z : Int32} (C : Cx X G T cc RX10 ret nl fr lo) (hdg : decode cc pc = .ok (.putfield 63, 3)) (kk : V X k n (wR a T c_m c_saved c_savedCount c_script c_scriptLength c_code c_lineParts c_lengths c_fractions c_pulseMany c_times c_energies c_far c_near c_echoes c_left c_dropped c_merged c_drops z c_packet c_peelResult c_peelTime c_peelSum c_at c_commands c_draft c_hash) lv (pc + 3) rest) : V X k n (wR a T c_m c_saved c_savedCount c_script c_scriptLength c_code c_lineParts c_lengths c_fractions c_pulseMany c_times c_energies c_far c_near c_echoes c_left c_dropped c_merged c_drops c_contributions c_packet c_peelResult c_peelTime c_peelSum c_at c_commands c_draft c_hash) lv pc (.int z :: .ref (a 0) :: rest) := by
  obtain ⟨p, l, e, R, s, m, args, below, meth, c, D, A, H0, nL, Q⟩ := X
  obtain ⟨hx, hb, hml, hown, hts, hK, hlocks, hr, hA, hnl, hfr, hlo, htr, hG, hGs, hH0⟩ := C
  intro H locs ls hP hD hS hl
  exact va_put (D := D) (ci := 8) (C := RX10) (T := TX10) (N := 28) (ty := .int) hx hb hts inG10 tyX10 tyX10_ok nmX10 hown hK hP hD hS 0 rfl rfl 19 (by decide) (hts _ wfieldLink_RX10_63_LineEchoesModel_contributions_I) (fun _ h9 => h9) rfl (by decide +kernel) rfl rfl (Nat.le_of_ble_eq_true rfl) hdg (fun H2 locs2 hP2 hD2 hS2 => kk H2 locs2 ls hP2 hD2 hS2 hl)
theorem Rg_packet (C : Cx X G T cc RX10 ret nl fr lo) (hdg : decode cc pc = .ok (.getfield 66, 3)) (kk : V X k n (wR a T c_m c_saved c_savedCount c_script c_scriptLength c_code c_lineParts c_lengths c_fractions c_pulseMany c_times c_energies c_far c_near c_echoes c_left c_dropped c_merged c_drops c_contributions c_packet c_peelResult c_peelTime c_peelSum c_at c_commands c_draft c_hash) lv (pc + 3) (.long c_packet :: rest)) : V X k n (wR a T c_m c_saved c_savedCount c_script c_scriptLength c_code c_lineParts c_lengths c_fractions c_pulseMany c_times c_energies c_far c_near c_echoes c_left c_dropped c_merged c_drops c_contributions c_packet c_peelResult c_peelTime c_peelSum c_at c_commands c_draft c_hash) lv pc (.ref (a 0) :: rest) := by
  obtain ⟨p, l, e, R, s, m, args, below, meth, c, D, A, H0, nL, Q⟩ := X
  obtain ⟨hx, hb, hml, hown, hts, hK, hlocks, hr, hA, hnl, hfr, hlo, htr, hG, hGs, hH0⟩ := C
  intro H locs ls hP hD hS hl
  exact va_get (D := D) (ci := 8) (C := RX10) (T := TX10) (N := 28) hx hb hts inG10 hown hK hP 0 rfl rfl 20 (by decide) (hts _ wfieldLink_RX10_66_LineEchoesModel_packet_J) (fun _ h9 => h9) rfl hdg (kk H locs ls hP hD hS hl)
theorem Rp_packet {z : Int64} (C : Cx X G T cc RX10 ret nl fr lo) (hdg : decode cc pc = .ok (.putfield 66, 3)) (kk : V X k n (wR a T c_m c_saved c_savedCount c_script c_scriptLength c_code c_lineParts c_lengths c_fractions c_pulseMany c_times c_energies c_far c_near c_echoes c_left c_dropped c_merged c_drops c_contributions z c_peelResult c_peelTime c_peelSum c_at c_commands c_draft c_hash) lv (pc + 3) rest) : V X k n (wR a T c_m c_saved c_savedCount c_script c_scriptLength c_code c_lineParts c_lengths c_fractions c_pulseMany c_times c_energies c_far c_near c_echoes c_left c_dropped c_merged c_drops c_contributions c_packet c_peelResult c_peelTime c_peelSum c_at c_commands c_draft c_hash) lv pc (.long z :: .ref (a 0) :: rest) := by
  obtain ⟨p, l, e, R, s, m, args, below, meth, c, D, A, H0, nL, Q⟩ := X
  obtain ⟨hx, hb, hml, hown, hts, hK, hlocks, hr, hA, hnl, hfr, hlo, htr, hG, hGs, hH0⟩ := C
  intro H locs ls hP hD hS hl
  exact va_put (D := D) (ci := 8) (C := RX10) (T := TX10) (N := 28) (ty := .long) hx hb hts inG10 tyX10 tyX10_ok nmX10 hown hK hP hD hS 0 rfl rfl 20 (by decide) (hts _ wfieldLink_RX10_66_LineEchoesModel_packet_J) (fun _ h9 => h9) rfl (by decide +kernel) rfl rfl (Nat.le_of_ble_eq_true rfl) hdg (fun H2 locs2 hP2 hD2 hS2 => kk H2 locs2 ls hP2 hD2 hS2 hl)
theorem Rg_peelResult (C : Cx X G T cc RX10 ret nl fr lo) (hdg : decode cc pc = .ok (.getfield 240, 3)) (kk : V X k n (wR a T c_m c_saved c_savedCount c_script c_scriptLength c_code c_lineParts c_lengths c_fractions c_pulseMany c_times c_energies c_far c_near c_echoes c_left c_dropped c_merged c_drops c_contributions c_packet c_peelResult c_peelTime c_peelSum c_at c_commands c_draft c_hash) lv (pc + 3) (.int c_peelResult :: rest)) : V X k n (wR a T c_m c_saved c_savedCount c_script c_scriptLength c_code c_lineParts c_lengths c_fractions c_pulseMany c_times c_energies c_far c_near c_echoes c_left c_dropped c_merged c_drops c_contributions c_packet c_peelResult c_peelTime c_peelSum c_at c_commands c_draft c_hash) lv pc (.ref (a 0) :: rest) := by
  obtain ⟨p, l, e, R, s, m, args, below, meth, c, D, A, H0, nL, Q⟩ := X
  obtain ⟨hx, hb, hml, hown, hts, hK, hlocks, hr, hA, hnl, hfr, hlo, htr, hG, hGs, hH0⟩ := C
  intro H locs ls hP hD hS hl
  exact va_get (D := D) (ci := 8) (C := RX10) (T := TX10) (N := 28) hx hb hts inG10 hown hK hP 0 rfl rfl 21 (by decide) (hts _ wfieldLink_RX10_240_LineEchoesModel_peelResult_I) (fun _ h9 => h9) rfl hdg (kk H locs ls hP hD hS hl)
theorem Rp_peelResult {z : Int32} (C : Cx X G T cc RX10 ret nl fr lo) (hdg : decode cc pc = .ok (.putfield 240, 3)) (kk : V X k n (wR a T c_m c_saved c_savedCount c_script c_scriptLength c_code c_lineParts c_lengths c_fractions c_pulseMany c_times c_energies c_far c_near c_echoes c_left c_dropped c_merged c_drops c_contributions c_packet z c_peelTime c_peelSum c_at c_commands c_draft c_hash) lv (pc + 3) rest) : V X k n (wR a T c_m c_saved c_savedCount c_script c_scriptLength c_code c_lineParts c_lengths c_fractions c_pulseMany c_times c_energies c_far c_near c_echoes c_left c_dropped c_merged c_drops c_contributions c_packet c_peelResult c_peelTime c_peelSum c_at c_commands c_draft c_hash) lv pc (.int z :: .ref (a 0) :: rest) := by
  obtain ⟨p, l, e, R, s, m, args, below, meth, c, D, A, H0, nL, Q⟩ := X
  obtain ⟨hx, hb, hml, hown, hts, hK, hlocks, hr, hA, hnl, hfr, hlo, htr, hG, hGs, hH0⟩ := C
  intro H locs ls hP hD hS hl
  exact va_put (D := D) (ci := 8) (C := RX10) (T := TX10) (N := 28) (ty := .int) hx hb hts inG10 tyX10 tyX10_ok nmX10 hown hK hP hD hS 0 rfl rfl 21 (by decide) (hts _ wfieldLink_RX10_240_LineEchoesModel_peelResult_I) (fun _ h9 => h9) rfl (by decide +kernel) rfl rfl (Nat.le_of_ble_eq_true rfl) hdg (fun H2 locs2 hP2 hD2 hS2 => kk H2 locs2 ls hP2 hD2 hS2 hl)
theorem Rg_peelTime (C : Cx X G T cc RX10 ret nl fr lo) (hdg : decode cc pc = .ok (.getfield 237, 3)) (kk : V X k n (wR a T c_m c_saved c_savedCount c_script c_scriptLength c_code c_lineParts c_lengths c_fractions c_pulseMany c_times c_energies c_far c_near c_echoes c_left c_dropped c_merged c_drops c_contributions c_packet c_peelResult c_peelTime c_peelSum c_at c_commands c_draft c_hash) lv (pc + 3) (.int c_peelTime :: rest)) : V X k n (wR a T c_m c_saved c_savedCount c_script c_scriptLength c_code c_lineParts c_lengths c_fractions c_pulseMany c_times c_energies c_far c_near c_echoes c_left c_dropped c_merged c_drops c_contributions c_packet c_peelResult c_peelTime c_peelSum c_at c_commands c_draft c_hash) lv pc (.ref (a 0) :: rest) := by
  obtain ⟨p, l, e, R, s, m, args, below, meth, c, D, A, H0, nL, Q⟩ := X
  obtain ⟨hx, hb, hml, hown, hts, hK, hlocks, hr, hA, hnl, hfr, hlo, htr, hG, hGs, hH0⟩ := C
  intro H locs ls hP hD hS hl
  exact va_get (D := D) (ci := 8) (C := RX10) (T := TX10) (N := 28) hx hb hts inG10 hown hK hP 0 rfl rfl 22 (by decide) (hts _ wfieldLink_RX10_237_LineEchoesModel_peelTime_I) (fun _ h9 => h9) rfl hdg (kk H locs ls hP hD hS hl)
theorem Rp_peelTime {z : Int32} (C : Cx X G T cc RX10 ret nl fr lo) (hdg : decode cc pc = .ok (.putfield 237, 3)) (kk : V X k n (wR a T c_m c_saved c_savedCount c_script c_scriptLength c_code c_lineParts c_lengths c_fractions c_pulseMany c_times c_energies c_far c_near c_echoes c_left c_dropped c_merged c_drops c_contributions c_packet c_peelResult z c_peelSum c_at c_commands c_draft c_hash) lv (pc + 3) rest) : V X k n (wR a T c_m c_saved c_savedCount c_script c_scriptLength c_code c_lineParts c_lengths c_fractions c_pulseMany c_times c_energies c_far c_near c_echoes c_left c_dropped c_merged c_drops c_contributions c_packet c_peelResult c_peelTime c_peelSum c_at c_commands c_draft c_hash) lv pc (.int z :: .ref (a 0) :: rest) := by
  obtain ⟨p, l, e, R, s, m, args, below, meth, c, D, A, H0, nL, Q⟩ := X
  obtain ⟨hx, hb, hml, hown, hts, hK, hlocks, hr, hA, hnl, hfr, hlo, htr, hG, hGs, hH0⟩ := C
  intro H locs ls hP hD hS hl
  exact va_put (D := D) (ci := 8) (C := RX10) (T := TX10) (N := 28) (ty := .int) hx hb hts inG10 tyX10 tyX10_ok nmX10 hown hK hP hD hS 0 rfl rfl 22 (by decide) (hts _ wfieldLink_RX10_237_LineEchoesModel_peelTime_I) (fun _ h9 => h9) rfl (by decide +kernel) rfl rfl (Nat.le_of_ble_eq_true rfl) hdg (fun H2 locs2 hP2 hD2 hS2 => kk H2 locs2 ls hP2 hD2 hS2 hl)
theorem Rg_peelSum (C : Cx X G T cc RX10 ret nl fr lo) (hdg : decode cc pc = .ok (.getfield 231, 3)) (kk : V X k n (wR a T c_m c_saved c_savedCount c_script c_scriptLength c_code c_lineParts c_lengths c_fractions c_pulseMany c_times c_energies c_far c_near c_echoes c_left c_dropped c_merged c_drops c_contributions c_packet c_peelResult c_peelTime c_peelSum c_at c_commands c_draft c_hash) lv (pc + 3) (.int c_peelSum :: rest)) : V X k n (wR a T c_m c_saved c_savedCount c_script c_scriptLength c_code c_lineParts c_lengths c_fractions c_pulseMany c_times c_energies c_far c_near c_echoes c_left c_dropped c_merged c_drops c_contributions c_packet c_peelResult c_peelTime c_peelSum c_at c_commands c_draft c_hash) lv pc (.ref (a 0) :: rest) := by
  obtain ⟨p, l, e, R, s, m, args, below, meth, c, D, A, H0, nL, Q⟩ := X
  obtain ⟨hx, hb, hml, hown, hts, hK, hlocks, hr, hA, hnl, hfr, hlo, htr, hG, hGs, hH0⟩ := C
  intro H locs ls hP hD hS hl
  exact va_get (D := D) (ci := 8) (C := RX10) (T := TX10) (N := 28) hx hb hts inG10 hown hK hP 0 rfl rfl 23 (by decide) (hts _ wfieldLink_RX10_231_LineEchoesModel_peelSum_I) (fun _ h9 => h9) rfl hdg (kk H locs ls hP hD hS hl)
theorem Rp_peelSum {z : Int32} (C : Cx X G T cc RX10 ret nl fr lo) (hdg : decode cc pc = .ok (.putfield 231, 3)) (kk : V X k n (wR a T c_m c_saved c_savedCount c_script c_scriptLength c_code c_lineParts c_lengths c_fractions c_pulseMany c_times c_energies c_far c_near c_echoes c_left c_dropped c_merged c_drops c_contributions c_packet c_peelResult c_peelTime z c_at c_commands c_draft c_hash) lv (pc + 3) rest) : V X k n (wR a T c_m c_saved c_savedCount c_script c_scriptLength c_code c_lineParts c_lengths c_fractions c_pulseMany c_times c_energies c_far c_near c_echoes c_left c_dropped c_merged c_drops c_contributions c_packet c_peelResult c_peelTime c_peelSum c_at c_commands c_draft c_hash) lv pc (.int z :: .ref (a 0) :: rest) := by
  obtain ⟨p, l, e, R, s, m, args, below, meth, c, D, A, H0, nL, Q⟩ := X
  obtain ⟨hx, hb, hml, hown, hts, hK, hlocks, hr, hA, hnl, hfr, hlo, htr, hG, hGs, hH0⟩ := C
  intro H locs ls hP hD hS hl
  exact va_put (D := D) (ci := 8) (C := RX10) (T := TX10) (N := 28) (ty := .int) hx hb hts inG10 tyX10 tyX10_ok nmX10 hown hK hP hD hS 0 rfl rfl 23 (by decide) (hts _ wfieldLink_RX10_231_LineEchoesModel_peelSum_I) (fun _ h9 => h9) rfl (by decide +kernel) rfl rfl (Nat.le_of_ble_eq_true rfl) hdg (fun H2 locs2 hP2 hD2 hS2 => kk H2 locs2 ls hP2 hD2 hS2 hl)
theorem Rg_at (C : Cx X G T cc RX10 ret nl fr lo) (hdg : decode cc pc = .ok (.getfield 264, 3)) (kk : V X k n (wR a T c_m c_saved c_savedCount c_script c_scriptLength c_code c_lineParts c_lengths c_fractions c_pulseMany c_times c_energies c_far c_near c_echoes c_left c_dropped c_merged c_drops c_contributions c_packet c_peelResult c_peelTime c_peelSum c_at c_commands c_draft c_hash) lv (pc + 3) (.int c_at :: rest)) : V X k n (wR a T c_m c_saved c_savedCount c_script c_scriptLength c_code c_lineParts c_lengths c_fractions c_pulseMany c_times c_energies c_far c_near c_echoes c_left c_dropped c_merged c_drops c_contributions c_packet c_peelResult c_peelTime c_peelSum c_at c_commands c_draft c_hash) lv pc (.ref (a 0) :: rest) := by
  obtain ⟨p, l, e, R, s, m, args, below, meth, c, D, A, H0, nL, Q⟩ := X
  obtain ⟨hx, hb, hml, hown, hts, hK, hlocks, hr, hA, hnl, hfr, hlo, htr, hG, hGs, hH0⟩ := C
  intro H locs ls hP hD hS hl
  exact va_get (D := D) (ci := 8) (C := RX10) (T := TX10) (N := 28) hx hb hts inG10 hown hK hP 0 rfl rfl 24 (by decide) (hts _ wfieldLink_RX10_264_LineEchoesModel_at_I) (fun _ h9 => h9) rfl hdg (kk H locs ls hP hD hS hl)
theorem Rp_at {z : Int32} (C : Cx X G T cc RX10 ret nl fr lo) (hdg : decode cc pc = .ok (.putfield 264, 3)) (kk : V X k n (wR a T c_m c_saved c_savedCount c_script c_scriptLength c_code c_lineParts c_lengths c_fractions c_pulseMany c_times c_energies c_far c_near c_echoes c_left c_dropped c_merged c_drops c_contributions c_packet c_peelResult c_peelTime c_peelSum z c_commands c_draft c_hash) lv (pc + 3) rest) : V X k n (wR a T c_m c_saved c_savedCount c_script c_scriptLength c_code c_lineParts c_lengths c_fractions c_pulseMany c_times c_energies c_far c_near c_echoes c_left c_dropped c_merged c_drops c_contributions c_packet c_peelResult c_peelTime c_peelSum c_at c_commands c_draft c_hash) lv pc (.int z :: .ref (a 0) :: rest) := by
  obtain ⟨p, l, e, R, s, m, args, below, meth, c, D, A, H0, nL, Q⟩ := X
  obtain ⟨hx, hb, hml, hown, hts, hK, hlocks, hr, hA, hnl, hfr, hlo, htr, hG, hGs, hH0⟩ := C
  intro H locs ls hP hD hS hl
  exact va_put (D := D) (ci := 8) (C := RX10) (T := TX10) (N := 28) (ty := .int) hx hb hts inG10 tyX10 tyX10_ok nmX10 hown hK hP hD hS 0 rfl rfl 24 (by decide) (hts _ wfieldLink_RX10_264_LineEchoesModel_at_I) (fun _ h9 => h9) rfl (by decide +kernel) rfl rfl (Nat.le_of_ble_eq_true rfl) hdg (fun H2 locs2 hP2 hD2 hS2 => kk H2 locs2 ls hP2 hD2 hS2 hl)
theorem Rg_commands (C : Cx X G T cc RX10 ret nl fr lo) (hdg : decode cc pc = .ok (.getfield 304, 3)) (kk : V X k n (wR a T c_m c_saved c_savedCount c_script c_scriptLength c_code c_lineParts c_lengths c_fractions c_pulseMany c_times c_energies c_far c_near c_echoes c_left c_dropped c_merged c_drops c_contributions c_packet c_peelResult c_peelTime c_peelSum c_at c_commands c_draft c_hash) lv (pc + 3) (.int c_commands :: rest)) : V X k n (wR a T c_m c_saved c_savedCount c_script c_scriptLength c_code c_lineParts c_lengths c_fractions c_pulseMany c_times c_energies c_far c_near c_echoes c_left c_dropped c_merged c_drops c_contributions c_packet c_peelResult c_peelTime c_peelSum c_at c_commands c_draft c_hash) lv pc (.ref (a 0) :: rest) := by
  obtain ⟨p, l, e, R, s, m, args, below, meth, c, D, A, H0, nL, Q⟩ := X
  obtain ⟨hx, hb, hml, hown, hts, hK, hlocks, hr, hA, hnl, hfr, hlo, htr, hG, hGs, hH0⟩ := C
  intro H locs ls hP hD hS hl
  exact va_get (D := D) (ci := 8) (C := RX10) (T := TX10) (N := 28) hx hb hts inG10 hown hK hP 0 rfl rfl 25 (by decide) (hts _ wfieldLink_RX10_304_LineEchoesModel_commands_I) (fun _ h9 => h9) rfl hdg (kk H locs ls hP hD hS hl)
theorem Rp_commands {z : Int32} (C : Cx X G T cc RX10 ret nl fr lo) (hdg : decode cc pc = .ok (.putfield 304, 3)) (kk : V X k n (wR a T c_m c_saved c_savedCount c_script c_scriptLength c_code c_lineParts c_lengths c_fractions c_pulseMany c_times c_energies c_far c_near c_echoes c_left c_dropped c_merged c_drops c_contributions c_packet c_peelResult c_peelTime c_peelSum c_at z c_draft c_hash) lv (pc + 3) rest) : V X k n (wR a T c_m c_saved c_savedCount c_script c_scriptLength c_code c_lineParts c_lengths c_fractions c_pulseMany c_times c_energies c_far c_near c_echoes c_left c_dropped c_merged c_drops c_contributions c_packet c_peelResult c_peelTime c_peelSum c_at c_commands c_draft c_hash) lv pc (.int z :: .ref (a 0) :: rest) := by
  obtain ⟨p, l, e, R, s, m, args, below, meth, c, D, A, H0, nL, Q⟩ := X
  obtain ⟨hx, hb, hml, hown, hts, hK, hlocks, hr, hA, hnl, hfr, hlo, htr, hG, hGs, hH0⟩ := C
  intro H locs ls hP hD hS hl
  exact va_put (D := D) (ci := 8) (C := RX10) (T := TX10) (N := 28) (ty := .int) hx hb hts inG10 tyX10 tyX10_ok nmX10 hown hK hP hD hS 0 rfl rfl 25 (by decide) (hts _ wfieldLink_RX10_304_LineEchoesModel_commands_I) (fun _ h9 => h9) rfl (by decide +kernel) rfl rfl (Nat.le_of_ble_eq_true rfl) hdg (fun H2 locs2 hP2 hD2 hS2 => kk H2 locs2 ls hP2 hD2 hS2 hl)
theorem Rg_draft (C : Cx X G T cc RX10 ret nl fr lo) (hdg : decode cc pc = .ok (.getfield 41, 3)) (kk : V X k n (wR a T c_m c_saved c_savedCount c_script c_scriptLength c_code c_lineParts c_lengths c_fractions c_pulseMany c_times c_energies c_far c_near c_echoes c_left c_dropped c_merged c_drops c_contributions c_packet c_peelResult c_peelTime c_peelSum c_at c_commands c_draft c_hash) lv (pc + 3) (.ref (a 11) :: rest)) : V X k n (wR a T c_m c_saved c_savedCount c_script c_scriptLength c_code c_lineParts c_lengths c_fractions c_pulseMany c_times c_energies c_far c_near c_echoes c_left c_dropped c_merged c_drops c_contributions c_packet c_peelResult c_peelTime c_peelSum c_at c_commands c_draft c_hash) lv pc (.ref (a 0) :: rest) := by
  obtain ⟨p, l, e, R, s, m, args, below, meth, c, D, A, H0, nL, Q⟩ := X
  obtain ⟨hx, hb, hml, hown, hts, hK, hlocks, hr, hA, hnl, hfr, hlo, htr, hG, hGs, hH0⟩ := C
  intro H locs ls hP hD hS hl
  exact va_get (D := D) (ci := 8) (C := RX10) (T := TX10) (N := 28) hx hb hts inG10 hown hK hP 0 rfl rfl 26 (by decide) (hts _ wfieldLink_RX10_41_LineEchoesModel_draft_I) (fun _ h9 => h9) rfl hdg (kk H locs ls hP hD hS hl)
theorem Ral_draft {i : Int32} {β : Type} {K : Int32 → Option β} {o : β} (C : Cx X G T cc RX10 ret nl fr lo) (hdg : decode cc pc = .ok (.iaload, 1)) (hf : chk (inb i 120) (nm (c_draft i.toNatClampNeg) K) = some o) (kk : ∀ z, K z = some o → V X k n (wR a T c_m c_saved c_savedCount c_script c_scriptLength c_code c_lineParts c_lengths c_fractions c_pulseMany c_times c_energies c_far c_near c_echoes c_left c_dropped c_merged c_drops c_contributions c_packet c_peelResult c_peelTime c_peelSum c_at c_commands c_draft c_hash) lv (pc + 1) (.int z :: rest)) : V X k n (wR a T c_m c_saved c_savedCount c_script c_scriptLength c_code c_lineParts c_lengths c_fractions c_pulseMany c_times c_energies c_far c_near c_echoes c_left c_dropped c_merged c_drops c_contributions c_packet c_peelResult c_peelTime c_peelSum c_at c_commands c_draft c_hash) lv pc (.int i :: .ref (a 11) :: rest) := by
  obtain ⟨hin, hf⟩ := chk_some hf
  replace hin := vp_in_iff.mpr hin
  replace kk := kk _ hf
  obtain ⟨p, l, e, R, s, m, args, below, meth, c, D, A, H0, nL, Q⟩ := X
  obtain ⟨hx, hb, hml, hown, hts, hK, hlocks, hr, hA, hnl, hfr, hlo, htr, hG, hGs, hH0⟩ := C
  intro H locs ls hP hD hS hl
  exact va_iald hx hb hK hP 11 1 rfl rfl hin hdg (kk H locs ls hP hD hS hl)
theorem Ras_draft {i : Int32} {x : Int32} {β : Type} {K : (Nat → Int32) → Option β} {o : β} (C : Cx X G T cc RX10 ret nl fr lo) (hdg : decode cc pc = .ok (.iastore, 1)) (hf : chk (inb i 120) (nm (upd c_draft i.toNatClampNeg x) K) = some o) (kk : ∀ z, K z = some o → V X k n (wR a T c_m c_saved c_savedCount c_script c_scriptLength c_code c_lineParts c_lengths c_fractions c_pulseMany c_times c_energies c_far c_near c_echoes c_left c_dropped c_merged c_drops c_contributions c_packet c_peelResult c_peelTime c_peelSum c_at c_commands z c_hash) lv (pc + 1) rest) : V X k n (wR a T c_m c_saved c_savedCount c_script c_scriptLength c_code c_lineParts c_lengths c_fractions c_pulseMany c_times c_energies c_far c_near c_echoes c_left c_dropped c_merged c_drops c_contributions c_packet c_peelResult c_peelTime c_peelSum c_at c_commands c_draft c_hash) lv pc (.int x :: .int i :: .ref (a 11) :: rest) := by
  obtain ⟨hin, hf⟩ := chk_some hf
  replace hin := vp_in_iff.mpr hin
  replace kk := kk _ hf
  obtain ⟨p, l, e, R, s, m, args, below, meth, c, D, A, H0, nL, Q⟩ := X
  obtain ⟨hx, hb, hml, hown, hts, hK, hlocks, hr, hA, hnl, hfr, hlo, htr, hG, hGs, hH0⟩ := C
  intro H locs ls hP hD hS hl
  exact va_iast hx hb hK hP hD hS 11 1 rfl rfl hin hdg (fun H2 locs2 hP2 hD2 hS2 => kk H2 locs2 ls hP2 hD2 hS2 hl)
theorem Rg_hash (C : Cx X G T cc RX10 ret nl fr lo) (hdg : decode cc pc = .ok (.getfield 324, 3)) (kk : V X k n (wR a T c_m c_saved c_savedCount c_script c_scriptLength c_code c_lineParts c_lengths c_fractions c_pulseMany c_times c_energies c_far c_near c_echoes c_left c_dropped c_merged c_drops c_contributions c_packet c_peelResult c_peelTime c_peelSum c_at c_commands c_draft c_hash) lv (pc + 3) (.long c_hash :: rest)) : V X k n (wR a T c_m c_saved c_savedCount c_script c_scriptLength c_code c_lineParts c_lengths c_fractions c_pulseMany c_times c_energies c_far c_near c_echoes c_left c_dropped c_merged c_drops c_contributions c_packet c_peelResult c_peelTime c_peelSum c_at c_commands c_draft c_hash) lv pc (.ref (a 0) :: rest) := by
  obtain ⟨p, l, e, R, s, m, args, below, meth, c, D, A, H0, nL, Q⟩ := X
  obtain ⟨hx, hb, hml, hown, hts, hK, hlocks, hr, hA, hnl, hfr, hlo, htr, hG, hGs, hH0⟩ := C
  intro H locs ls hP hD hS hl
  exact va_get (D := D) (ci := 8) (C := RX10) (T := TX10) (N := 28) hx hb hts inG10 hown hK hP 0 rfl rfl 27 (by decide) (hts _ wfieldLink_RX10_324_LineEchoesModel_hash_J) (fun _ h9 => h9) rfl hdg (kk H locs ls hP hD hS hl)
theorem Rp_hash {z : Int64} (C : Cx X G T cc RX10 ret nl fr lo) (hdg : decode cc pc = .ok (.putfield 324, 3)) (kk : V X k n (wR a T c_m c_saved c_savedCount c_script c_scriptLength c_code c_lineParts c_lengths c_fractions c_pulseMany c_times c_energies c_far c_near c_echoes c_left c_dropped c_merged c_drops c_contributions c_packet c_peelResult c_peelTime c_peelSum c_at c_commands c_draft z) lv (pc + 3) rest) : V X k n (wR a T c_m c_saved c_savedCount c_script c_scriptLength c_code c_lineParts c_lengths c_fractions c_pulseMany c_times c_energies c_far c_near c_echoes c_left c_dropped c_merged c_drops c_contributions c_packet c_peelResult c_peelTime c_peelSum c_at c_commands c_draft c_hash) lv pc (.long z :: .ref (a 0) :: rest) := by
  obtain ⟨p, l, e, R, s, m, args, below, meth, c, D, A, H0, nL, Q⟩ := X
  obtain ⟨hx, hb, hml, hown, hts, hK, hlocks, hr, hA, hnl, hfr, hlo, htr, hG, hGs, hH0⟩ := C
  intro H locs ls hP hD hS hl
  exact va_put (D := D) (ci := 8) (C := RX10) (T := TX10) (N := 28) (ty := .long) hx hb hts inG10 tyX10 tyX10_ok nmX10 hown hK hP hD hS 0 rfl rfl 27 (by decide) (hts _ wfieldLink_RX10_324_LineEchoesModel_hash_J) (fun _ h9 => h9) rfl (by decide +kernel) rfl rfl (Nat.le_of_ble_eq_true rfl) hdg (fun H2 locs2 hP2 hD2 hS2 => kk H2 locs2 ls hP2 hD2 hS2 hl)
end RROWS
