section RM3
variable {X : CxT} {G : SG} {T : Nat → ClassId} {a : Nat → Nat} {w : va_W} {c_m : Nat → Int64} {c_saved : Nat → Int64} {c_savedCount : Int32} {c_script : Nat → Int32} {c_scriptLength : Int32} {c_code : Int32} {c_lineParts : Int32} {c_lengths : Nat → Int32} {c_fractions : Nat → Int32} {c_pulseMany : Int32} {c_times : Nat → Int32} {c_energies : Nat → Int64} {c_far : Nat → Int64} {c_near : Nat → Int64} {c_echoes : Nat → Int64} {c_left : Int64} {c_dropped : Int64} {c_merged : Int32} {c_drops : Int32} {c_contributions : Int32} {c_packet : Int64} {c_peelResult : Int32} {c_peelTime : Int32} {c_peelSum : Int32} {c_at : Int32} {c_commands : Int32} {c_draft : Nat → Int32} {c_hash : Int64}
def Rf_total_18 (c_m : Nat → Int64) (c_code : Int32) (c_lineParts : Int32) (c_lengths : Nat → Int32) (c_fractions : Nat → Int32) (c_pulseMany : Int32) (c_times : Nat → Int32) (c_energies : Nat → Int64) (c_far : Nat → Int64) (c_near : Nat → Int64) (c_echoes : Nat → Int64) (c_left : Int64) (c_dropped : Int64) (c_merged : Int32) (c_drops : Int32) (c_contributions : Int32) (c_packet : Int64) (x1 : Int32) (s1 : Int32) : Option (Int32 × Int32 × (Nat → Int32) × (Nat → Int32) × Int32 × (Nat → Int32) × (Nat → Int64) × (Nat → Int64) × (Nat → Int64) × (Nat → Int64) × Int64 × Int64 × Int32 × Int32 × Int32 × Int64 × Int64) :=
  if s1 = 0 then
    bd (Rf_runPresent c_m c_lineParts c_lengths c_fractions c_pulseMany c_times c_energies c_far c_near c_echoes c_left c_dropped c_merged c_drops c_contributions c_packet) fun (lineParts_31, lengths_31, fractions_31, pulseMany_31, times_31, energies_31, far_31, near_31, echoes_31, left_31, dropped_31, merged_31, drops_31, contributions_31, packet_31) =>
    bd (Rf_totalOf c_m lineParts_31 lengths_31 pulseMany_31 times_31 energies_31 far_31 near_31 echoes_31 left_31 dropped_31 merged_31 drops_31 x1) fun r36 =>
    some (s1, lineParts_31, lengths_31, fractions_31, pulseMany_31, times_31, energies_31, far_31, near_31, echoes_31, left_31, dropped_31, merged_31, drops_31, contributions_31, packet_31, r36)
  else
    some (s1, c_lineParts, c_lengths, c_fractions, c_pulseMany, c_times, c_energies, c_far, c_near, c_echoes, c_left, c_dropped, c_merged, c_drops, c_contributions, c_packet, (0 : Int64))
set_option maxRecDepth 100000 in
set_option maxHeartbeats 4000000 in
theorem Rb_total_18 (C : Cx X G T cX10_total RX10 (some .long) 2 5 117) {x1 : Int32} {s1 : Int32} {o_code : Int32} {o_lineParts : Int32} {o_lengths : Nat → Int32} {o_fractions : Nat → Int32} {o_pulseMany : Int32} {o_times : Nat → Int32} {o_energies : Nat → Int64} {o_far : Nat → Int64} {o_near : Nat → Int64} {o_echoes : Nat → Int64} {o_left : Int64} {o_dropped : Int64} {o_merged : Int32} {o_drops : Int32} {o_contributions : Int32} {o_packet : Int64} {r : Int64} (hret : RetOK X 0 0 (some (.long r)) (wR a T c_m c_saved c_savedCount c_script c_scriptLength o_code o_lineParts o_lengths o_fractions o_pulseMany o_times o_energies o_far o_near o_echoes o_left o_dropped o_merged o_drops o_contributions o_packet c_peelResult c_peelTime c_peelSum c_at c_commands c_draft c_hash)) (hf : Rf_total_18 c_m c_code c_lineParts c_lengths c_fractions c_pulseMany c_times c_energies c_far c_near c_echoes c_left c_dropped c_merged c_drops c_contributions c_packet x1 s1 = some (o_code, o_lineParts, o_lengths, o_fractions, o_pulseMany, o_times, o_energies, o_far, o_near, o_echoes, o_left, o_dropped, o_merged, o_drops, o_contributions, o_packet, r)) : V X 0 0 (wR a T c_m c_saved c_savedCount c_script c_scriptLength c_code c_lineParts c_lengths c_fractions c_pulseMany c_times c_energies c_far c_near c_echoes c_left c_dropped c_merged c_drops c_contributions c_packet c_peelResult c_peelTime c_peelSum c_at c_commands c_draft c_hash) [(0, .ref (a 0)), (1, .int x1)] 18 [.int s1, .ref (a 0)] := by
  unfold Rf_total_18 at hf
  refine Rp_code C dX10_total_18 ?_
  refine v_aload_n 0 C dX10_total_21 rfl rfl ?_
  refine Rg_code C dX10_total_22 ?_
  refine v_if_eq 30 C dX10_total_25 (by decide) hf (fun c hf => ?_) (fun c hf => ?_)
  · refine v_aload_n 0 C dX10_total_30 rfl rfl ?_
    refine Rc_runPresent C dX10_total_31 (by decide) (Nat.le_of_ble_eq_true rfl) hf (fun lineParts_31 lengths_31 fractions_31 pulseMany_31 times_31 energies_31 far_31 near_31 echoes_31 left_31 dropped_31 merged_31 drops_31 contributions_31 packet_31 hf => ?_)
    refine v_aload_n 0 C dX10_total_34 rfl rfl ?_
    refine v_iload_n 1 C dX10_total_35 rfl rfl ?_
    refine Rc_totalOf C dX10_total_36 (by decide) (Nat.le_of_ble_eq_true rfl) hf (fun r36 hf => ?_)
    cases hf
    exact v_lret C hret dX10_total_39
  · refine v_lconst (v := 0) C dX10_total_28 (by decide) ?_
    cases hf
    exact v_lret C hret dX10_total_29
def Rf_total (c_m : Nat → Int64) (c_code : Int32) (c_lineParts : Int32) (c_lengths : Nat → Int32) (c_fractions : Nat → Int32) (c_pulseMany : Int32) (c_times : Nat → Int32) (c_energies : Nat → Int64) (c_far : Nat → Int64) (c_near : Nat → Int64) (c_echoes : Nat → Int64) (c_left : Int64) (c_dropped : Int64) (c_merged : Int32) (c_drops : Int32) (c_contributions : Int32) (c_packet : Int64) (x1 : Int32) : Option (Int32 × Int32 × (Nat → Int32) × (Nat → Int32) × Int32 × (Nat → Int32) × (Nat → Int64) × (Nat → Int64) × (Nat → Int64) × (Nat → Int64) × Int64 × Int64 × Int32 × Int32 × Int32 × Int64 × Int64) :=
  nm (x1.toInt64) fun z2 =>
  bd (Rf_in z2 (0 : Int64) (8 : Int64)) fun r7 =>
  if r7 = 0 then
    Rf_total_18 c_m c_code c_lineParts c_lengths c_fractions c_pulseMany c_times c_energies c_far c_near c_echoes c_left c_dropped c_merged c_drops c_contributions c_packet x1 (1 : Int32)
  else
    Rf_total_18 c_m c_code c_lineParts c_lengths c_fractions c_pulseMany c_times c_energies c_far c_near c_echoes c_left c_dropped c_merged c_drops c_contributions c_packet x1 (0 : Int32)
set_option maxRecDepth 100000 in
set_option maxHeartbeats 4000000 in
theorem Rb_total (C : Cx X G T cX10_total RX10 (some .long) 2 5 117) {x1 : Int32} {o_code : Int32} {o_lineParts : Int32} {o_lengths : Nat → Int32} {o_fractions : Nat → Int32} {o_pulseMany : Int32} {o_times : Nat → Int32} {o_energies : Nat → Int64} {o_far : Nat → Int64} {o_near : Nat → Int64} {o_echoes : Nat → Int64} {o_left : Int64} {o_dropped : Int64} {o_merged : Int32} {o_drops : Int32} {o_contributions : Int32} {o_packet : Int64} {r : Int64} (hret : RetOK X 0 0 (some (.long r)) (wR a T c_m c_saved c_savedCount c_script c_scriptLength o_code o_lineParts o_lengths o_fractions o_pulseMany o_times o_energies o_far o_near o_echoes o_left o_dropped o_merged o_drops o_contributions o_packet c_peelResult c_peelTime c_peelSum c_at c_commands c_draft c_hash)) (hf : Rf_total c_m c_code c_lineParts c_lengths c_fractions c_pulseMany c_times c_energies c_far c_near c_echoes c_left c_dropped c_merged c_drops c_contributions c_packet x1 = some (o_code, o_lineParts, o_lengths, o_fractions, o_pulseMany, o_times, o_energies, o_far, o_near, o_echoes, o_left, o_dropped, o_merged, o_drops, o_contributions, o_packet, r)) : V X 0 0 (wR a T c_m c_saved c_savedCount c_script c_scriptLength c_code c_lineParts c_lengths c_fractions c_pulseMany c_times c_energies c_far c_near c_echoes c_left c_dropped c_merged c_drops c_contributions c_packet c_peelResult c_peelTime c_peelSum c_at c_commands c_draft c_hash) [(0, .ref (a 0)), (1, .int x1)] 0 [] := by
  unfold Rf_total at hf
  refine v_aload_n 0 C dX10_total_0 rfl rfl ?_
  refine v_iload_n 1 C dX10_total_1 rfl rfl ?_
  refine v_i2l C dX10_total_2 hf (fun z2 hf => ?_)
  refine v_lconst (v := 0) C dX10_total_3 (by decide) ?_
  refine v_ldc2 (v := 8) C wconstantLong_RX10_199_8 dX10_total_4 ?_
  refine Rc_in C dX10_total_7 (by decide) (Nat.le_of_ble_eq_true rfl) hf (fun r7 hf => ?_)
  refine v_if_eq 17 C dX10_total_10 (by decide) hf (fun c hf => ?_) (fun c hf => ?_)
  · refine v_iconst (v := 1) C dX10_total_17 (by decide) ?_
    exact Rb_total_18 C hret hf
  · refine v_iconst (v := 0) C dX10_total_13 (by decide) ?_
    refine v_goto 18 C dX10_total_14 (by decide) ?_
    exact Rb_total_18 C hret hf
set_option maxRecDepth 100000 in
set_option maxHeartbeats 4000000 in
theorem Rm_total {D : va_G} {x1 : Int32} {o_code : Int32} {o_lineParts : Int32} {o_lengths : Nat → Int32} {o_fractions : Nat → Int32} {o_pulseMany : Int32} {o_times : Nat → Int32} {o_energies : Nat → Int64} {o_far : Nat → Int64} {o_near : Nat → Int64} {o_echoes : Nat → Int64} {o_left : Int64} {o_dropped : Int64} {o_merged : Int32} {o_drops : Int32} {o_contributions : Int32} {o_packet : Int64} {r : Int64} (hf : Rf_total c_m c_code c_lineParts c_lengths c_fractions c_pulseMany c_times c_energies c_far c_near c_echoes c_left c_dropped c_merged c_drops c_contributions c_packet x1 = some (o_code, o_lineParts, o_lengths, o_fractions, o_pulseMany, o_times, o_energies, o_far, o_near, o_echoes, o_left, o_dropped, o_merged, o_drops, o_contributions, o_packet, r)) : MetM G yX10_total cX10_total 2 (some .long) { frames := 5, cells := 0, slots := 0, locals := 117 } D T [.ref (a 0), .int x1] (wR a T c_m c_saved c_savedCount c_script c_scriptLength c_code c_lineParts c_lengths c_fractions c_pulseMany c_times c_energies c_far c_near c_echoes c_left c_dropped c_merged c_drops c_contributions c_packet c_peelResult c_peelTime c_peelSum c_at c_commands c_draft c_hash) (some (.long r)) (wR a T c_m c_saved c_savedCount c_script c_scriptLength o_code o_lineParts o_lengths o_fractions o_pulseMany o_times o_energies o_far o_near o_echoes o_left o_dropped o_merged o_drops o_contributions o_packet c_peelResult c_peelTime c_peelSum c_at c_commands c_draft c_hash) :=
  MetM.of [(0, .ref (a 0)), (1, .int x1)] (by decide) (Nat.le_of_ble_eq_true rfl) rfl (fun X C hret => Rb_total C hret hf)
def Rf_arrival_38 (c_m : Nat → Int64) (c_code : Int32) (c_lineParts : Int32) (c_lengths : Nat → Int32) (c_fractions : Nat → Int32) (c_pulseMany : Int32) (c_times : Nat → Int32) (c_energies : Nat → Int64) (c_far : Nat → Int64) (c_near : Nat → Int64) (c_echoes : Nat → Int64) (c_left : Int64) (c_dropped : Int64) (c_merged : Int32) (c_drops : Int32) (c_contributions : Int32) (c_packet : Int64) (x1 : Int32) (x2 : Int32) (x3 : Int32) (s1 : Int32) : Option (Int32 × Int32 × (Nat → Int32) × (Nat → Int32) × Int32 × (Nat → Int32) × (Nat → Int64) × (Nat → Int64) × (Nat → Int64) × (Nat → Int64) × Int64 × Int64 × Int32 × Int32 × Int32 × Int64 × Int64) :=
  if s1 = 0 then
    bd (Rf_runPresent c_m c_lineParts c_lengths c_fractions c_pulseMany c_times c_energies c_far c_near c_echoes c_left c_dropped c_merged c_drops c_contributions c_packet) fun (lineParts_51, lengths_51, fractions_51, pulseMany_51, times_51, energies_51, far_51, near_51, echoes_51, left_51, dropped_51, merged_51, drops_51, contributions_51, packet_51) =>
    bd (Rf_arrives lineParts_51 lengths_51 far_51 near_51 x1 x2 x3) fun r58 =>
    some (s1, lineParts_51, lengths_51, fractions_51, pulseMany_51, times_51, energies_51, far_51, near_51, echoes_51, left_51, dropped_51, merged_51, drops_51, contributions_51, packet_51, r58)
  else
    some (s1, c_lineParts, c_lengths, c_fractions, c_pulseMany, c_times, c_energies, c_far, c_near, c_echoes, c_left, c_dropped, c_merged, c_drops, c_contributions, c_packet, (0 : Int64))
set_option maxRecDepth 100000 in
set_option maxHeartbeats 4000000 in
theorem Rb_arrival_38 (C : Cx X G T cX10_arrival RX10 (some .long) 4 5 117) {x1 : Int32} {x2 : Int32} {x3 : Int32} {s1 : Int32} {o_code : Int32} {o_lineParts : Int32} {o_lengths : Nat → Int32} {o_fractions : Nat → Int32} {o_pulseMany : Int32} {o_times : Nat → Int32} {o_energies : Nat → Int64} {o_far : Nat → Int64} {o_near : Nat → Int64} {o_echoes : Nat → Int64} {o_left : Int64} {o_dropped : Int64} {o_merged : Int32} {o_drops : Int32} {o_contributions : Int32} {o_packet : Int64} {r : Int64} (hret : RetOK X 0 0 (some (.long r)) (wR a T c_m c_saved c_savedCount c_script c_scriptLength o_code o_lineParts o_lengths o_fractions o_pulseMany o_times o_energies o_far o_near o_echoes o_left o_dropped o_merged o_drops o_contributions o_packet c_peelResult c_peelTime c_peelSum c_at c_commands c_draft c_hash)) (hf : Rf_arrival_38 c_m c_code c_lineParts c_lengths c_fractions c_pulseMany c_times c_energies c_far c_near c_echoes c_left c_dropped c_merged c_drops c_contributions c_packet x1 x2 x3 s1 = some (o_code, o_lineParts, o_lengths, o_fractions, o_pulseMany, o_times, o_energies, o_far, o_near, o_echoes, o_left, o_dropped, o_merged, o_drops, o_contributions, o_packet, r)) : V X 0 0 (wR a T c_m c_saved c_savedCount c_script c_scriptLength c_code c_lineParts c_lengths c_fractions c_pulseMany c_times c_energies c_far c_near c_echoes c_left c_dropped c_merged c_drops c_contributions c_packet c_peelResult c_peelTime c_peelSum c_at c_commands c_draft c_hash) [(0, .ref (a 0)), (1, .int x1), (2, .int x2), (3, .int x3)] 38 [.int s1, .ref (a 0)] := by
  unfold Rf_arrival_38 at hf
  refine Rp_code C dX10_arrival_38 ?_
  refine v_aload_n 0 C dX10_arrival_41 rfl rfl ?_
  refine Rg_code C dX10_arrival_42 ?_
  refine v_if_eq 50 C dX10_arrival_45 (by decide) hf (fun c hf => ?_) (fun c hf => ?_)
  · refine v_aload_n 0 C dX10_arrival_50 rfl rfl ?_
    refine Rc_runPresent C dX10_arrival_51 (by decide) (Nat.le_of_ble_eq_true rfl) hf (fun lineParts_51 lengths_51 fractions_51 pulseMany_51 times_51 energies_51 far_51 near_51 echoes_51 left_51 dropped_51 merged_51 drops_51 contributions_51 packet_51 hf => ?_)
    refine v_aload_n 0 C dX10_arrival_54 rfl rfl ?_
    refine v_iload_n 1 C dX10_arrival_55 rfl rfl ?_
    refine v_iload_n 2 C dX10_arrival_56 rfl rfl ?_
    refine v_iload_n 3 C dX10_arrival_57 rfl rfl ?_
    refine Rc_arrives C dX10_arrival_58 (by decide) (Nat.le_of_ble_eq_true rfl) hf (fun r58 hf => ?_)
    cases hf
    exact v_lret C hret dX10_arrival_61
  · refine v_lconst (v := 0) C dX10_arrival_48 (by decide) ?_
    cases hf
    exact v_lret C hret dX10_arrival_49
def Rf_arrival (c_m : Nat → Int64) (c_code : Int32) (c_lineParts : Int32) (c_lengths : Nat → Int32) (c_fractions : Nat → Int32) (c_pulseMany : Int32) (c_times : Nat → Int32) (c_energies : Nat → Int64) (c_far : Nat → Int64) (c_near : Nat → Int64) (c_echoes : Nat → Int64) (c_left : Int64) (c_dropped : Int64) (c_merged : Int32) (c_drops : Int32) (c_contributions : Int32) (c_packet : Int64) (x1 : Int32) (x2 : Int32) (x3 : Int32) : Option (Int32 × Int32 × (Nat → Int32) × (Nat → Int32) × Int32 × (Nat → Int32) × (Nat → Int64) × (Nat → Int64) × (Nat → Int64) × (Nat → Int64) × Int64 × Int64 × Int32 × Int32 × Int32 × Int64 × Int64) :=
  nm (x1.toInt64) fun z2 =>
  bd (Rf_parts c_m) fun r5 =>
  nm (r5.toInt64) fun z8 =>
  bd (Rf_in z2 (0 : Int64) z8) fun r9 =>
  if r9 = 0 then
    Rf_arrival_38 c_m c_code c_lineParts c_lengths c_fractions c_pulseMany c_times c_energies c_far c_near c_echoes c_left c_dropped c_merged c_drops c_contributions c_packet x1 x2 x3 (1 : Int32)
  else
    nm (x2.toInt64) fun z20 =>
    bd (Rf_window c_m) fun r23 =>
    nm (r23.toInt64) fun z26 =>
    bd (Rf_in z20 (0 : Int64) z26) fun r27 =>
    if r27 = 0 then
      Rf_arrival_38 c_m c_code c_lineParts c_lengths c_fractions c_pulseMany c_times c_energies c_far c_near c_echoes c_left c_dropped c_merged c_drops c_contributions c_packet x1 x2 x3 (2 : Int32)
    else
      Rf_arrival_38 c_m c_code c_lineParts c_lengths c_fractions c_pulseMany c_times c_energies c_far c_near c_echoes c_left c_dropped c_merged c_drops c_contributions c_packet x1 x2 x3 (0 : Int32)
set_option maxRecDepth 100000 in
set_option maxHeartbeats 4000000 in
theorem Rb_arrival (C : Cx X G T cX10_arrival RX10 (some .long) 4 5 117) {x1 : Int32} {x2 : Int32} {x3 : Int32} {o_code : Int32} {o_lineParts : Int32} {o_lengths : Nat → Int32} {o_fractions : Nat → Int32} {o_pulseMany : Int32} {o_times : Nat → Int32} {o_energies : Nat → Int64} {o_far : Nat → Int64} {o_near : Nat → Int64} {o_echoes : Nat → Int64} {o_left : Int64} {o_dropped : Int64} {o_merged : Int32} {o_drops : Int32} {o_contributions : Int32} {o_packet : Int64} {r : Int64} (hret : RetOK X 0 0 (some (.long r)) (wR a T c_m c_saved c_savedCount c_script c_scriptLength o_code o_lineParts o_lengths o_fractions o_pulseMany o_times o_energies o_far o_near o_echoes o_left o_dropped o_merged o_drops o_contributions o_packet c_peelResult c_peelTime c_peelSum c_at c_commands c_draft c_hash)) (hf : Rf_arrival c_m c_code c_lineParts c_lengths c_fractions c_pulseMany c_times c_energies c_far c_near c_echoes c_left c_dropped c_merged c_drops c_contributions c_packet x1 x2 x3 = some (o_code, o_lineParts, o_lengths, o_fractions, o_pulseMany, o_times, o_energies, o_far, o_near, o_echoes, o_left, o_dropped, o_merged, o_drops, o_contributions, o_packet, r)) : V X 0 0 (wR a T c_m c_saved c_savedCount c_script c_scriptLength c_code c_lineParts c_lengths c_fractions c_pulseMany c_times c_energies c_far c_near c_echoes c_left c_dropped c_merged c_drops c_contributions c_packet c_peelResult c_peelTime c_peelSum c_at c_commands c_draft c_hash) [(0, .ref (a 0)), (1, .int x1), (2, .int x2), (3, .int x3)] 0 [] := by
  unfold Rf_arrival at hf
  refine v_aload_n 0 C dX10_arrival_0 rfl rfl ?_
  refine v_iload_n 1 C dX10_arrival_1 rfl rfl ?_
  refine v_i2l C dX10_arrival_2 hf (fun z2 hf => ?_)
  refine v_lconst (v := 0) C dX10_arrival_3 (by decide) ?_
  refine v_aload_n 0 C dX10_arrival_4 rfl rfl ?_
  refine Rc_parts C dX10_arrival_5 (by decide) (Nat.le_of_ble_eq_true rfl) hf (fun r5 hf => ?_)
  refine v_i2l C dX10_arrival_8 hf (fun z8 hf => ?_)
  refine Rc_in C dX10_arrival_9 (by decide) (Nat.le_of_ble_eq_true rfl) hf (fun r9 hf => ?_)
  refine v_if_ne 19 C dX10_arrival_12 (by decide) hf (fun c hf => ?_) (fun c hf => ?_)
  · refine v_iconst (v := 1) C dX10_arrival_15 (by decide) ?_
    refine v_goto 38 C dX10_arrival_16 (by decide) ?_
    exact Rb_arrival_38 C hret hf
  · refine v_iload_n 2 C dX10_arrival_19 rfl rfl ?_
    refine v_i2l C dX10_arrival_20 hf (fun z20 hf => ?_)
    refine v_lconst (v := 0) C dX10_arrival_21 (by decide) ?_
    refine v_aload_n 0 C dX10_arrival_22 rfl rfl ?_
    refine Rc_window C dX10_arrival_23 (by decide) (Nat.le_of_ble_eq_true rfl) hf (fun r23 hf => ?_)
    refine v_i2l C dX10_arrival_26 hf (fun z26 hf => ?_)
    refine Rc_in C dX10_arrival_27 (by decide) (Nat.le_of_ble_eq_true rfl) hf (fun r27 hf => ?_)
    refine v_if_eq 37 C dX10_arrival_30 (by decide) hf (fun c hf => ?_) (fun c hf => ?_)
    · refine v_iconst (v := 2) C dX10_arrival_37 (by decide) ?_
      exact Rb_arrival_38 C hret hf
    · refine v_iconst (v := 0) C dX10_arrival_33 (by decide) ?_
      refine v_goto 38 C dX10_arrival_34 (by decide) ?_
      exact Rb_arrival_38 C hret hf
set_option maxRecDepth 100000 in
set_option maxHeartbeats 4000000 in
theorem Rm_arrival {D : va_G} {x1 : Int32} {x2 : Int32} {x3 : Int32} {o_code : Int32} {o_lineParts : Int32} {o_lengths : Nat → Int32} {o_fractions : Nat → Int32} {o_pulseMany : Int32} {o_times : Nat → Int32} {o_energies : Nat → Int64} {o_far : Nat → Int64} {o_near : Nat → Int64} {o_echoes : Nat → Int64} {o_left : Int64} {o_dropped : Int64} {o_merged : Int32} {o_drops : Int32} {o_contributions : Int32} {o_packet : Int64} {r : Int64} (hf : Rf_arrival c_m c_code c_lineParts c_lengths c_fractions c_pulseMany c_times c_energies c_far c_near c_echoes c_left c_dropped c_merged c_drops c_contributions c_packet x1 x2 x3 = some (o_code, o_lineParts, o_lengths, o_fractions, o_pulseMany, o_times, o_energies, o_far, o_near, o_echoes, o_left, o_dropped, o_merged, o_drops, o_contributions, o_packet, r)) : MetM G yX10_arrival cX10_arrival 4 (some .long) { frames := 5, cells := 0, slots := 0, locals := 117 } D T [.ref (a 0), .int x1, .int x2, .int x3] (wR a T c_m c_saved c_savedCount c_script c_scriptLength c_code c_lineParts c_lengths c_fractions c_pulseMany c_times c_energies c_far c_near c_echoes c_left c_dropped c_merged c_drops c_contributions c_packet c_peelResult c_peelTime c_peelSum c_at c_commands c_draft c_hash) (some (.long r)) (wR a T c_m c_saved c_savedCount c_script c_scriptLength o_code o_lineParts o_lengths o_fractions o_pulseMany o_times o_energies o_far o_near o_echoes o_left o_dropped o_merged o_drops o_contributions o_packet c_peelResult c_peelTime c_peelSum c_at c_commands c_draft c_hash) :=
  MetM.of [(0, .ref (a 0)), (1, .int x1), (2, .int x2), (3, .int x3)] (by decide) (Nat.le_of_ble_eq_true rfl) rfl (fun X C hret => Rb_arrival C hret hf)
def Rl_digits_8  : Nat → Int32 → Int64 → Option Int32
  | 0, _, _ => none
  | n + 1, x2, x3 =>
    if x3 ≤ (0 : Int64) then
      some x2
    else
      nm (x2 + (1 : Int32)) fun x2_14 =>
      chk (¬ (10 : Int64) = 0) <| nm (x3 / (10 : Int64)) fun z21 =>
      Rl_digits_8 n x2_14 z21
set_option maxRecDepth 100000 in
set_option maxHeartbeats 4000000 in
theorem Rk_digits_8 (C : Cx X G T cX10_digits RX10 (some .int) 5 0 0)  {y2 : Int32} (hk : V X 0 0 w [(2, .int y2)] 26 []) : ∀ (n : Nat) (x2 : Int32) (x3 : Int64), Rl_digits_8  n x2 x3 = some y2 → V X 0 0 w [(2, .int x2), (3, .long x3)] 8 [] := by
  intro n
  induction n with
  | zero =>
    intro _ _ hf
    cases hf
  | succ n hrec =>
    intro x2 x3 hf
    rw [Rl_digits_8] at hf
    refine v_lload_n 1 C dX10_digits_8 rfl rfl ?_
    refine v_lconst (v := 0) C dX10_digits_9 (by decide) ?_
    refine v_lcmp_le 26 C dX10_digits_10 dX10_digits_11 (by decide) hf (fun c hf => ?_) (fun c hf => ?_)
    · refine v_lv [(2, .int x2)] [0] rfl ?_
      cases hf
      exact hk
    · refine v_iinc (fun x2_14 => [(2, .int x2_14), (3, .long x3)]) [0, 1] C dX10_digits_14 (j := 0) rfl (dv := 1) (by decide) (by decide) (fun _ => rfl) hf (fun x2_14 hf => ?_)
      refine v_lload_n 1 C dX10_digits_17 rfl rfl ?_
      refine v_ldc2 (v := 10) C wconstantLong_RX10_205_10 dX10_digits_18 ?_
      refine v_ldiv C dX10_digits_21 hf (fun z21 hf => ?_)
      refine v_lstore_n [(2, .int x2_14), (3, .long z21)] [1, 0] C dX10_digits_22 rfl (by decide) rfl ?_
      refine v_goto 8 C dX10_digits_23 (by decide) ?_
      exact hrec _ _ hf
def Rf_digits (x0 : Int64) : Option Int32 :=
  chk (¬ (10 : Int64) = 0) <| nm (x0 / (10 : Int64)) fun z6 =>
  bd (Rl_digits_8 FUEL (1 : Int32) z6) fun y2_8 =>
  some y2_8
set_option maxRecDepth 100000 in
set_option maxHeartbeats 4000000 in
theorem Rb_digits (C : Cx X G T cX10_digits RX10 (some .int) 5 0 0) {x0 : Int64} {r : Int32} (hret : RetOK X 0 0 (some (.int r)) w) (hf : Rf_digits x0 = some r) : V X 0 0 w [(0, .long x0)] 0 [] := by
  unfold Rf_digits at hf
  refine v_iconst (v := 1) C dX10_digits_0 (by decide) ?_
  refine v_istore_n [(0, .long x0), (2, .int (1 : Int32))] [1, 0] C dX10_digits_1 rfl (by decide) rfl ?_
  refine v_lload_n 0 C dX10_digits_2 rfl rfl ?_
  refine v_ldc2 (v := 10) C wconstantLong_RX10_205_10 dX10_digits_3 ?_
  refine v_ldiv C dX10_digits_6 hf (fun z6 hf => ?_)
  refine v_lstore_n [(2, .int (1 : Int32)), (3, .long z6)] [2, 0] C dX10_digits_7 rfl (by decide) rfl ?_
  obtain ⟨y2_8, hc, hf⟩ := bd_some hf
  refine Rk_digits_8 C ?_ _ _ _ hc
  refine v_iload_n 0 C dX10_digits_26 rfl rfl ?_
  cases hf
  exact v_iret C hret dX10_digits_27
set_option maxRecDepth 100000 in
set_option maxHeartbeats 4000000 in
theorem Rm_digits {D : va_G} {x0 : Int64} {r : Int32} (hf : Rf_digits x0 = some r) : MetM G yX10_digits cX10_digits 5 (some .int) { frames := 0, cells := 0, slots := 0, locals := 0 } D T [.long x0] w (some (.int r)) w :=
  MetM.of [(0, .long x0)] (by decide) (Nat.le_of_ble_eq_true rfl) rfl (fun X C hret => Rb_digits C hret hf)
set_option maxRecDepth 100000 in
theorem Rc_digits {x0 : Int64} {cc : ByteArray} {ret : Option FieldType} {nl fr lo pc : Nat} {lv : List (Nat × Value)} {rest : List Value} {β : Type} {K : Int32 → Option β} {oo : β} (C : Cx X G T cc RX10 ret nl fr lo) (hdg : decode cc pc = .ok (.invokestatic 207, 3)) (hroom : 0 + 1 ≤ fr ∧ 8 + (5 + 11) + 0 ≤ lo) (hst : (rest.map fun v => v.category).sum ≤ 8) (hf : bd (Rf_digits x0) K = some oo) (kk : ∀ (r : Int32), K r = some oo → V X 0 0 w lv (pc + 3) (.int r :: rest)) : V X 0 0 w lv pc (.long x0 :: rest) := by
  obtain ⟨r, hc, hk⟩ := bd_some hf
  exact v_callS (As := [.long x0]) (rest := rest) 1 C (CapOK.z X) (fun D => Rm_digits hc) (goodS wmethodLink_RX10_207_yX10_digits wstatic_yX10_digits winitialized_RX10 wcode_yX10_digits_cX10_digits_5_some_int) (by decide +kernel) hroom ⟨rfl, rfl⟩ rfl hst hdg (kk r hk)
def Rl_digitOf_10 (x2 : Int32) : Nat → Int64 → Int32 → Option Int64
  | 0, _, _ => none
  | n + 1, x3, x5 =>
    if x5 ≤ x2 then
      some x3
    else
      chk (¬ (10 : Int64) = 0) <| nm (x3 / (10 : Int64)) fun z20 =>
      nm (x5 + (-1 : Int32)) fun x5_22 =>
      Rl_digitOf_10 x2 n z20 x5_22
set_option maxRecDepth 100000 in
set_option maxHeartbeats 4000000 in
theorem Rk_digitOf_10 (C : Cx X G T cX10_digitOf RX10 (some .int) 6 1 24) {x2 : Int32} {y3 : Int64} (hk : V X 0 0 w [(3, .long y3)] 28 []) : ∀ (n : Nat) (x3 : Int64) (x5 : Int32), Rl_digitOf_10 x2 n x3 x5 = some y3 → V X 0 0 w [(2, .int x2), (3, .long x3), (5, .int x5)] 10 [] := by
  intro n
  induction n with
  | zero =>
    intro _ _ hf
    cases hf
  | succ n hrec =>
    intro x3 x5 hf
    rw [Rl_digitOf_10] at hf
    refine v_iload 2 C dX10_digitOf_10 rfl ?_
    refine v_iload_n 0 C dX10_digitOf_12 rfl rfl ?_
    refine v_icmp_le 28 C dX10_digitOf_13 (by decide) hf (fun c hf => ?_) (fun c hf => ?_)
    · refine v_lv [(3, .long x3)] [1] rfl ?_
      cases hf
      exact hk
    · refine v_lload_n 1 C dX10_digitOf_16 rfl rfl ?_
      refine v_ldc2 (v := 10) C wconstantLong_RX10_205_10 dX10_digitOf_17 ?_
      refine v_ldiv C dX10_digitOf_20 hf (fun z20 hf => ?_)
      refine v_lstore_n [(2, .int x2), (3, .long z20), (5, .int x5)] [1, 0, 2] C dX10_digitOf_21 rfl (by decide) rfl ?_
      refine v_iinc (fun x5_22 => [(2, .int x2), (3, .long z20), (5, .int x5_22)]) [1, 2, 0] C dX10_digitOf_22 (j := 2) rfl (dv := -1) (by decide) (by decide) (fun _ => rfl) hf (fun x5_22 hf => ?_)
      refine v_goto 10 C dX10_digitOf_25 (by decide) ?_
      exact hrec _ _ hf
def Rf_digitOf (x0 : Int64) (x2 : Int32) : Option Int32 :=
  bd (Rf_digits x0) fun r3 =>
  nm (r3 - (1 : Int32)) fun z7 =>
  bd (Rl_digitOf_10 x2 FUEL x0 z7) fun y3_10 =>
  chk (¬ (10 : Int64) = 0) <| nm (y3_10 - y3_10 / (10 : Int64) * (10 : Int64)) fun z32 =>
  nm (z32.toInt32) fun z33 =>
  nm (z33 + (48 : Int32)) fun z36 =>
  some z36
set_option maxRecDepth 100000 in
set_option maxHeartbeats 4000000 in
theorem Rb_digitOf (C : Cx X G T cX10_digitOf RX10 (some .int) 6 1 24) {x0 : Int64} {x2 : Int32} {r : Int32} (hret : RetOK X 0 0 (some (.int r)) w) (hf : Rf_digitOf x0 x2 = some r) : V X 0 0 w [(0, .long x0), (2, .int x2)] 0 [] := by
  unfold Rf_digitOf at hf
  refine v_lload_n 0 C dX10_digitOf_0 rfl rfl ?_
  refine v_lstore_n [(0, .long x0), (2, .int x2), (3, .long x0)] [1, 2, 0] C dX10_digitOf_1 rfl (by decide) rfl ?_
  refine v_lload_n 0 C dX10_digitOf_2 rfl rfl ?_
  refine Rc_digits C dX10_digitOf_3 (by decide) (Nat.le_of_ble_eq_true rfl) hf (fun r3 hf => ?_)
  refine v_iconst (v := 1) C dX10_digitOf_6 (by decide) ?_
  refine v_isub C dX10_digitOf_7 hf (fun z7 hf => ?_)
  refine v_istore [(2, .int x2), (3, .long x0), (5, .int z7)] [2, 3, 0] C dX10_digitOf_8 (by decide) rfl ?_
  obtain ⟨y3_10, hc, hf⟩ := bd_some hf
  refine Rk_digitOf_10 C ?_ _ _ _ hc
  refine v_lload_n 0 C dX10_digitOf_28 rfl rfl ?_
  refine v_ldc2 (v := 10) C wconstantLong_RX10_205_10 dX10_digitOf_29 ?_
  refine v_lrem C dX10_digitOf_32 hf (fun z32 hf => ?_)
  refine v_l2i C dX10_digitOf_33 hf (fun z33 hf => ?_)
  refine v_bipush (v := 48) C dX10_digitOf_34 (by decide) ?_
  refine v_iadd C dX10_digitOf_36 hf (fun z36 hf => ?_)
  cases hf
  exact v_iret C hret dX10_digitOf_37
set_option maxRecDepth 100000 in
set_option maxHeartbeats 4000000 in
theorem Rm_digitOf {D : va_G} {x0 : Int64} {x2 : Int32} {r : Int32} (hf : Rf_digitOf x0 x2 = some r) : MetM G yX10_digitOf cX10_digitOf 6 (some .int) { frames := 1, cells := 0, slots := 0, locals := 24 } D T [.long x0, .int x2] w (some (.int r)) w :=
  MetM.of [(0, .long x0), (2, .int x2)] (by decide) (Nat.le_of_ble_eq_true rfl) rfl (fun X C hret => Rb_digitOf C hret hf)
set_option maxRecDepth 100000 in
theorem Rc_digitOf {x0 : Int64} {x2 : Int32} {cc : ByteArray} {ret : Option FieldType} {nl fr lo pc : Nat} {lv : List (Nat × Value)} {rest : List Value} {β : Type} {K : Int32 → Option β} {oo : β} (C : Cx X G T cc RX10 ret nl fr lo) (hdg : decode cc pc = .ok (.invokestatic 211, 3)) (hroom : 1 + 1 ≤ fr ∧ 8 + (6 + 11) + 24 ≤ lo) (hst : (rest.map fun v => v.category).sum ≤ 8) (hf : bd (Rf_digitOf x0 x2) K = some oo) (kk : ∀ (r : Int32), K r = some oo → V X 0 0 w lv (pc + 3) (.int r :: rest)) : V X 0 0 w lv pc (.int x2 :: .long x0 :: rest) := by
  obtain ⟨r, hc, hk⟩ := bd_some hf
  exact v_callS (As := [.long x0, .int x2]) (rest := rest) 2 C (CapOK.z X) (fun D => Rm_digitOf hc) (goodS wmethodLink_RX10_211_yX10_digitOf wstatic_yX10_digitOf winitialized_RX10 wcode_yX10_digitOf_cX10_digitOf_6_some_int) (by decide +kernel) hroom ⟨rfl, rfl⟩ rfl hst hdg (kk r hk)
def Rf_echoByte_139 (rec : Int32 → Int32 → Option ((Int32 × Int32) ⊕ (Unit ⊕ ((Int32 × Int32 × Int32) ⊕ (Unit ⊕ Unit))))) (x2 : Int32) (x3 : Int32) : Option ((Int32 × Int32) ⊕ (Unit ⊕ ((Int32 × Int32 × Int32) ⊕ (Unit ⊕ Unit)))) :=
  nm (x3 + (1 : Int32)) fun x3_139 =>
  rec x2 x3_139
set_option maxRecDepth 100000 in
set_option maxHeartbeats 4000000 in
theorem Rb_echoByte_139 (C : Cx X G T cX10_echoByte RX10 (some .int) 6 5 117) {rec : Int32 → Int32 → Option ((Int32 × Int32) ⊕ (Unit ⊕ ((Int32 × Int32 × Int32) ⊕ (Unit ⊕ Unit))))} {x2 : Int32} {x3 : Int32} {o : ((Int32 × Int32) ⊕ (Unit ⊕ ((Int32 × Int32 × Int32) ⊕ (Unit ⊕ Unit))))} (hrec : ∀ (x2 : Int32) (x3 : Int32), rec x2 x3 = some o → V X 0 0 (wR a T c_m c_saved c_savedCount c_script c_scriptLength c_code c_lineParts c_lengths c_fractions c_pulseMany c_times c_energies c_far c_near c_echoes c_left c_dropped c_merged c_drops c_contributions c_packet c_peelResult c_peelTime c_peelSum c_at c_commands c_draft c_hash) [(0, .ref (a 0)), (2, .int x2), (3, .int x3)] 30 []) (hk0 : ∀ (y2 : Int32) (y3 : Int32), o = .inl (y2, y3) → V X 0 0 (wR a T c_m c_saved c_savedCount c_script c_scriptLength c_code c_lineParts c_lengths c_fractions c_pulseMany c_times c_energies c_far c_near c_echoes c_left c_dropped c_merged c_drops c_contributions c_packet c_peelResult c_peelTime c_peelSum c_at c_commands c_draft c_hash) [(2, .int y2), (3, .int y3)] 72 []) (hk1 :  o = .inr (.inl ()) → V X 0 0 (wR a T c_m c_saved c_savedCount c_script c_scriptLength c_code c_lineParts c_lengths c_fractions c_pulseMany c_times c_energies c_far c_near c_echoes c_left c_dropped c_merged c_drops c_contributions c_packet c_peelResult c_peelTime c_peelSum c_at c_commands c_draft c_hash) [] 85 []) (hk2 : ∀ (y2 : Int32) (y3 : Int32) (y4 : Int32), o = .inr (.inr (.inl (y2, y3, y4))) → V X 0 0 (wR a T c_m c_saved c_savedCount c_script c_scriptLength c_code c_lineParts c_lengths c_fractions c_pulseMany c_times c_energies c_far c_near c_echoes c_left c_dropped c_merged c_drops c_contributions c_packet c_peelResult c_peelTime c_peelSum c_at c_commands c_draft c_hash) [(0, .ref (a 0)), (2, .int y2), (3, .int y3), (4, .int y4)] 99 []) (hk3 :  o = .inr (.inr (.inr (.inl ()))) → V X 0 0 (wR a T c_m c_saved c_savedCount c_script c_scriptLength c_code c_lineParts c_lengths c_fractions c_pulseMany c_times c_energies c_far c_near c_echoes c_left c_dropped c_merged c_drops c_contributions c_packet c_peelResult c_peelTime c_peelSum c_at c_commands c_draft c_hash) [] 126 []) (hk4 :  o = .inr (.inr (.inr (.inr ()))) → V X 0 0 (wR a T c_m c_saved c_savedCount c_script c_scriptLength c_code c_lineParts c_lengths c_fractions c_pulseMany c_times c_energies c_far c_near c_echoes c_left c_dropped c_merged c_drops c_contributions c_packet c_peelResult c_peelTime c_peelSum c_at c_commands c_draft c_hash) [] 145 []) (hf : Rf_echoByte_139 rec x2 x3 = some o) : V X 0 0 (wR a T c_m c_saved c_savedCount c_script c_scriptLength c_code c_lineParts c_lengths c_fractions c_pulseMany c_times c_energies c_far c_near c_echoes c_left c_dropped c_merged c_drops c_contributions c_packet c_peelResult c_peelTime c_peelSum c_at c_commands c_draft c_hash) [(0, .ref (a 0)), (2, .int x2), (3, .int x3)] 139 [] := by
  unfold Rf_echoByte_139 at hf
  refine v_iinc (fun x3_139 => [(0, .ref (a 0)), (2, .int x2), (3, .int x3_139)]) [1, 2, 0] C dX10_echoByte_139 (j := 2) rfl (dv := 1) (by decide) (by decide) (fun _ => rfl) hf (fun x3_139 hf => ?_)
  refine v_goto 30 C dX10_echoByte_142 (by decide) ?_
  exact hrec _ _ hf
def Rl_echoByte_30 (c_echoes : Nat → Int64) : Nat → Int32 → Int32 → Option ((Int32 × Int32) ⊕ (Unit ⊕ ((Int32 × Int32 × Int32) ⊕ (Unit ⊕ Unit))))
  | 0, _, _ => none
  | n + 1, x2, x3 =>
    if (201 : Int32) ≤ x3 then
      some (.inr (.inr (.inr (.inr ()))))
    else
      chk (inb x3 201) <| nm (c_echoes x3.toNatClampNeg) fun z42 =>
      if z42 ≤ (0 : Int64) then
        Rf_echoByte_139 (Rl_echoByte_30 c_echoes n) x2 x3
      else
        nm (x3.toInt64) fun z49 =>
        bd (Rf_digits z49) fun r50 =>
        chk (inb x3 201) <| nm (c_echoes x3.toNatClampNeg) fun z60 =>
        bd (Rf_digits z60) fun r61 =>
        if r50 ≤ x2 then
          if x2 = r50 then
            some (.inr (.inl ()))
          else
            nm (r50 + (1 : Int32)) fun z92 =>
            nm (z92 + r61) fun z95 =>
            if z95 ≤ x2 then
              nm (r50 + (1 : Int32)) fun z119 =>
              nm (z119 + r61) fun z122 =>
              if x2 = z122 then
                some (.inr (.inr (.inr (.inl ()))))
              else
                nm (r50 + r61) fun z134 =>
                nm (z134 + (2 : Int32)) fun z136 =>
                nm (x2 - z136) fun z137 =>
                Rf_echoByte_139 (Rl_echoByte_30 c_echoes n) z137 x3
            else
              some (.inr (.inr (.inl (x2, x3, r50))))
        else
          some (.inl (x2, x3))
set_option maxRecDepth 100000 in
set_option maxHeartbeats 4000000 in
theorem Rk_echoByte_30 (C : Cx X G T cX10_echoByte RX10 (some .int) 6 5 117)  {o : ((Int32 × Int32) ⊕ (Unit ⊕ ((Int32 × Int32 × Int32) ⊕ (Unit ⊕ Unit))))} (hk0 : ∀ (y2 : Int32) (y3 : Int32), o = .inl (y2, y3) → V X 0 0 (wR a T c_m c_saved c_savedCount c_script c_scriptLength c_code c_lineParts c_lengths c_fractions c_pulseMany c_times c_energies c_far c_near c_echoes c_left c_dropped c_merged c_drops c_contributions c_packet c_peelResult c_peelTime c_peelSum c_at c_commands c_draft c_hash) [(2, .int y2), (3, .int y3)] 72 []) (hk1 :  o = .inr (.inl ()) → V X 0 0 (wR a T c_m c_saved c_savedCount c_script c_scriptLength c_code c_lineParts c_lengths c_fractions c_pulseMany c_times c_energies c_far c_near c_echoes c_left c_dropped c_merged c_drops c_contributions c_packet c_peelResult c_peelTime c_peelSum c_at c_commands c_draft c_hash) [] 85 []) (hk2 : ∀ (y2 : Int32) (y3 : Int32) (y4 : Int32), o = .inr (.inr (.inl (y2, y3, y4))) → V X 0 0 (wR a T c_m c_saved c_savedCount c_script c_scriptLength c_code c_lineParts c_lengths c_fractions c_pulseMany c_times c_energies c_far c_near c_echoes c_left c_dropped c_merged c_drops c_contributions c_packet c_peelResult c_peelTime c_peelSum c_at c_commands c_draft c_hash) [(0, .ref (a 0)), (2, .int y2), (3, .int y3), (4, .int y4)] 99 []) (hk3 :  o = .inr (.inr (.inr (.inl ()))) → V X 0 0 (wR a T c_m c_saved c_savedCount c_script c_scriptLength c_code c_lineParts c_lengths c_fractions c_pulseMany c_times c_energies c_far c_near c_echoes c_left c_dropped c_merged c_drops c_contributions c_packet c_peelResult c_peelTime c_peelSum c_at c_commands c_draft c_hash) [] 126 []) (hk4 :  o = .inr (.inr (.inr (.inr ()))) → V X 0 0 (wR a T c_m c_saved c_savedCount c_script c_scriptLength c_code c_lineParts c_lengths c_fractions c_pulseMany c_times c_energies c_far c_near c_echoes c_left c_dropped c_merged c_drops c_contributions c_packet c_peelResult c_peelTime c_peelSum c_at c_commands c_draft c_hash) [] 145 []) : ∀ (n : Nat) (x2 : Int32) (x3 : Int32), Rl_echoByte_30 c_echoes n x2 x3 = some o → V X 0 0 (wR a T c_m c_saved c_savedCount c_script c_scriptLength c_code c_lineParts c_lengths c_fractions c_pulseMany c_times c_energies c_far c_near c_echoes c_left c_dropped c_merged c_drops c_contributions c_packet c_peelResult c_peelTime c_peelSum c_at c_commands c_draft c_hash) [(0, .ref (a 0)), (2, .int x2), (3, .int x3)] 30 [] := by
  intro n
  induction n with
  | zero =>
    intro _ _ hf
    cases hf
  | succ n hrec =>
    intro x2 x3 hf
    rw [Rl_echoByte_30] at hf
    refine v_iload_n 2 C dX10_echoByte_30 rfl rfl ?_
    refine v_sipush (v := 201) C dX10_echoByte_31 (by decide) ?_
    refine v_icmp_ge 145 C dX10_echoByte_34 (by decide) hf (fun c hf => ?_) (fun c hf => ?_)
    · refine v_lv [] [] rfl ?_
      cases hf
      exact hk4  rfl
    · refine v_aload_n 0 C dX10_echoByte_37 rfl rfl ?_
      refine Rg_echoes C dX10_echoByte_38 ?_
      refine v_iload_n 2 C dX10_echoByte_41 rfl rfl ?_
      refine Ral_echoes C dX10_echoByte_42 hf (fun z42 hf => ?_)
      refine v_lconst (v := 0) C dX10_echoByte_43 (by decide) ?_
      refine v_lcmp_le 139 C dX10_echoByte_44 dX10_echoByte_45 (by decide) hf (fun c hf => ?_) (fun c hf => ?_)
      · exact Rb_echoByte_139 C hrec hk0 hk1 hk2 hk3 hk4 hf
      · refine v_iload_n 2 C dX10_echoByte_48 rfl rfl ?_
        refine v_i2l C dX10_echoByte_49 hf (fun z49 hf => ?_)
        refine Rc_digits C dX10_echoByte_50 (by decide) (Nat.le_of_ble_eq_true rfl) hf (fun r50 hf => ?_)
        refine v_istore [(0, .ref (a 0)), (2, .int x2), (3, .int x3), (4, .int r50)] [1, 2, 3, 0] C dX10_echoByte_53 (by decide) rfl ?_
        refine v_aload_n 0 C dX10_echoByte_55 rfl rfl ?_
        refine Rg_echoes C dX10_echoByte_56 ?_
        refine v_iload_n 2 C dX10_echoByte_59 rfl rfl ?_
        refine Ral_echoes C dX10_echoByte_60 hf (fun z60 hf => ?_)
        refine Rc_digits C dX10_echoByte_61 (by decide) (Nat.le_of_ble_eq_true rfl) hf (fun r61 hf => ?_)
        refine v_istore [(0, .ref (a 0)), (2, .int x2), (3, .int x3), (4, .int r50), (5, .int r61)] [1, 2, 3, 4, 0] C dX10_echoByte_64 (by decide) rfl ?_
        refine v_iload_n 1 C dX10_echoByte_66 rfl rfl ?_
        refine v_iload 3 C dX10_echoByte_67 rfl ?_
        refine v_icmp_ge 79 C dX10_echoByte_69 (by decide) hf (fun c hf => ?_) (fun c hf => ?_)
        · refine v_iload_n 1 C dX10_echoByte_79 rfl rfl ?_
          refine v_iload 3 C dX10_echoByte_80 rfl ?_
          refine v_icmp_ne 88 C dX10_echoByte_82 (by decide) hf (fun c hf => ?_) (fun c hf => ?_)
          · refine v_lv [] [] rfl ?_
            cases hf
            exact hk1  rfl
          · refine v_iload_n 1 C dX10_echoByte_88 rfl rfl ?_
            refine v_iload 3 C dX10_echoByte_89 rfl ?_
            refine v_iconst (v := 1) C dX10_echoByte_91 (by decide) ?_
            refine v_iadd C dX10_echoByte_92 hf (fun z92 hf => ?_)
            refine v_iload 4 C dX10_echoByte_93 rfl ?_
            refine v_iadd C dX10_echoByte_95 hf (fun z95 hf => ?_)
            refine v_icmp_ge 115 C dX10_echoByte_96 (by decide) hf (fun c hf => ?_) (fun c hf => ?_)
            · refine v_iload_n 1 C dX10_echoByte_115 rfl rfl ?_
              refine v_iload 3 C dX10_echoByte_116 rfl ?_
              refine v_iconst (v := 1) C dX10_echoByte_118 (by decide) ?_
              refine v_iadd C dX10_echoByte_119 hf (fun z119 hf => ?_)
              refine v_iload 4 C dX10_echoByte_120 rfl ?_
              refine v_iadd C dX10_echoByte_122 hf (fun z122 hf => ?_)
              refine v_icmp_ne 129 C dX10_echoByte_123 (by decide) hf (fun c hf => ?_) (fun c hf => ?_)
              · refine v_lv [] [] rfl ?_
                cases hf
                exact hk3  rfl
              · refine v_iload_n 1 C dX10_echoByte_129 rfl rfl ?_
                refine v_iload 3 C dX10_echoByte_130 rfl ?_
                refine v_iload 4 C dX10_echoByte_132 rfl ?_
                refine v_iadd C dX10_echoByte_134 hf (fun z134 hf => ?_)
                refine v_iconst (v := 2) C dX10_echoByte_135 (by decide) ?_
                refine v_iadd C dX10_echoByte_136 hf (fun z136 hf => ?_)
                refine v_isub C dX10_echoByte_137 hf (fun z137 hf => ?_)
                refine v_istore_n [(0, .ref (a 0)), (2, .int z137), (3, .int x3)] [1, 0, 2] C dX10_echoByte_138 rfl (by decide) rfl ?_
                exact Rb_echoByte_139 C hrec hk0 hk1 hk2 hk3 hk4 hf
            · refine v_lv [(0, .ref (a 0)), (2, .int x2), (3, .int x3), (4, .int r50)] [0, 1, 2, 3] rfl ?_
              cases hf
              exact hk2 _ _ _ rfl
        · refine v_lv [(2, .int x2), (3, .int x3)] [1, 2] rfl ?_
          cases hf
          exact hk0 _ _ rfl
def Rf_echoByte_10 (c_m : Nat → Int64) (c_code : Int32) (c_lineParts : Int32) (c_lengths : Nat → Int32) (c_fractions : Nat → Int32) (c_pulseMany : Int32) (c_times : Nat → Int32) (c_energies : Nat → Int64) (c_far : Nat → Int64) (c_near : Nat → Int64) (c_echoes : Nat → Int64) (c_left : Int64) (c_dropped : Int64) (c_merged : Int32) (c_drops : Int32) (c_contributions : Int32) (c_packet : Int64) (x1 : Int32) (s1 : Int32) : Option (Int32 × Int32 × (Nat → Int32) × (Nat → Int32) × Int32 × (Nat → Int32) × (Nat → Int64) × (Nat → Int64) × (Nat → Int64) × (Nat → Int64) × Int64 × Int64 × Int32 × Int32 × Int32 × Int64 × Int32) :=
  if s1 = 0 then
    bd (Rf_runPresent c_m c_lineParts c_lengths c_fractions c_pulseMany c_times c_energies c_far c_near c_echoes c_left c_dropped c_merged c_drops c_contributions c_packet) fun (lineParts_23, lengths_23, fractions_23, pulseMany_23, times_23, energies_23, far_23, near_23, echoes_23, left_23, dropped_23, merged_23, drops_23, contributions_23, packet_23) =>
    bd (Rl_echoByte_30 echoes_23 FUEL x1 (0 : Int32)) fun o => match o with
    | .inl (y2_30, y3_30) =>
      nm (y3_30.toInt64) fun z73 =>
      bd (Rf_digitOf z73 y2_30) fun r75 =>
      some (s1, lineParts_23, lengths_23, fractions_23, pulseMany_23, times_23, energies_23, far_23, near_23, echoes_23, left_23, dropped_23, merged_23, drops_23, contributions_23, packet_23, r75)
    | .inr (.inl _) =>
      some (s1, lineParts_23, lengths_23, fractions_23, pulseMany_23, times_23, energies_23, far_23, near_23, echoes_23, left_23, dropped_23, merged_23, drops_23, contributions_23, packet_23, (58 : Int32))
    | .inr (.inr (.inl (y2_30, y3_30, y4_30))) =>
      chk (inb y3_30 201) <| nm (echoes_23 y3_30.toNatClampNeg) fun z104 =>
      nm (y2_30 - y4_30) fun z108 =>
      nm (z108 - (1 : Int32)) fun z110 =>
      bd (Rf_digitOf z104 z110) fun r111 =>
      some (s1, lineParts_23, lengths_23, fractions_23, pulseMany_23, times_23, energies_23, far_23, near_23, echoes_23, left_23, dropped_23, merged_23, drops_23, contributions_23, packet_23, r111)
    | .inr (.inr (.inr (.inl _))) =>
      some (s1, lineParts_23, lengths_23, fractions_23, pulseMany_23, times_23, energies_23, far_23, near_23, echoes_23, left_23, dropped_23, merged_23, drops_23, contributions_23, packet_23, (59 : Int32))
    | .inr (.inr (.inr (.inr _))) =>
      some (s1, lineParts_23, lengths_23, fractions_23, pulseMany_23, times_23, energies_23, far_23, near_23, echoes_23, left_23, dropped_23, merged_23, drops_23, contributions_23, packet_23, (-1 : Int32))
  else
    some (s1, c_lineParts, c_lengths, c_fractions, c_pulseMany, c_times, c_energies, c_far, c_near, c_echoes, c_left, c_dropped, c_merged, c_drops, c_contributions, c_packet, (0 : Int32))
set_option maxRecDepth 100000 in
set_option maxHeartbeats 4000000 in
theorem Rb_echoByte_10 (C : Cx X G T cX10_echoByte RX10 (some .int) 6 5 117) {x1 : Int32} {s1 : Int32} {o_code : Int32} {o_lineParts : Int32} {o_lengths : Nat → Int32} {o_fractions : Nat → Int32} {o_pulseMany : Int32} {o_times : Nat → Int32} {o_energies : Nat → Int64} {o_far : Nat → Int64} {o_near : Nat → Int64} {o_echoes : Nat → Int64} {o_left : Int64} {o_dropped : Int64} {o_merged : Int32} {o_drops : Int32} {o_contributions : Int32} {o_packet : Int64} {r : Int32} (hret : RetOK X 0 0 (some (.int r)) (wR a T c_m c_saved c_savedCount c_script c_scriptLength o_code o_lineParts o_lengths o_fractions o_pulseMany o_times o_energies o_far o_near o_echoes o_left o_dropped o_merged o_drops o_contributions o_packet c_peelResult c_peelTime c_peelSum c_at c_commands c_draft c_hash)) (hf : Rf_echoByte_10 c_m c_code c_lineParts c_lengths c_fractions c_pulseMany c_times c_energies c_far c_near c_echoes c_left c_dropped c_merged c_drops c_contributions c_packet x1 s1 = some (o_code, o_lineParts, o_lengths, o_fractions, o_pulseMany, o_times, o_energies, o_far, o_near, o_echoes, o_left, o_dropped, o_merged, o_drops, o_contributions, o_packet, r)) : V X 0 0 (wR a T c_m c_saved c_savedCount c_script c_scriptLength c_code c_lineParts c_lengths c_fractions c_pulseMany c_times c_energies c_far c_near c_echoes c_left c_dropped c_merged c_drops c_contributions c_packet c_peelResult c_peelTime c_peelSum c_at c_commands c_draft c_hash) [(0, .ref (a 0)), (1, .int x1)] 10 [.int s1, .ref (a 0)] := by
  unfold Rf_echoByte_10 at hf
  refine Rp_code C dX10_echoByte_10 ?_
  refine v_aload_n 0 C dX10_echoByte_13 rfl rfl ?_
  refine Rg_code C dX10_echoByte_14 ?_
  refine v_if_eq 22 C dX10_echoByte_17 (by decide) hf (fun c hf => ?_) (fun c hf => ?_)
  · refine v_aload_n 0 C dX10_echoByte_22 rfl rfl ?_
    refine Rc_runPresent C dX10_echoByte_23 (by decide) (Nat.le_of_ble_eq_true rfl) hf (fun lineParts_23 lengths_23 fractions_23 pulseMany_23 times_23 energies_23 far_23 near_23 echoes_23 left_23 dropped_23 merged_23 drops_23 contributions_23 packet_23 hf => ?_)
    refine v_iload_n 1 C dX10_echoByte_26 rfl rfl ?_
    refine v_istore_n [(0, .ref (a 0)), (2, .int x1)] [1, 0] C dX10_echoByte_27 rfl (by decide) rfl ?_
    refine v_iconst (v := 0) C dX10_echoByte_28 (by decide) ?_
    refine v_istore_n [(0, .ref (a 0)), (2, .int x1), (3, .int (0 : Int32))] [1, 2, 0] C dX10_echoByte_29 rfl (by decide) rfl ?_
    obtain ⟨o, hc, hf⟩ := bd_some hf
    refine Rk_echoByte_30 C (fun y2_30 y3_30 e => ?_) (fun e => ?_) (fun y2_30 y3_30 y4_30 e => ?_) (fun e => ?_) (fun e => ?_) _ _ _ hc
    · subst e
      refine v_iload_n 1 C dX10_echoByte_72 rfl rfl ?_
      refine v_i2l C dX10_echoByte_73 hf (fun z73 hf => ?_)
      refine v_iload_n 0 C dX10_echoByte_74 rfl rfl ?_
      refine Rc_digitOf C dX10_echoByte_75 (by decide) (Nat.le_of_ble_eq_true rfl) hf (fun r75 hf => ?_)
      cases hf
      exact v_iret C hret dX10_echoByte_78
    · subst e
      refine v_bipush (v := 58) C dX10_echoByte_85 (by decide) ?_
      cases hf
      exact v_iret C hret dX10_echoByte_87
    · subst e
      refine v_aload_n 0 C dX10_echoByte_99 rfl rfl ?_
      refine Rg_echoes C dX10_echoByte_100 ?_
      refine v_iload_n 2 C dX10_echoByte_103 rfl rfl ?_
      refine Ral_echoes C dX10_echoByte_104 hf (fun z104 hf => ?_)
      refine v_iload_n 1 C dX10_echoByte_105 rfl rfl ?_
      refine v_iload 3 C dX10_echoByte_106 rfl ?_
      refine v_isub C dX10_echoByte_108 hf (fun z108 hf => ?_)
      refine v_iconst (v := 1) C dX10_echoByte_109 (by decide) ?_
      refine v_isub C dX10_echoByte_110 hf (fun z110 hf => ?_)
      refine Rc_digitOf C dX10_echoByte_111 (by decide) (Nat.le_of_ble_eq_true rfl) hf (fun r111 hf => ?_)
      cases hf
      exact v_iret C hret dX10_echoByte_114
    · subst e
      refine v_bipush (v := 59) C dX10_echoByte_126 (by decide) ?_
      cases hf
      exact v_iret C hret dX10_echoByte_128
    · subst e
      refine v_iconst (v := -1) C dX10_echoByte_145 (by decide) ?_
      cases hf
      exact v_iret C hret dX10_echoByte_146
  · refine v_iconst (v := 0) C dX10_echoByte_20 (by decide) ?_
    cases hf
    exact v_iret C hret dX10_echoByte_21
def Rf_echoByte (c_m : Nat → Int64) (c_code : Int32) (c_lineParts : Int32) (c_lengths : Nat → Int32) (c_fractions : Nat → Int32) (c_pulseMany : Int32) (c_times : Nat → Int32) (c_energies : Nat → Int64) (c_far : Nat → Int64) (c_near : Nat → Int64) (c_echoes : Nat → Int64) (c_left : Int64) (c_dropped : Int64) (c_merged : Int32) (c_drops : Int32) (c_contributions : Int32) (c_packet : Int64) (x1 : Int32) : Option (Int32 × Int32 × (Nat → Int32) × (Nat → Int32) × Int32 × (Nat → Int32) × (Nat → Int64) × (Nat → Int64) × (Nat → Int64) × (Nat → Int64) × Int64 × Int64 × Int32 × Int32 × Int32 × Int64 × Int32) :=
  if 0 ≤ x1 then
    Rf_echoByte_10 c_m c_code c_lineParts c_lengths c_fractions c_pulseMany c_times c_energies c_far c_near c_echoes c_left c_dropped c_merged c_drops c_contributions c_packet x1 (0 : Int32)
  else
    Rf_echoByte_10 c_m c_code c_lineParts c_lengths c_fractions c_pulseMany c_times c_energies c_far c_near c_echoes c_left c_dropped c_merged c_drops c_contributions c_packet x1 (1 : Int32)
set_option maxRecDepth 100000 in
set_option maxHeartbeats 4000000 in
theorem Rb_echoByte (C : Cx X G T cX10_echoByte RX10 (some .int) 6 5 117) {x1 : Int32} {o_code : Int32} {o_lineParts : Int32} {o_lengths : Nat → Int32} {o_fractions : Nat → Int32} {o_pulseMany : Int32} {o_times : Nat → Int32} {o_energies : Nat → Int64} {o_far : Nat → Int64} {o_near : Nat → Int64} {o_echoes : Nat → Int64} {o_left : Int64} {o_dropped : Int64} {o_merged : Int32} {o_drops : Int32} {o_contributions : Int32} {o_packet : Int64} {r : Int32} (hret : RetOK X 0 0 (some (.int r)) (wR a T c_m c_saved c_savedCount c_script c_scriptLength o_code o_lineParts o_lengths o_fractions o_pulseMany o_times o_energies o_far o_near o_echoes o_left o_dropped o_merged o_drops o_contributions o_packet c_peelResult c_peelTime c_peelSum c_at c_commands c_draft c_hash)) (hf : Rf_echoByte c_m c_code c_lineParts c_lengths c_fractions c_pulseMany c_times c_energies c_far c_near c_echoes c_left c_dropped c_merged c_drops c_contributions c_packet x1 = some (o_code, o_lineParts, o_lengths, o_fractions, o_pulseMany, o_times, o_energies, o_far, o_near, o_echoes, o_left, o_dropped, o_merged, o_drops, o_contributions, o_packet, r)) : V X 0 0 (wR a T c_m c_saved c_savedCount c_script c_scriptLength c_code c_lineParts c_lengths c_fractions c_pulseMany c_times c_energies c_far c_near c_echoes c_left c_dropped c_merged c_drops c_contributions c_packet c_peelResult c_peelTime c_peelSum c_at c_commands c_draft c_hash) [(0, .ref (a 0)), (1, .int x1)] 0 [] := by
  unfold Rf_echoByte at hf
  refine v_aload_n 0 C dX10_echoByte_0 rfl rfl ?_
  refine v_iload_n 1 C dX10_echoByte_1 rfl rfl ?_
  refine v_if_ge 9 C dX10_echoByte_2 (by decide) hf (fun c hf => ?_) (fun c hf => ?_)
  · refine v_iconst (v := 0) C dX10_echoByte_9 (by decide) ?_
    exact Rb_echoByte_10 C hret hf
  · refine v_iconst (v := 1) C dX10_echoByte_5 (by decide) ?_
    refine v_goto 10 C dX10_echoByte_6 (by decide) ?_
    exact Rb_echoByte_10 C hret hf
set_option maxRecDepth 100000 in
set_option maxHeartbeats 4000000 in
theorem Rm_echoByte {D : va_G} {x1 : Int32} {o_code : Int32} {o_lineParts : Int32} {o_lengths : Nat → Int32} {o_fractions : Nat → Int32} {o_pulseMany : Int32} {o_times : Nat → Int32} {o_energies : Nat → Int64} {o_far : Nat → Int64} {o_near : Nat → Int64} {o_echoes : Nat → Int64} {o_left : Int64} {o_dropped : Int64} {o_merged : Int32} {o_drops : Int32} {o_contributions : Int32} {o_packet : Int64} {r : Int32} (hf : Rf_echoByte c_m c_code c_lineParts c_lengths c_fractions c_pulseMany c_times c_energies c_far c_near c_echoes c_left c_dropped c_merged c_drops c_contributions c_packet x1 = some (o_code, o_lineParts, o_lengths, o_fractions, o_pulseMany, o_times, o_energies, o_far, o_near, o_echoes, o_left, o_dropped, o_merged, o_drops, o_contributions, o_packet, r)) : MetM G yX10_echoByte cX10_echoByte 6 (some .int) { frames := 5, cells := 0, slots := 0, locals := 117 } D T [.ref (a 0), .int x1] (wR a T c_m c_saved c_savedCount c_script c_scriptLength c_code c_lineParts c_lengths c_fractions c_pulseMany c_times c_energies c_far c_near c_echoes c_left c_dropped c_merged c_drops c_contributions c_packet c_peelResult c_peelTime c_peelSum c_at c_commands c_draft c_hash) (some (.int r)) (wR a T c_m c_saved c_savedCount c_script c_scriptLength o_code o_lineParts o_lengths o_fractions o_pulseMany o_times o_energies o_far o_near o_echoes o_left o_dropped o_merged o_drops o_contributions o_packet c_peelResult c_peelTime c_peelSum c_at c_commands c_draft c_hash) :=
  MetM.of [(0, .ref (a 0)), (1, .int x1)] (by decide) (Nat.le_of_ble_eq_true rfl) rfl (fun X C hret => Rb_echoByte C hret hf)
def Rf_copies_46 (rec : (Nat → Int64) → Int32 → Int32 → Option ((Nat → Int64) × Int32)) (c_m : Nat → Int64) (x1 : Int32) (x3 : Int32) (s0 : Int32) (s1 : Int32) : Option ((Nat → Int64) × Int32) :=
  nm (s0 + s1) fun z46 =>
  nm (x3 + (1 : Int32)) fun x3_48 =>
  rec c_m z46 x3_48
set_option maxRecDepth 100000 in
set_option maxHeartbeats 4000000 in
theorem Rb_copies_46 (C : Cx X G T cX10_copies RX10 (some .int) 4 5 117) {rec : (Nat → Int64) → Int32 → Int32 → Option ((Nat → Int64) × Int32)} {x1 : Int32} {x3 : Int32} {s0 : Int32} {s1 : Int32} {o_m : Nat → Int64} {y2 : Int32} (hrec : ∀ (c_m : Nat → Int64) (x2 : Int32) (x3 : Int32), rec c_m x2 x3 = some (o_m, y2) → V X 0 0 (wR a T c_m c_saved c_savedCount c_script c_scriptLength c_code c_lineParts c_lengths c_fractions c_pulseMany c_times c_energies c_far c_near c_echoes c_left c_dropped c_merged c_drops c_contributions c_packet c_peelResult c_peelTime c_peelSum c_at c_commands c_draft c_hash) [(0, .ref (a 0)), (1, .int x1), (2, .int x2), (3, .int x3)] 8 []) (hk : V X 0 0 (wR a T o_m c_saved c_savedCount c_script c_scriptLength c_code c_lineParts c_lengths c_fractions c_pulseMany c_times c_energies c_far c_near c_echoes c_left c_dropped c_merged c_drops c_contributions c_packet c_peelResult c_peelTime c_peelSum c_at c_commands c_draft c_hash) [(2, .int y2)] 54 []) (hf : Rf_copies_46 rec c_m x1 x3 s0 s1 = some (o_m, y2)) : V X 0 0 (wR a T c_m c_saved c_savedCount c_script c_scriptLength c_code c_lineParts c_lengths c_fractions c_pulseMany c_times c_energies c_far c_near c_echoes c_left c_dropped c_merged c_drops c_contributions c_packet c_peelResult c_peelTime c_peelSum c_at c_commands c_draft c_hash) [(0, .ref (a 0)), (1, .int x1), (3, .int x3)] 46 [.int s1, .int s0] := by
  unfold Rf_copies_46 at hf
  refine v_iadd C dX10_copies_46 hf (fun z46 hf => ?_)
  refine v_istore_n [(0, .ref (a 0)), (1, .int x1), (2, .int z46), (3, .int x3)] [1, 2, 0, 3] C dX10_copies_47 rfl (by decide) rfl ?_
  refine v_iinc (fun x3_48 => [(0, .ref (a 0)), (1, .int x1), (2, .int z46), (3, .int x3_48)]) [1, 2, 3, 0] C dX10_copies_48 (j := 3) rfl (dv := 1) (by decide) (by decide) (fun _ => rfl) hf (fun x3_48 hf => ?_)
  refine v_goto 8 C dX10_copies_51 (by decide) ?_
  exact hrec _ _ _ hf
def Rl_copies_8 (c_echoes : Nat → Int64) (x1 : Int32) : Nat → (Nat → Int64) → Int32 → Int32 → Option ((Nat → Int64) × Int32)
  | 0, _, _, _ => none
  | n + 1, c_m, x2, x3 =>
    if (201 : Int32) ≤ x3 then
      some (c_m, x2)
    else
      nm (x1 + x3) fun z21 =>
      chk (inb x3 201) <| nm (c_echoes x3.toNatClampNeg) fun z27 =>
      chk (inb z21 431) <| nm (vp_updL c_m z21.toNatClampNeg z27) fun m_28 =>
      chk (inb x3 201) <| nm (c_echoes x3.toNatClampNeg) fun z35 =>
      if z35 ≤ (0 : Int64) then
        Rf_copies_46 (Rl_copies_8 c_echoes x1 n) m_28 x1 x3 x2 (0 : Int32)
      else
        Rf_copies_46 (Rl_copies_8 c_echoes x1 n) m_28 x1 x3 x2 (1 : Int32)
set_option maxRecDepth 100000 in
set_option maxHeartbeats 4000000 in
theorem Rk_copies_8 (C : Cx X G T cX10_copies RX10 (some .int) 4 5 117) {x1 : Int32} {o_m : Nat → Int64} {y2 : Int32} (hk : V X 0 0 (wR a T o_m c_saved c_savedCount c_script c_scriptLength c_code c_lineParts c_lengths c_fractions c_pulseMany c_times c_energies c_far c_near c_echoes c_left c_dropped c_merged c_drops c_contributions c_packet c_peelResult c_peelTime c_peelSum c_at c_commands c_draft c_hash) [(2, .int y2)] 54 []) : ∀ (n : Nat) (c_m : Nat → Int64) (x2 : Int32) (x3 : Int32), Rl_copies_8 c_echoes x1 n c_m x2 x3 = some (o_m, y2) → V X 0 0 (wR a T c_m c_saved c_savedCount c_script c_scriptLength c_code c_lineParts c_lengths c_fractions c_pulseMany c_times c_energies c_far c_near c_echoes c_left c_dropped c_merged c_drops c_contributions c_packet c_peelResult c_peelTime c_peelSum c_at c_commands c_draft c_hash) [(0, .ref (a 0)), (1, .int x1), (2, .int x2), (3, .int x3)] 8 [] := by
  intro n
  induction n with
  | zero =>
    intro _ _ _ hf
    cases hf
  | succ n hrec =>
    intro c_m x2 x3 hf
    rw [Rl_copies_8] at hf
    refine v_iload_n 3 C dX10_copies_8 rfl rfl ?_
    refine v_sipush (v := 201) C dX10_copies_9 (by decide) ?_
    refine v_icmp_ge 54 C dX10_copies_12 (by decide) hf (fun c hf => ?_) (fun c hf => ?_)
    · refine v_lv [(2, .int x2)] [2] rfl ?_
      cases hf
      exact hk
    · refine v_aload_n 0 C dX10_copies_15 rfl rfl ?_
      refine Rg_m C dX10_copies_16 ?_
      refine v_iload_n 1 C dX10_copies_19 rfl rfl ?_
      refine v_iload_n 3 C dX10_copies_20 rfl rfl ?_
      refine v_iadd C dX10_copies_21 hf (fun z21 hf => ?_)
      refine v_aload_n 0 C dX10_copies_22 rfl rfl ?_
      refine Rg_echoes C dX10_copies_23 ?_
      refine v_iload_n 3 C dX10_copies_26 rfl rfl ?_
      refine Ral_echoes C dX10_copies_27 hf (fun z27 hf => ?_)
      refine Ras_m C dX10_copies_28 hf (fun m_28 hf => ?_)
      refine v_iload_n 2 C dX10_copies_29 rfl rfl ?_
      refine v_aload_n 0 C dX10_copies_30 rfl rfl ?_
      refine Rg_echoes C dX10_copies_31 ?_
      refine v_iload_n 3 C dX10_copies_34 rfl rfl ?_
      refine Ral_echoes C dX10_copies_35 hf (fun z35 hf => ?_)
      refine v_lconst (v := 0) C dX10_copies_36 (by decide) ?_
      refine v_lcmp_le 45 C dX10_copies_37 dX10_copies_38 (by decide) hf (fun c hf => ?_) (fun c hf => ?_)
      · refine v_iconst (v := 0) C dX10_copies_45 (by decide) ?_
        refine v_lv [(0, .ref (a 0)), (1, .int x1), (3, .int x3)] [0, 1, 3] rfl ?_
        exact Rb_copies_46 C hrec hk hf
      · refine v_iconst (v := 1) C dX10_copies_41 (by decide) ?_
        refine v_goto 46 C dX10_copies_42 (by decide) ?_
        refine v_lv [(0, .ref (a 0)), (1, .int x1), (3, .int x3)] [0, 1, 3] rfl ?_
        exact Rb_copies_46 C hrec hk hf
def Rf_copies (c_m : Nat → Int64) (c_lineParts : Int32) (c_lengths : Nat → Int32) (c_fractions : Nat → Int32) (c_pulseMany : Int32) (c_times : Nat → Int32) (c_energies : Nat → Int64) (c_far : Nat → Int64) (c_near : Nat → Int64) (c_echoes : Nat → Int64) (c_left : Int64) (c_dropped : Int64) (c_merged : Int32) (c_drops : Int32) (c_contributions : Int32) (c_packet : Int64) (x1 : Int32) : Option ((Nat → Int64) × Int32 × (Nat → Int32) × (Nat → Int32) × Int32 × (Nat → Int32) × (Nat → Int64) × (Nat → Int64) × (Nat → Int64) × (Nat → Int64) × Int64 × Int64 × Int32 × Int32 × Int32 × Int64 × Int32) :=
  bd (Rf_runPresent c_m c_lineParts c_lengths c_fractions c_pulseMany c_times c_energies c_far c_near c_echoes c_left c_dropped c_merged c_drops c_contributions c_packet) fun (lineParts_1, lengths_1, fractions_1, pulseMany_1, times_1, energies_1, far_1, near_1, echoes_1, left_1, dropped_1, merged_1, drops_1, contributions_1, packet_1) =>
  bd (Rl_copies_8 echoes_1 x1 FUEL c_m (0 : Int32) (0 : Int32)) fun (o_m_8, y2_8) =>
  some (o_m_8, lineParts_1, lengths_1, fractions_1, pulseMany_1, times_1, energies_1, far_1, near_1, echoes_1, left_1, dropped_1, merged_1, drops_1, contributions_1, packet_1, y2_8)
set_option maxRecDepth 100000 in
set_option maxHeartbeats 4000000 in
theorem Rb_copies (C : Cx X G T cX10_copies RX10 (some .int) 4 5 117) {x1 : Int32} {o_m : Nat → Int64} {o_lineParts : Int32} {o_lengths : Nat → Int32} {o_fractions : Nat → Int32} {o_pulseMany : Int32} {o_times : Nat → Int32} {o_energies : Nat → Int64} {o_far : Nat → Int64} {o_near : Nat → Int64} {o_echoes : Nat → Int64} {o_left : Int64} {o_dropped : Int64} {o_merged : Int32} {o_drops : Int32} {o_contributions : Int32} {o_packet : Int64} {r : Int32} (hret : RetOK X 0 0 (some (.int r)) (wR a T o_m c_saved c_savedCount c_script c_scriptLength c_code o_lineParts o_lengths o_fractions o_pulseMany o_times o_energies o_far o_near o_echoes o_left o_dropped o_merged o_drops o_contributions o_packet c_peelResult c_peelTime c_peelSum c_at c_commands c_draft c_hash)) (hf : Rf_copies c_m c_lineParts c_lengths c_fractions c_pulseMany c_times c_energies c_far c_near c_echoes c_left c_dropped c_merged c_drops c_contributions c_packet x1 = some (o_m, o_lineParts, o_lengths, o_fractions, o_pulseMany, o_times, o_energies, o_far, o_near, o_echoes, o_left, o_dropped, o_merged, o_drops, o_contributions, o_packet, r)) : V X 0 0 (wR a T c_m c_saved c_savedCount c_script c_scriptLength c_code c_lineParts c_lengths c_fractions c_pulseMany c_times c_energies c_far c_near c_echoes c_left c_dropped c_merged c_drops c_contributions c_packet c_peelResult c_peelTime c_peelSum c_at c_commands c_draft c_hash) [(0, .ref (a 0)), (1, .int x1)] 0 [] := by
  unfold Rf_copies at hf
  refine v_aload_n 0 C dX10_copies_0 rfl rfl ?_
  refine Rc_runPresent C dX10_copies_1 (by decide) (Nat.le_of_ble_eq_true rfl) hf (fun lineParts_1 lengths_1 fractions_1 pulseMany_1 times_1 energies_1 far_1 near_1 echoes_1 left_1 dropped_1 merged_1 drops_1 contributions_1 packet_1 hf => ?_)
  refine v_iconst (v := 0) C dX10_copies_4 (by decide) ?_
  refine v_istore_n [(0, .ref (a 0)), (1, .int x1), (2, .int (0 : Int32))] [1, 2, 0] C dX10_copies_5 rfl (by decide) rfl ?_
  refine v_iconst (v := 0) C dX10_copies_6 (by decide) ?_
  refine v_istore_n [(0, .ref (a 0)), (1, .int x1), (2, .int (0 : Int32)), (3, .int (0 : Int32))] [1, 2, 3, 0] C dX10_copies_7 rfl (by decide) rfl ?_
  obtain ⟨⟨o_m_8, y2_8⟩, hc, hf⟩ := bd_some hf
  refine Rk_copies_8 C ?_ _ _ _ _ hc
  refine v_iload_n 0 C dX10_copies_54 rfl rfl ?_
  cases hf
  exact v_iret C hret dX10_copies_55
set_option maxRecDepth 100000 in
set_option maxHeartbeats 4000000 in
theorem Rm_copies {D : va_G} {x1 : Int32} {o_m : Nat → Int64} {o_lineParts : Int32} {o_lengths : Nat → Int32} {o_fractions : Nat → Int32} {o_pulseMany : Int32} {o_times : Nat → Int32} {o_energies : Nat → Int64} {o_far : Nat → Int64} {o_near : Nat → Int64} {o_echoes : Nat → Int64} {o_left : Int64} {o_dropped : Int64} {o_merged : Int32} {o_drops : Int32} {o_contributions : Int32} {o_packet : Int64} {r : Int32} (hf : Rf_copies c_m c_lineParts c_lengths c_fractions c_pulseMany c_times c_energies c_far c_near c_echoes c_left c_dropped c_merged c_drops c_contributions c_packet x1 = some (o_m, o_lineParts, o_lengths, o_fractions, o_pulseMany, o_times, o_energies, o_far, o_near, o_echoes, o_left, o_dropped, o_merged, o_drops, o_contributions, o_packet, r)) : MetM G yX10_copies cX10_copies 4 (some .int) { frames := 5, cells := 0, slots := 0, locals := 117 } D T [.ref (a 0), .int x1] (wR a T c_m c_saved c_savedCount c_script c_scriptLength c_code c_lineParts c_lengths c_fractions c_pulseMany c_times c_energies c_far c_near c_echoes c_left c_dropped c_merged c_drops c_contributions c_packet c_peelResult c_peelTime c_peelSum c_at c_commands c_draft c_hash) (some (.int r)) (wR a T o_m c_saved c_savedCount c_script c_scriptLength c_code o_lineParts o_lengths o_fractions o_pulseMany o_times o_energies o_far o_near o_echoes o_left o_dropped o_merged o_drops o_contributions o_packet c_peelResult c_peelTime c_peelSum c_at c_commands c_draft c_hash) :=
  MetM.of [(0, .ref (a 0)), (1, .int x1)] (by decide) (Nat.le_of_ble_eq_true rfl) rfl (fun X C hret => Rb_copies C hret hf)
set_option maxRecDepth 100000 in
theorem Rc_copies {x1 : Int32} {cc : ByteArray} {ret : Option FieldType} {nl fr lo pc : Nat} {lv : List (Nat × Value)} {rest : List Value} {β : Type} {K : ((Nat → Int64) × Int32 × (Nat → Int32) × (Nat → Int32) × Int32 × (Nat → Int32) × (Nat → Int64) × (Nat → Int64) × (Nat → Int64) × (Nat → Int64) × Int64 × Int64 × Int32 × Int32 × Int32 × Int64 × Int32) → Option β} {oo : β} (C : Cx X G T cc RX10 ret nl fr lo) (hdg : decode cc pc = .ok (.invokevirtual 215, 3)) (hroom : 5 + 1 ≤ fr ∧ 8 + (4 + 11) + 117 ≤ lo) (hst : (rest.map fun v => v.category).sum ≤ 8) (hf : bd (Rf_copies c_m c_lineParts c_lengths c_fractions c_pulseMany c_times c_energies c_far c_near c_echoes c_left c_dropped c_merged c_drops c_contributions c_packet x1) K = some oo) (kk : ∀ (o_m : Nat → Int64) (o_lineParts : Int32) (o_lengths : Nat → Int32) (o_fractions : Nat → Int32) (o_pulseMany : Int32) (o_times : Nat → Int32) (o_energies : Nat → Int64) (o_far : Nat → Int64) (o_near : Nat → Int64) (o_echoes : Nat → Int64) (o_left : Int64) (o_dropped : Int64) (o_merged : Int32) (o_drops : Int32) (o_contributions : Int32) (o_packet : Int64) (r : Int32), K (o_m, o_lineParts, o_lengths, o_fractions, o_pulseMany, o_times, o_energies, o_far, o_near, o_echoes, o_left, o_dropped, o_merged, o_drops, o_contributions, o_packet, r) = some oo → V X 0 0 (wR a T o_m c_saved c_savedCount c_script c_scriptLength c_code o_lineParts o_lengths o_fractions o_pulseMany o_times o_energies o_far o_near o_echoes o_left o_dropped o_merged o_drops o_contributions o_packet c_peelResult c_peelTime c_peelSum c_at c_commands c_draft c_hash) lv (pc + 3) (.int r :: rest)) : V X 0 0 (wR a T c_m c_saved c_savedCount c_script c_scriptLength c_code c_lineParts c_lengths c_fractions c_pulseMany c_times c_energies c_far c_near c_echoes c_left c_dropped c_merged c_drops c_contributions c_packet c_peelResult c_peelTime c_peelSum c_at c_commands c_draft c_hash) lv pc (.int x1 :: .ref (a 0) :: rest) := by
  obtain ⟨⟨o_m, o_lineParts, o_lengths, o_fractions, o_pulseMany, o_times, o_energies, o_far, o_near, o_echoes, o_left, o_dropped, o_merged, o_drops, o_contributions, o_packet, r⟩, hc, hk⟩ := bd_some hf
  exact v_callV (As := [.int x1]) (rest := rest) (q0 := 0) 1 C (CapOK.z X) (fun D => Rm_copies hc) (goodV wmethodLink_RX10_215_yX10_copies winstanceMethod_yX10_copies wselects_RX10_yX10_copies_yX10_copies winitialized_RX10 wcode_yX10_copies_cX10_copies_4_some_int) (by decide +kernel) hroom ⟨rfl, rfl⟩ rfl rfl rfl hst hdg (kk o_m o_lineParts o_lengths o_fractions o_pulseMany o_times o_energies o_far o_near o_echoes o_left o_dropped o_merged o_drops o_contributions o_packet r hk)
def Rf_keepSound (c_m : Nat → Int64) (c_saved : Nat → Int64) (c_savedCount : Int32) (c_code : Int32) (c_lineParts : Int32) (c_lengths : Nat → Int32) (c_fractions : Nat → Int32) (c_pulseMany : Int32) (c_times : Nat → Int32) (c_energies : Nat → Int64) (c_far : Nat → Int64) (c_near : Nat → Int64) (c_echoes : Nat → Int64) (c_left : Int64) (c_dropped : Int64) (c_merged : Int32) (c_drops : Int32) (c_contributions : Int32) (c_packet : Int64) : Option ((Nat → Int64) × (Nat → Int64) × Int32 × Int32 × Int32 × (Nat → Int32) × (Nat → Int32) × Int32 × (Nat → Int32) × (Nat → Int64) × (Nat → Int64) × (Nat → Int64) × (Nat → Int64) × Int64 × Int64 × Int32 × Int32 × Int32 × Int64 × Int32) :=
  bd (Rf_keep c_m c_saved c_savedCount) fun (saved_6, savedCount_6) =>
  bd (Rf_copies c_m c_lineParts c_lengths c_fractions c_pulseMany c_times c_energies c_far c_near c_echoes c_left c_dropped c_merged c_drops c_contributions c_packet (29 : Int32)) fun (m_12, lineParts_12, lengths_12, fractions_12, pulseMany_12, times_12, energies_12, far_12, near_12, echoes_12, left_12, dropped_12, merged_12, drops_12, contributions_12, packet_12, r12) =>
  some (m_12, saved_6, savedCount_6, (0 : Int32), lineParts_12, lengths_12, fractions_12, pulseMany_12, times_12, energies_12, far_12, near_12, echoes_12, left_12, dropped_12, merged_12, drops_12, contributions_12, packet_12, r12)
set_option maxRecDepth 100000 in
set_option maxHeartbeats 4000000 in
theorem Rb_keepSound (C : Cx X G T cX10_keepSound RX10 (some .int) 1 6 140)  {o_m : Nat → Int64} {o_saved : Nat → Int64} {o_savedCount : Int32} {o_code : Int32} {o_lineParts : Int32} {o_lengths : Nat → Int32} {o_fractions : Nat → Int32} {o_pulseMany : Int32} {o_times : Nat → Int32} {o_energies : Nat → Int64} {o_far : Nat → Int64} {o_near : Nat → Int64} {o_echoes : Nat → Int64} {o_left : Int64} {o_dropped : Int64} {o_merged : Int32} {o_drops : Int32} {o_contributions : Int32} {o_packet : Int64} {r : Int32} (hret : RetOK X 0 0 (some (.int r)) (wR a T o_m o_saved o_savedCount c_script c_scriptLength o_code o_lineParts o_lengths o_fractions o_pulseMany o_times o_energies o_far o_near o_echoes o_left o_dropped o_merged o_drops o_contributions o_packet c_peelResult c_peelTime c_peelSum c_at c_commands c_draft c_hash)) (hf : Rf_keepSound c_m c_saved c_savedCount c_code c_lineParts c_lengths c_fractions c_pulseMany c_times c_energies c_far c_near c_echoes c_left c_dropped c_merged c_drops c_contributions c_packet = some (o_m, o_saved, o_savedCount, o_code, o_lineParts, o_lengths, o_fractions, o_pulseMany, o_times, o_energies, o_far, o_near, o_echoes, o_left, o_dropped, o_merged, o_drops, o_contributions, o_packet, r)) : V X 0 0 (wR a T c_m c_saved c_savedCount c_script c_scriptLength c_code c_lineParts c_lengths c_fractions c_pulseMany c_times c_energies c_far c_near c_echoes c_left c_dropped c_merged c_drops c_contributions c_packet c_peelResult c_peelTime c_peelSum c_at c_commands c_draft c_hash) [(0, .ref (a 0))] 0 [] := by
  unfold Rf_keepSound at hf
  refine v_aload_n 0 C dX10_keepSound_0 rfl rfl ?_
  refine v_iconst (v := 0) C dX10_keepSound_1 (by decide) ?_
  refine Rp_code C dX10_keepSound_2 ?_
  refine v_aload_n 0 C dX10_keepSound_5 rfl rfl ?_
  refine Rc_keep C dX10_keepSound_6 (by decide) (Nat.le_of_ble_eq_true rfl) hf (fun saved_6 savedCount_6 hf => ?_)
  refine v_aload_n 0 C dX10_keepSound_9 rfl rfl ?_
  refine v_bipush (v := 29) C dX10_keepSound_10 (by decide) ?_
  refine Rc_copies C dX10_keepSound_12 (by decide) (Nat.le_of_ble_eq_true rfl) hf (fun m_12 lineParts_12 lengths_12 fractions_12 pulseMany_12 times_12 energies_12 far_12 near_12 echoes_12 left_12 dropped_12 merged_12 drops_12 contributions_12 packet_12 r12 hf => ?_)
  cases hf
  exact v_iret C hret dX10_keepSound_15
set_option maxRecDepth 100000 in
set_option maxHeartbeats 4000000 in
theorem Rm_keepSound {D : va_G}  {o_m : Nat → Int64} {o_saved : Nat → Int64} {o_savedCount : Int32} {o_code : Int32} {o_lineParts : Int32} {o_lengths : Nat → Int32} {o_fractions : Nat → Int32} {o_pulseMany : Int32} {o_times : Nat → Int32} {o_energies : Nat → Int64} {o_far : Nat → Int64} {o_near : Nat → Int64} {o_echoes : Nat → Int64} {o_left : Int64} {o_dropped : Int64} {o_merged : Int32} {o_drops : Int32} {o_contributions : Int32} {o_packet : Int64} {r : Int32} (hf : Rf_keepSound c_m c_saved c_savedCount c_code c_lineParts c_lengths c_fractions c_pulseMany c_times c_energies c_far c_near c_echoes c_left c_dropped c_merged c_drops c_contributions c_packet = some (o_m, o_saved, o_savedCount, o_code, o_lineParts, o_lengths, o_fractions, o_pulseMany, o_times, o_energies, o_far, o_near, o_echoes, o_left, o_dropped, o_merged, o_drops, o_contributions, o_packet, r)) : MetM G yX10_keepSound cX10_keepSound 1 (some .int) { frames := 6, cells := 0, slots := 0, locals := 140 } D T [.ref (a 0)] (wR a T c_m c_saved c_savedCount c_script c_scriptLength c_code c_lineParts c_lengths c_fractions c_pulseMany c_times c_energies c_far c_near c_echoes c_left c_dropped c_merged c_drops c_contributions c_packet c_peelResult c_peelTime c_peelSum c_at c_commands c_draft c_hash) (some (.int r)) (wR a T o_m o_saved o_savedCount c_script c_scriptLength o_code o_lineParts o_lengths o_fractions o_pulseMany o_times o_energies o_far o_near o_echoes o_left o_dropped o_merged o_drops o_contributions o_packet c_peelResult c_peelTime c_peelSum c_at c_commands c_draft c_hash) :=
  MetM.of [(0, .ref (a 0))] (by decide) (Nat.le_of_ble_eq_true rfl) rfl (fun X C hret => Rb_keepSound C hret hf)
def Rf_differencesNow_37 (rec : Int32 → Int32 → Option Int32) (x2 : Int32) (s0 : Int32) (s1 : Int32) : Option Int32 :=
  nm (s0 + s1) fun z37 =>
  nm (x2 + (1 : Int32)) fun x2_39 =>
  rec z37 x2_39
set_option maxRecDepth 100000 in
set_option maxHeartbeats 4000000 in
theorem Rb_differencesNow_37 (C : Cx X G T cX10_differencesNow RX10 (some .int) 3 1 20) {rec : Int32 → Int32 → Option Int32} {x2 : Int32} {s0 : Int32} {s1 : Int32} {y1 : Int32} (hrec : ∀ (x1 : Int32) (x2 : Int32), rec x1 x2 = some y1 → V X 0 0 (wR a T c_m c_saved c_savedCount c_script c_scriptLength c_code c_lineParts c_lengths c_fractions c_pulseMany c_times c_energies c_far c_near c_echoes c_left c_dropped c_merged c_drops c_contributions c_packet c_peelResult c_peelTime c_peelSum c_at c_commands c_draft c_hash) [(0, .ref (a 0)), (1, .int x1), (2, .int x2)] 4 []) (hk : V X 0 0 (wR a T c_m c_saved c_savedCount c_script c_scriptLength c_code c_lineParts c_lengths c_fractions c_pulseMany c_times c_energies c_far c_near c_echoes c_left c_dropped c_merged c_drops c_contributions c_packet c_peelResult c_peelTime c_peelSum c_at c_commands c_draft c_hash) [(1, .int y1)] 45 []) (hf : Rf_differencesNow_37 rec x2 s0 s1 = some y1) : V X 0 0 (wR a T c_m c_saved c_savedCount c_script c_scriptLength c_code c_lineParts c_lengths c_fractions c_pulseMany c_times c_energies c_far c_near c_echoes c_left c_dropped c_merged c_drops c_contributions c_packet c_peelResult c_peelTime c_peelSum c_at c_commands c_draft c_hash) [(0, .ref (a 0)), (2, .int x2)] 37 [.int s1, .int s0] := by
  unfold Rf_differencesNow_37 at hf
  refine v_iadd C dX10_differencesNow_37 hf (fun z37 hf => ?_)
  refine v_istore_n [(0, .ref (a 0)), (1, .int z37), (2, .int x2)] [1, 0, 2] C dX10_differencesNow_38 rfl (by decide) rfl ?_
  refine v_iinc (fun x2_39 => [(0, .ref (a 0)), (1, .int z37), (2, .int x2_39)]) [1, 2, 0] C dX10_differencesNow_39 (j := 2) rfl (dv := 1) (by decide) (by decide) (fun _ => rfl) hf (fun x2_39 hf => ?_)
  refine v_goto 4 C dX10_differencesNow_42 (by decide) ?_
  exact hrec _ _ hf
def Rl_differencesNow_4 (c_m : Nat → Int64) (c_echoes : Nat → Int64) : Nat → Int32 → Int32 → Option Int32
  | 0, _, _ => none
  | n + 1, x1, x2 =>
    bd (Rf_window c_m) fun r6 =>
    if r6 < x2 then
      some x1
    else
      chk (inb x2 201) <| nm (c_echoes x2.toNatClampNeg) fun z18 =>
      nm ((29 : Int32) + x2) fun z26 =>
      chk (inb z26 431) <| nm (c_m z26.toNatClampNeg) fun z27 =>
      if z18 = z27 then
        Rf_differencesNow_37 (Rl_differencesNow_4 c_m c_echoes n) x2 x1 (0 : Int32)
      else
        Rf_differencesNow_37 (Rl_differencesNow_4 c_m c_echoes n) x2 x1 (1 : Int32)
set_option maxRecDepth 100000 in
set_option maxHeartbeats 4000000 in
theorem Rk_differencesNow_4 (C : Cx X G T cX10_differencesNow RX10 (some .int) 3 1 20)  {y1 : Int32} (hk : V X 0 0 (wR a T c_m c_saved c_savedCount c_script c_scriptLength c_code c_lineParts c_lengths c_fractions c_pulseMany c_times c_energies c_far c_near c_echoes c_left c_dropped c_merged c_drops c_contributions c_packet c_peelResult c_peelTime c_peelSum c_at c_commands c_draft c_hash) [(1, .int y1)] 45 []) : ∀ (n : Nat) (x1 : Int32) (x2 : Int32), Rl_differencesNow_4 c_m c_echoes n x1 x2 = some y1 → V X 0 0 (wR a T c_m c_saved c_savedCount c_script c_scriptLength c_code c_lineParts c_lengths c_fractions c_pulseMany c_times c_energies c_far c_near c_echoes c_left c_dropped c_merged c_drops c_contributions c_packet c_peelResult c_peelTime c_peelSum c_at c_commands c_draft c_hash) [(0, .ref (a 0)), (1, .int x1), (2, .int x2)] 4 [] := by
  intro n
  induction n with
  | zero =>
    intro _ _ hf
    cases hf
  | succ n hrec =>
    intro x1 x2 hf
    rw [Rl_differencesNow_4] at hf
    refine v_iload_n 2 C dX10_differencesNow_4 rfl rfl ?_
    refine v_aload_n 0 C dX10_differencesNow_5 rfl rfl ?_
    refine Rc_window C dX10_differencesNow_6 (by decide) (Nat.le_of_ble_eq_true rfl) hf (fun r6 hf => ?_)
    refine v_icmp_gt 45 C dX10_differencesNow_9 (by decide) hf (fun c hf => ?_) (fun c hf => ?_)
    · refine v_lv [(1, .int x1)] [1] rfl ?_
      cases hf
      exact hk
    · refine v_iload_n 1 C dX10_differencesNow_12 rfl rfl ?_
      refine v_aload_n 0 C dX10_differencesNow_13 rfl rfl ?_
      refine Rg_echoes C dX10_differencesNow_14 ?_
      refine v_iload_n 2 C dX10_differencesNow_17 rfl rfl ?_
      refine Ral_echoes C dX10_differencesNow_18 hf (fun z18 hf => ?_)
      refine v_aload_n 0 C dX10_differencesNow_19 rfl rfl ?_
      refine Rg_m C dX10_differencesNow_20 ?_
      refine v_bipush (v := 29) C dX10_differencesNow_23 (by decide) ?_
      refine v_iload_n 2 C dX10_differencesNow_25 rfl rfl ?_
      refine v_iadd C dX10_differencesNow_26 hf (fun z26 hf => ?_)
      refine Ral_m C dX10_differencesNow_27 hf (fun z27 hf => ?_)
      refine v_lcmp_eq 36 C dX10_differencesNow_28 dX10_differencesNow_29 (by decide) hf (fun c hf => ?_) (fun c hf => ?_)
      · refine v_iconst (v := 0) C dX10_differencesNow_36 (by decide) ?_
        refine v_lv [(0, .ref (a 0)), (2, .int x2)] [0, 2] rfl ?_
        exact Rb_differencesNow_37 C hrec hk hf
      · refine v_iconst (v := 1) C dX10_differencesNow_32 (by decide) ?_
        refine v_goto 37 C dX10_differencesNow_33 (by decide) ?_
        refine v_lv [(0, .ref (a 0)), (2, .int x2)] [0, 2] rfl ?_
        exact Rb_differencesNow_37 C hrec hk hf
def Rf_differencesNow (c_m : Nat → Int64) (c_echoes : Nat → Int64) : Option Int32 :=
  bd (Rl_differencesNow_4 c_m c_echoes FUEL (0 : Int32) (0 : Int32)) fun y1_4 =>
  some y1_4
set_option maxRecDepth 100000 in
set_option maxHeartbeats 4000000 in
theorem Rb_differencesNow (C : Cx X G T cX10_differencesNow RX10 (some .int) 3 1 20)  {r : Int32} (hret : RetOK X 0 0 (some (.int r)) (wR a T c_m c_saved c_savedCount c_script c_scriptLength c_code c_lineParts c_lengths c_fractions c_pulseMany c_times c_energies c_far c_near c_echoes c_left c_dropped c_merged c_drops c_contributions c_packet c_peelResult c_peelTime c_peelSum c_at c_commands c_draft c_hash)) (hf : Rf_differencesNow c_m c_echoes = some r) : V X 0 0 (wR a T c_m c_saved c_savedCount c_script c_scriptLength c_code c_lineParts c_lengths c_fractions c_pulseMany c_times c_energies c_far c_near c_echoes c_left c_dropped c_merged c_drops c_contributions c_packet c_peelResult c_peelTime c_peelSum c_at c_commands c_draft c_hash) [(0, .ref (a 0))] 0 [] := by
  unfold Rf_differencesNow at hf
  refine v_iconst (v := 0) C dX10_differencesNow_0 (by decide) ?_
  refine v_istore_n [(0, .ref (a 0)), (1, .int (0 : Int32))] [1, 0] C dX10_differencesNow_1 rfl (by decide) rfl ?_
  refine v_iconst (v := 0) C dX10_differencesNow_2 (by decide) ?_
  refine v_istore_n [(0, .ref (a 0)), (1, .int (0 : Int32)), (2, .int (0 : Int32))] [1, 2, 0] C dX10_differencesNow_3 rfl (by decide) rfl ?_
  obtain ⟨y1_4, hc, hf⟩ := bd_some hf
  refine Rk_differencesNow_4 C ?_ _ _ _ hc
  refine v_iload_n 0 C dX10_differencesNow_45 rfl rfl ?_
  cases hf
  exact v_iret C hret dX10_differencesNow_46
set_option maxRecDepth 100000 in
set_option maxHeartbeats 4000000 in
theorem Rm_differencesNow {D : va_G}  {r : Int32} (hf : Rf_differencesNow c_m c_echoes = some r) : MetM G yX10_differencesNow cX10_differencesNow 3 (some .int) { frames := 1, cells := 0, slots := 0, locals := 20 } D T [.ref (a 0)] (wR a T c_m c_saved c_savedCount c_script c_scriptLength c_code c_lineParts c_lengths c_fractions c_pulseMany c_times c_energies c_far c_near c_echoes c_left c_dropped c_merged c_drops c_contributions c_packet c_peelResult c_peelTime c_peelSum c_at c_commands c_draft c_hash) (some (.int r)) (wR a T c_m c_saved c_savedCount c_script c_scriptLength c_code c_lineParts c_lengths c_fractions c_pulseMany c_times c_energies c_far c_near c_echoes c_left c_dropped c_merged c_drops c_contributions c_packet c_peelResult c_peelTime c_peelSum c_at c_commands c_draft c_hash) :=
  MetM.of [(0, .ref (a 0))] (by decide) (Nat.le_of_ble_eq_true rfl) rfl (fun X C hret => Rb_differencesNow C hret hf)
set_option maxRecDepth 100000 in
theorem Rc_differencesNow  {cc : ByteArray} {ret : Option FieldType} {nl fr lo pc : Nat} {lv : List (Nat × Value)} {rest : List Value} {β : Type} {K : Int32 → Option β} {oo : β} (C : Cx X G T cc RX10 ret nl fr lo) (hdg : decode cc pc = .ok (.invokevirtual 218, 3)) (hroom : 1 + 1 ≤ fr ∧ 8 + (3 + 11) + 20 ≤ lo) (hst : (rest.map fun v => v.category).sum ≤ 8) (hf : bd (Rf_differencesNow c_m c_echoes) K = some oo) (kk : ∀ (r : Int32), K r = some oo → V X 0 0 (wR a T c_m c_saved c_savedCount c_script c_scriptLength c_code c_lineParts c_lengths c_fractions c_pulseMany c_times c_energies c_far c_near c_echoes c_left c_dropped c_merged c_drops c_contributions c_packet c_peelResult c_peelTime c_peelSum c_at c_commands c_draft c_hash) lv (pc + 3) (.int r :: rest)) : V X 0 0 (wR a T c_m c_saved c_savedCount c_script c_scriptLength c_code c_lineParts c_lengths c_fractions c_pulseMany c_times c_energies c_far c_near c_echoes c_left c_dropped c_merged c_drops c_contributions c_packet c_peelResult c_peelTime c_peelSum c_at c_commands c_draft c_hash) lv pc (.ref (a 0) :: rest) := by
  obtain ⟨r, hc, hk⟩ := bd_some hf
  exact v_callV (As := []) (rest := rest) (q0 := 0) 0 C (CapOK.z X) (fun D => Rm_differencesNow hc) (goodV wmethodLink_RX10_218_yX10_differencesNow winstanceMethod_yX10_differencesNow wselects_RX10_yX10_differencesNow_yX10_differencesNow winitialized_RX10 wcode_yX10_differencesNow_cX10_differencesNow_3_some_int) (by decide +kernel) hroom ⟨rfl, rfl⟩ rfl rfl rfl hst hdg (kk r hk)
def Rf_differences (c_m : Nat → Int64) (c_code : Int32) (c_lineParts : Int32) (c_lengths : Nat → Int32) (c_fractions : Nat → Int32) (c_pulseMany : Int32) (c_times : Nat → Int32) (c_energies : Nat → Int64) (c_far : Nat → Int64) (c_near : Nat → Int64) (c_echoes : Nat → Int64) (c_left : Int64) (c_dropped : Int64) (c_merged : Int32) (c_drops : Int32) (c_contributions : Int32) (c_packet : Int64) : Option (Int32 × Int32 × (Nat → Int32) × (Nat → Int32) × Int32 × (Nat → Int32) × (Nat → Int64) × (Nat → Int64) × (Nat → Int64) × (Nat → Int64) × Int64 × Int64 × Int32 × Int32 × Int32 × Int64 × Int32) :=
  bd (Rf_runPresent c_m c_lineParts c_lengths c_fractions c_pulseMany c_times c_energies c_far c_near c_echoes c_left c_dropped c_merged c_drops c_contributions c_packet) fun (lineParts_6, lengths_6, fractions_6, pulseMany_6, times_6, energies_6, far_6, near_6, echoes_6, left_6, dropped_6, merged_6, drops_6, contributions_6, packet_6) =>
  bd (Rf_differencesNow c_m echoes_6) fun r10 =>
  some ((0 : Int32), lineParts_6, lengths_6, fractions_6, pulseMany_6, times_6, energies_6, far_6, near_6, echoes_6, left_6, dropped_6, merged_6, drops_6, contributions_6, packet_6, r10)
set_option maxRecDepth 100000 in
set_option maxHeartbeats 4000000 in
theorem Rb_differences (C : Cx X G T cX10_differences RX10 (some .int) 1 5 117)  {o_code : Int32} {o_lineParts : Int32} {o_lengths : Nat → Int32} {o_fractions : Nat → Int32} {o_pulseMany : Int32} {o_times : Nat → Int32} {o_energies : Nat → Int64} {o_far : Nat → Int64} {o_near : Nat → Int64} {o_echoes : Nat → Int64} {o_left : Int64} {o_dropped : Int64} {o_merged : Int32} {o_drops : Int32} {o_contributions : Int32} {o_packet : Int64} {r : Int32} (hret : RetOK X 0 0 (some (.int r)) (wR a T c_m c_saved c_savedCount c_script c_scriptLength o_code o_lineParts o_lengths o_fractions o_pulseMany o_times o_energies o_far o_near o_echoes o_left o_dropped o_merged o_drops o_contributions o_packet c_peelResult c_peelTime c_peelSum c_at c_commands c_draft c_hash)) (hf : Rf_differences c_m c_code c_lineParts c_lengths c_fractions c_pulseMany c_times c_energies c_far c_near c_echoes c_left c_dropped c_merged c_drops c_contributions c_packet = some (o_code, o_lineParts, o_lengths, o_fractions, o_pulseMany, o_times, o_energies, o_far, o_near, o_echoes, o_left, o_dropped, o_merged, o_drops, o_contributions, o_packet, r)) : V X 0 0 (wR a T c_m c_saved c_savedCount c_script c_scriptLength c_code c_lineParts c_lengths c_fractions c_pulseMany c_times c_energies c_far c_near c_echoes c_left c_dropped c_merged c_drops c_contributions c_packet c_peelResult c_peelTime c_peelSum c_at c_commands c_draft c_hash) [(0, .ref (a 0))] 0 [] := by
  unfold Rf_differences at hf
  refine v_aload_n 0 C dX10_differences_0 rfl rfl ?_
  refine v_iconst (v := 0) C dX10_differences_1 (by decide) ?_
  refine Rp_code C dX10_differences_2 ?_
  refine v_aload_n 0 C dX10_differences_5 rfl rfl ?_
  refine Rc_runPresent C dX10_differences_6 (by decide) (Nat.le_of_ble_eq_true rfl) hf (fun lineParts_6 lengths_6 fractions_6 pulseMany_6 times_6 energies_6 far_6 near_6 echoes_6 left_6 dropped_6 merged_6 drops_6 contributions_6 packet_6 hf => ?_)
  refine v_aload_n 0 C dX10_differences_9 rfl rfl ?_
  refine Rc_differencesNow C dX10_differences_10 (by decide) (Nat.le_of_ble_eq_true rfl) hf (fun r10 hf => ?_)
  cases hf
  exact v_iret C hret dX10_differences_13
set_option maxRecDepth 100000 in
set_option maxHeartbeats 4000000 in
theorem Rm_differences {D : va_G}  {o_code : Int32} {o_lineParts : Int32} {o_lengths : Nat → Int32} {o_fractions : Nat → Int32} {o_pulseMany : Int32} {o_times : Nat → Int32} {o_energies : Nat → Int64} {o_far : Nat → Int64} {o_near : Nat → Int64} {o_echoes : Nat → Int64} {o_left : Int64} {o_dropped : Int64} {o_merged : Int32} {o_drops : Int32} {o_contributions : Int32} {o_packet : Int64} {r : Int32} (hf : Rf_differences c_m c_code c_lineParts c_lengths c_fractions c_pulseMany c_times c_energies c_far c_near c_echoes c_left c_dropped c_merged c_drops c_contributions c_packet = some (o_code, o_lineParts, o_lengths, o_fractions, o_pulseMany, o_times, o_energies, o_far, o_near, o_echoes, o_left, o_dropped, o_merged, o_drops, o_contributions, o_packet, r)) : MetM G yX10_differences cX10_differences 1 (some .int) { frames := 5, cells := 0, slots := 0, locals := 117 } D T [.ref (a 0)] (wR a T c_m c_saved c_savedCount c_script c_scriptLength c_code c_lineParts c_lengths c_fractions c_pulseMany c_times c_energies c_far c_near c_echoes c_left c_dropped c_merged c_drops c_contributions c_packet c_peelResult c_peelTime c_peelSum c_at c_commands c_draft c_hash) (some (.int r)) (wR a T c_m c_saved c_savedCount c_script c_scriptLength o_code o_lineParts o_lengths o_fractions o_pulseMany o_times o_energies o_far o_near o_echoes o_left o_dropped o_merged o_drops o_contributions o_packet c_peelResult c_peelTime c_peelSum c_at c_commands c_draft c_hash) :=
  MetM.of [(0, .ref (a 0))] (by decide) (Nat.le_of_ble_eq_true rfl) rfl (fun X C hret => Rb_differences C hret hf)
def Rf_earliest_37 (rec : Int32 → Int32 → Option Int32) (x2 : Int32) (s0 : Int32) : Option Int32 :=
  nm (x2 + (1 : Int32)) fun x2_38 =>
  rec s0 x2_38
set_option maxRecDepth 100000 in
set_option maxHeartbeats 4000000 in
theorem Rb_earliest_37 (C : Cx X G T cX10_earliest RX10 (some .int) 3 0 0) {rec : Int32 → Int32 → Option Int32} {x2 : Int32} {s0 : Int32} {y1 : Int32} (hrec : ∀ (x1 : Int32) (x2 : Int32), rec x1 x2 = some y1 → V X 0 0 (wR a T c_m c_saved c_savedCount c_script c_scriptLength c_code c_lineParts c_lengths c_fractions c_pulseMany c_times c_energies c_far c_near c_echoes c_left c_dropped c_merged c_drops c_contributions c_packet c_peelResult c_peelTime c_peelSum c_at c_commands c_draft c_hash) [(0, .ref (a 0)), (1, .int x1), (2, .int x2)] 9 []) (hk : V X 0 0 (wR a T c_m c_saved c_savedCount c_script c_scriptLength c_code c_lineParts c_lengths c_fractions c_pulseMany c_times c_energies c_far c_near c_echoes c_left c_dropped c_merged c_drops c_contributions c_packet c_peelResult c_peelTime c_peelSum c_at c_commands c_draft c_hash) [(1, .int y1)] 44 []) (hf : Rf_earliest_37 rec x2 s0 = some y1) : V X 0 0 (wR a T c_m c_saved c_savedCount c_script c_scriptLength c_code c_lineParts c_lengths c_fractions c_pulseMany c_times c_energies c_far c_near c_echoes c_left c_dropped c_merged c_drops c_contributions c_packet c_peelResult c_peelTime c_peelSum c_at c_commands c_draft c_hash) [(0, .ref (a 0)), (2, .int x2)] 37 [.int s0] := by
  unfold Rf_earliest_37 at hf
  refine v_istore_n [(0, .ref (a 0)), (1, .int s0), (2, .int x2)] [1, 0, 2] C dX10_earliest_37 rfl (by decide) rfl ?_
  refine v_iinc (fun x2_38 => [(0, .ref (a 0)), (1, .int s0), (2, .int x2_38)]) [1, 2, 0] C dX10_earliest_38 (j := 2) rfl (dv := 1) (by decide) (by decide) (fun _ => rfl) hf (fun x2_38 hf => ?_)
  refine v_goto 9 C dX10_earliest_41 (by decide) ?_
  exact hrec _ _ hf
def Rl_earliest_9 (c_pulseMany : Int32) (c_times : Nat → Int32) : Nat → Int32 → Int32 → Option Int32
  | 0, _, _ => none
  | n + 1, x1, x2 =>
    if c_pulseMany ≤ x2 then
      some x1
    else
      chk (inb x2 4) <| nm (c_times x2.toNatClampNeg) fun z22 =>
      if x1 ≤ z22 then
        Rf_earliest_37 (Rl_earliest_9 c_pulseMany c_times n) x2 x1
      else
        chk (inb x2 4) <| nm (c_times x2.toNatClampNeg) fun z32 =>
        Rf_earliest_37 (Rl_earliest_9 c_pulseMany c_times n) x2 z32
set_option maxRecDepth 100000 in
set_option maxHeartbeats 4000000 in
theorem Rk_earliest_9 (C : Cx X G T cX10_earliest RX10 (some .int) 3 0 0)  {y1 : Int32} (hk : V X 0 0 (wR a T c_m c_saved c_savedCount c_script c_scriptLength c_code c_lineParts c_lengths c_fractions c_pulseMany c_times c_energies c_far c_near c_echoes c_left c_dropped c_merged c_drops c_contributions c_packet c_peelResult c_peelTime c_peelSum c_at c_commands c_draft c_hash) [(1, .int y1)] 44 []) : ∀ (n : Nat) (x1 : Int32) (x2 : Int32), Rl_earliest_9 c_pulseMany c_times n x1 x2 = some y1 → V X 0 0 (wR a T c_m c_saved c_savedCount c_script c_scriptLength c_code c_lineParts c_lengths c_fractions c_pulseMany c_times c_energies c_far c_near c_echoes c_left c_dropped c_merged c_drops c_contributions c_packet c_peelResult c_peelTime c_peelSum c_at c_commands c_draft c_hash) [(0, .ref (a 0)), (1, .int x1), (2, .int x2)] 9 [] := by
  intro n
  induction n with
  | zero =>
    intro _ _ hf
    cases hf
  | succ n hrec =>
    intro x1 x2 hf
    rw [Rl_earliest_9] at hf
    refine v_iload_n 2 C dX10_earliest_9 rfl rfl ?_
    refine v_aload_n 0 C dX10_earliest_10 rfl rfl ?_
    refine Rg_pulseMany C dX10_earliest_11 ?_
    refine v_icmp_ge 44 C dX10_earliest_14 (by decide) hf (fun c hf => ?_) (fun c hf => ?_)
    · refine v_lv [(1, .int x1)] [1] rfl ?_
      cases hf
      exact hk
    · refine v_aload_n 0 C dX10_earliest_17 rfl rfl ?_
      refine Rg_times C dX10_earliest_18 ?_
      refine v_iload_n 2 C dX10_earliest_21 rfl rfl ?_
      refine Ral_times C dX10_earliest_22 hf (fun z22 hf => ?_)
      refine v_iload_n 1 C dX10_earliest_23 rfl rfl ?_
      refine v_icmp_ge 36 C dX10_earliest_24 (by decide) hf (fun c hf => ?_) (fun c hf => ?_)
      · refine v_iload_n 1 C dX10_earliest_36 rfl rfl ?_
        refine v_lv [(0, .ref (a 0)), (2, .int x2)] [0, 2] rfl ?_
        exact Rb_earliest_37 C hrec hk hf
      · refine v_aload_n 0 C dX10_earliest_27 rfl rfl ?_
        refine Rg_times C dX10_earliest_28 ?_
        refine v_iload_n 2 C dX10_earliest_31 rfl rfl ?_
        refine Ral_times C dX10_earliest_32 hf (fun z32 hf => ?_)
        refine v_goto 37 C dX10_earliest_33 (by decide) ?_
        refine v_lv [(0, .ref (a 0)), (2, .int x2)] [0, 2] rfl ?_
        exact Rb_earliest_37 C hrec hk hf
def Rf_earliest (c_pulseMany : Int32) (c_times : Nat → Int32) : Option Int32 :=
  chk (inb (0 : Int32) 4) <| nm (c_times (0 : Int32).toNatClampNeg) fun z5 =>
  bd (Rl_earliest_9 c_pulseMany c_times FUEL z5 (1 : Int32)) fun y1_9 =>
  some y1_9
set_option maxRecDepth 100000 in
set_option maxHeartbeats 4000000 in
theorem Rb_earliest (C : Cx X G T cX10_earliest RX10 (some .int) 3 0 0)  {r : Int32} (hret : RetOK X 0 0 (some (.int r)) (wR a T c_m c_saved c_savedCount c_script c_scriptLength c_code c_lineParts c_lengths c_fractions c_pulseMany c_times c_energies c_far c_near c_echoes c_left c_dropped c_merged c_drops c_contributions c_packet c_peelResult c_peelTime c_peelSum c_at c_commands c_draft c_hash)) (hf : Rf_earliest c_pulseMany c_times = some r) : V X 0 0 (wR a T c_m c_saved c_savedCount c_script c_scriptLength c_code c_lineParts c_lengths c_fractions c_pulseMany c_times c_energies c_far c_near c_echoes c_left c_dropped c_merged c_drops c_contributions c_packet c_peelResult c_peelTime c_peelSum c_at c_commands c_draft c_hash) [(0, .ref (a 0))] 0 [] := by
  unfold Rf_earliest at hf
  refine v_aload_n 0 C dX10_earliest_0 rfl rfl ?_
  refine Rg_times C dX10_earliest_1 ?_
  refine v_iconst (v := 0) C dX10_earliest_4 (by decide) ?_
  refine Ral_times C dX10_earliest_5 hf (fun z5 hf => ?_)
  refine v_istore_n [(0, .ref (a 0)), (1, .int z5)] [1, 0] C dX10_earliest_6 rfl (by decide) rfl ?_
  refine v_iconst (v := 1) C dX10_earliest_7 (by decide) ?_
  refine v_istore_n [(0, .ref (a 0)), (1, .int z5), (2, .int (1 : Int32))] [1, 2, 0] C dX10_earliest_8 rfl (by decide) rfl ?_
  obtain ⟨y1_9, hc, hf⟩ := bd_some hf
  refine Rk_earliest_9 C ?_ _ _ _ hc
  refine v_iload_n 0 C dX10_earliest_44 rfl rfl ?_
  cases hf
  exact v_iret C hret dX10_earliest_45
set_option maxRecDepth 100000 in
set_option maxHeartbeats 4000000 in
theorem Rm_earliest {D : va_G}  {r : Int32} (hf : Rf_earliest c_pulseMany c_times = some r) : MetM G yX10_earliest cX10_earliest 3 (some .int) { frames := 0, cells := 0, slots := 0, locals := 0 } D T [.ref (a 0)] (wR a T c_m c_saved c_savedCount c_script c_scriptLength c_code c_lineParts c_lengths c_fractions c_pulseMany c_times c_energies c_far c_near c_echoes c_left c_dropped c_merged c_drops c_contributions c_packet c_peelResult c_peelTime c_peelSum c_at c_commands c_draft c_hash) (some (.int r)) (wR a T c_m c_saved c_savedCount c_script c_scriptLength c_code c_lineParts c_lengths c_fractions c_pulseMany c_times c_energies c_far c_near c_echoes c_left c_dropped c_merged c_drops c_contributions c_packet c_peelResult c_peelTime c_peelSum c_at c_commands c_draft c_hash) :=
  MetM.of [(0, .ref (a 0))] (by decide) (Nat.le_of_ble_eq_true rfl) rfl (fun X C hret => Rb_earliest C hret hf)
set_option maxRecDepth 100000 in
theorem Rc_earliest  {cc : ByteArray} {ret : Option FieldType} {nl fr lo pc : Nat} {lv : List (Nat × Value)} {rest : List Value} {β : Type} {K : Int32 → Option β} {oo : β} (C : Cx X G T cc RX10 ret nl fr lo) (hdg : decode cc pc = .ok (.invokevirtual 221, 3)) (hroom : 0 + 1 ≤ fr ∧ 8 + (3 + 11) + 0 ≤ lo) (hst : (rest.map fun v => v.category).sum ≤ 8) (hf : bd (Rf_earliest c_pulseMany c_times) K = some oo) (kk : ∀ (r : Int32), K r = some oo → V X 0 0 (wR a T c_m c_saved c_savedCount c_script c_scriptLength c_code c_lineParts c_lengths c_fractions c_pulseMany c_times c_energies c_far c_near c_echoes c_left c_dropped c_merged c_drops c_contributions c_packet c_peelResult c_peelTime c_peelSum c_at c_commands c_draft c_hash) lv (pc + 3) (.int r :: rest)) : V X 0 0 (wR a T c_m c_saved c_savedCount c_script c_scriptLength c_code c_lineParts c_lengths c_fractions c_pulseMany c_times c_energies c_far c_near c_echoes c_left c_dropped c_merged c_drops c_contributions c_packet c_peelResult c_peelTime c_peelSum c_at c_commands c_draft c_hash) lv pc (.ref (a 0) :: rest) := by
  obtain ⟨r, hc, hk⟩ := bd_some hf
  exact v_callV (As := []) (rest := rest) (q0 := 0) 0 C (CapOK.z X) (fun D => Rm_earliest hc) (goodV wmethodLink_RX10_221_yX10_earliest winstanceMethod_yX10_earliest wselects_RX10_yX10_earliest_yX10_earliest winitialized_RX10 wcode_yX10_earliest_cX10_earliest_3_some_int) (by decide +kernel) hroom ⟨rfl, rfl⟩ rfl rfl rfl hst hdg (kk r hk)
def Rl_faultOf_2 (c_m : Nat → Int64) (c_echoes : Nat → Int64) (x1 : Int32) : Nat → Int32 → Option Int32
  | 0, _ => none
  | n + 1, x2 =>
    bd (Rf_window c_m) fun r4 =>
    if r4 < x2 then
      some x2
    else
      chk (inb x2 201) <| nm (c_echoes x2.toNatClampNeg) fun z15 =>
      nm ((29 : Int32) + x2) fun z23 =>
      chk (inb z23 431) <| nm (c_m z23.toNatClampNeg) fun z24 =>
      if z15 = z24 then
        nm (x2 + (1 : Int32)) fun x2_29 =>
        Rl_faultOf_2 c_m c_echoes x1 n x2_29
      else
        some x2
set_option maxRecDepth 100000 in
set_option maxHeartbeats 4000000 in
theorem Rk_faultOf_2 (C : Cx X G T cX10_faultOf RX10 (some .int) 5 1 23) {x1 : Int32} {y2 : Int32} (hk : V X 0 0 (wR a T c_m c_saved c_savedCount c_script c_scriptLength c_code c_lineParts c_lengths c_fractions c_pulseMany c_times c_energies c_far c_near c_echoes c_left c_dropped c_merged c_drops c_contributions c_packet c_peelResult c_peelTime c_peelSum c_at c_commands c_draft c_hash) [(0, .ref (a 0)), (1, .int x1), (2, .int y2)] 35 []) : ∀ (n : Nat) (x2 : Int32), Rl_faultOf_2 c_m c_echoes x1 n x2 = some y2 → V X 0 0 (wR a T c_m c_saved c_savedCount c_script c_scriptLength c_code c_lineParts c_lengths c_fractions c_pulseMany c_times c_energies c_far c_near c_echoes c_left c_dropped c_merged c_drops c_contributions c_packet c_peelResult c_peelTime c_peelSum c_at c_commands c_draft c_hash) [(0, .ref (a 0)), (1, .int x1), (2, .int x2)] 2 [] := by
  intro n
  induction n with
  | zero =>
    intro _ hf
    cases hf
  | succ n hrec =>
    intro x2 hf
    rw [Rl_faultOf_2] at hf
    refine v_iload_n 2 C dX10_faultOf_2 rfl rfl ?_
    refine v_aload_n 0 C dX10_faultOf_3 rfl rfl ?_
    refine Rc_window C dX10_faultOf_4 (by decide) (Nat.le_of_ble_eq_true rfl) hf (fun r4 hf => ?_)
    refine v_icmp_gt 35 C dX10_faultOf_7 (by decide) hf (fun c hf => ?_) (fun c hf => ?_)
    · cases hf
      exact hk
    · refine v_aload_n 0 C dX10_faultOf_10 rfl rfl ?_
      refine Rg_echoes C dX10_faultOf_11 ?_
      refine v_iload_n 2 C dX10_faultOf_14 rfl rfl ?_
      refine Ral_echoes C dX10_faultOf_15 hf (fun z15 hf => ?_)
      refine v_aload_n 0 C dX10_faultOf_16 rfl rfl ?_
      refine Rg_m C dX10_faultOf_17 ?_
      refine v_bipush (v := 29) C dX10_faultOf_20 (by decide) ?_
      refine v_iload_n 2 C dX10_faultOf_22 rfl rfl ?_
      refine v_iadd C dX10_faultOf_23 hf (fun z23 hf => ?_)
      refine Ral_m C dX10_faultOf_24 hf (fun z24 hf => ?_)
      refine v_lcmp_ne 35 C dX10_faultOf_25 dX10_faultOf_26 (by decide) hf (fun c hf => ?_) (fun c hf => ?_)
      · refine v_iinc (fun x2_29 => [(0, .ref (a 0)), (1, .int x1), (2, .int x2_29)]) [1, 2, 0] C dX10_faultOf_29 (j := 2) rfl (dv := 1) (by decide) (by decide) (fun _ => rfl) hf (fun x2_29 hf => ?_)
        refine v_goto 2 C dX10_faultOf_32 (by decide) ?_
        exact hrec _ hf
      · cases hf
        exact hk
def Rf_faultOf_151 (rec : Int32 → Option (Int32 ⊕ Unit)) (x3 : Int32) (x4 : Int32) : Option (Int32 ⊕ Unit) :=
  nm (x4 + (1 : Int32)) fun x4_151 =>
  rec x4_151
set_option maxRecDepth 100000 in
set_option maxHeartbeats 4000000 in
theorem Rb_faultOf_151 (C : Cx X G T cX10_faultOf RX10 (some .int) 5 1 23) {rec : Int32 → Option (Int32 ⊕ Unit)} {x3 : Int32} {x4 : Int32} {o : (Int32 ⊕ Unit)} (hrec : ∀ (x4 : Int32), rec x4 = some o → V X 0 0 (wR a T c_m c_saved c_savedCount c_script c_scriptLength c_code c_lineParts c_lengths c_fractions c_pulseMany c_times c_energies c_far c_near c_echoes c_left c_dropped c_merged c_drops c_contributions c_packet c_peelResult c_peelTime c_peelSum c_at c_commands c_draft c_hash) [(0, .ref (a 0)), (3, .int x3), (4, .int x4)] 100 []) (hk0 : ∀ (y4 : Int32), o = .inl y4 → V X 0 0 (wR a T c_m c_saved c_savedCount c_script c_scriptLength c_code c_lineParts c_lengths c_fractions c_pulseMany c_times c_energies c_far c_near c_echoes c_left c_dropped c_merged c_drops c_contributions c_packet c_peelResult c_peelTime c_peelSum c_at c_commands c_draft c_hash) [(4, .int y4)] 148 []) (hk1 :  o = .inr () → V X 0 0 (wR a T c_m c_saved c_savedCount c_script c_scriptLength c_code c_lineParts c_lengths c_fractions c_pulseMany c_times c_energies c_far c_near c_echoes c_left c_dropped c_merged c_drops c_contributions c_packet c_peelResult c_peelTime c_peelSum c_at c_commands c_draft c_hash) [] 157 []) (hf : Rf_faultOf_151 rec x3 x4 = some o) : V X 0 0 (wR a T c_m c_saved c_savedCount c_script c_scriptLength c_code c_lineParts c_lengths c_fractions c_pulseMany c_times c_energies c_far c_near c_echoes c_left c_dropped c_merged c_drops c_contributions c_packet c_peelResult c_peelTime c_peelSum c_at c_commands c_draft c_hash) [(0, .ref (a 0)), (3, .int x3), (4, .int x4)] 151 [] := by
  unfold Rf_faultOf_151 at hf
  refine v_iinc (fun x4_151 => [(0, .ref (a 0)), (3, .int x3), (4, .int x4_151)]) [1, 2, 0] C dX10_faultOf_151 (j := 2) rfl (dv := 1) (by decide) (by decide) (fun _ => rfl) hf (fun x4_151 hf => ?_)
  refine v_goto 100 C dX10_faultOf_154 (by decide) ?_
  exact hrec _ hf
def Rl_faultOf_100 (c_m : Nat → Int64) (x3 : Int32) : Nat → Int32 → Option (Int32 ⊕ Unit)
  | 0, _ => none
  | n + 1, x4 =>
    bd (Rf_parts c_m) fun r103 =>
    if r103 ≤ x4 then
      some (.inr ())
    else
      nm (x3.toInt64) fun z110 =>
      bd (Rf_upTo c_m x4) fun r117 =>
      nm (r117.toInt64) fun z120 =>
      nm ((1 : Int32) + x4) fun z128 =>
      chk (inb z128 431) <| nm (c_m z128.toNatClampNeg) fun z129 =>
      nm (z120 - z129) fun z130 =>
      nm ((2 : Int64) * z130) fun z131 =>
      if z110 ≤ z131 then
        Rf_faultOf_151 (Rl_faultOf_100 c_m x3 n) x3 x4
      else
        bd (Rf_upTo c_m x4) fun r141 =>
        nm ((2 : Int32) * r141) fun z144 =>
        if z144 < x3 then
          Rf_faultOf_151 (Rl_faultOf_100 c_m x3 n) x3 x4
        else
          some (.inl x4)
set_option maxRecDepth 100000 in
set_option maxHeartbeats 4000000 in
theorem Rk_faultOf_100 (C : Cx X G T cX10_faultOf RX10 (some .int) 5 1 23) {x3 : Int32} {o : (Int32 ⊕ Unit)} (hk0 : ∀ (y4 : Int32), o = .inl y4 → V X 0 0 (wR a T c_m c_saved c_savedCount c_script c_scriptLength c_code c_lineParts c_lengths c_fractions c_pulseMany c_times c_energies c_far c_near c_echoes c_left c_dropped c_merged c_drops c_contributions c_packet c_peelResult c_peelTime c_peelSum c_at c_commands c_draft c_hash) [(4, .int y4)] 148 []) (hk1 :  o = .inr () → V X 0 0 (wR a T c_m c_saved c_savedCount c_script c_scriptLength c_code c_lineParts c_lengths c_fractions c_pulseMany c_times c_energies c_far c_near c_echoes c_left c_dropped c_merged c_drops c_contributions c_packet c_peelResult c_peelTime c_peelSum c_at c_commands c_draft c_hash) [] 157 []) : ∀ (n : Nat) (x4 : Int32), Rl_faultOf_100 c_m x3 n x4 = some o → V X 0 0 (wR a T c_m c_saved c_savedCount c_script c_scriptLength c_code c_lineParts c_lengths c_fractions c_pulseMany c_times c_energies c_far c_near c_echoes c_left c_dropped c_merged c_drops c_contributions c_packet c_peelResult c_peelTime c_peelSum c_at c_commands c_draft c_hash) [(0, .ref (a 0)), (3, .int x3), (4, .int x4)] 100 [] := by
  intro n
  induction n with
  | zero =>
    intro _ hf
    cases hf
  | succ n hrec =>
    intro x4 hf
    rw [Rl_faultOf_100] at hf
    refine v_iload 2 C dX10_faultOf_100 rfl ?_
    refine v_aload_n 0 C dX10_faultOf_102 rfl rfl ?_
    refine Rc_parts C dX10_faultOf_103 (by decide) (Nat.le_of_ble_eq_true rfl) hf (fun r103 hf => ?_)
    refine v_icmp_ge 157 C dX10_faultOf_106 (by decide) hf (fun c hf => ?_) (fun c hf => ?_)
    · refine v_lv [] [] rfl ?_
      cases hf
      exact hk1  rfl
    · refine v_iload_n 1 C dX10_faultOf_109 rfl rfl ?_
      refine v_i2l C dX10_faultOf_110 hf (fun z110 hf => ?_)
      refine v_ldc2 (v := 2) C wconstantLong_RX10_183_2 dX10_faultOf_111 ?_
      refine v_aload_n 0 C dX10_faultOf_114 rfl rfl ?_
      refine v_iload 2 C dX10_faultOf_115 rfl ?_
      refine Rc_upTo C dX10_faultOf_117 (by decide) (Nat.le_of_ble_eq_true rfl) hf (fun r117 hf => ?_)
      refine v_i2l C dX10_faultOf_120 hf (fun z120 hf => ?_)
      refine v_aload_n 0 C dX10_faultOf_121 rfl rfl ?_
      refine Rg_m C dX10_faultOf_122 ?_
      refine v_iconst (v := 1) C dX10_faultOf_125 (by decide) ?_
      refine v_iload 2 C dX10_faultOf_126 rfl ?_
      refine v_iadd C dX10_faultOf_128 hf (fun z128 hf => ?_)
      refine Ral_m C dX10_faultOf_129 hf (fun z129 hf => ?_)
      refine v_lsub C dX10_faultOf_130 hf (fun z130 hf => ?_)
      refine v_lmul C dX10_faultOf_131 hf (fun z131 hf => ?_)
      refine v_lcmp_le 151 C dX10_faultOf_132 dX10_faultOf_133 (by decide) hf (fun c hf => ?_) (fun c hf => ?_)
      · exact Rb_faultOf_151 C hrec hk0 hk1 hf
      · refine v_iload_n 1 C dX10_faultOf_136 rfl rfl ?_
        refine v_iconst (v := 2) C dX10_faultOf_137 (by decide) ?_
        refine v_aload_n 0 C dX10_faultOf_138 rfl rfl ?_
        refine v_iload 2 C dX10_faultOf_139 rfl ?_
        refine Rc_upTo C dX10_faultOf_141 (by decide) (Nat.le_of_ble_eq_true rfl) hf (fun r141 hf => ?_)
        refine v_imul C dX10_faultOf_144 hf (fun z144 hf => ?_)
        refine v_icmp_gt 151 C dX10_faultOf_145 (by decide) hf (fun c hf => ?_) (fun c hf => ?_)
        · exact Rb_faultOf_151 C hrec hk0 hk1 hf
        · refine v_lv [(4, .int x4)] [2] rfl ?_
          cases hf
          exact hk0 _ rfl
def Rf_faultOf_96 (s0 : Int32) : Option Int32 :=
  some s0
set_option maxRecDepth 100000 in
set_option maxHeartbeats 4000000 in
theorem Rb_faultOf_96 (C : Cx X G T cX10_faultOf RX10 (some .int) 5 1 23) {s0 : Int32} {r : Int32} (hret : RetOK X 0 0 (some (.int r)) (wR a T c_m c_saved c_savedCount c_script c_scriptLength c_code c_lineParts c_lengths c_fractions c_pulseMany c_times c_energies c_far c_near c_echoes c_left c_dropped c_merged c_drops c_contributions c_packet c_peelResult c_peelTime c_peelSum c_at c_commands c_draft c_hash)) (hf : Rf_faultOf_96 s0 = some r) : V X 0 0 (wR a T c_m c_saved c_savedCount c_script c_scriptLength c_code c_lineParts c_lengths c_fractions c_pulseMany c_times c_energies c_far c_near c_echoes c_left c_dropped c_merged c_drops c_contributions c_packet c_peelResult c_peelTime c_peelSum c_at c_commands c_draft c_hash) [] 96 [.int s0] := by
  unfold Rf_faultOf_96 at hf
  cases hf
  exact v_iret C hret dX10_faultOf_96
def Rf_faultOf_66 (s0 : Int32) : Option Int32 :=
  some s0
set_option maxRecDepth 100000 in
set_option maxHeartbeats 4000000 in
theorem Rb_faultOf_66 (C : Cx X G T cX10_faultOf RX10 (some .int) 5 1 23) {s0 : Int32} {r : Int32} (hret : RetOK X 0 0 (some (.int r)) (wR a T c_m c_saved c_savedCount c_script c_scriptLength c_code c_lineParts c_lengths c_fractions c_pulseMany c_times c_energies c_far c_near c_echoes c_left c_dropped c_merged c_drops c_contributions c_packet c_peelResult c_peelTime c_peelSum c_at c_commands c_draft c_hash)) (hf : Rf_faultOf_66 s0 = some r) : V X 0 0 (wR a T c_m c_saved c_savedCount c_script c_scriptLength c_code c_lineParts c_lengths c_fractions c_pulseMany c_times c_energies c_far c_near c_echoes c_left c_dropped c_merged c_drops c_contributions c_packet c_peelResult c_peelTime c_peelSum c_at c_commands c_draft c_hash) [] 66 [.int s0] := by
  unfold Rf_faultOf_66 at hf
  cases hf
  exact v_iret C hret dX10_faultOf_66
def Rf_faultOf_35 (c_m : Nat → Int64) (c_pulseMany : Int32) (c_times : Nat → Int32) (c_echoes : Nat → Int64) (x1 : Int32) (x2 : Int32) : Option Int32 :=
  bd (Rf_window c_m) fun r37 =>
  if x2 ≤ r37 then
    bd (Rf_earliest c_pulseMany c_times) fun r47 =>
    nm (x2 - r47) fun z50 =>
    if (2 : Int32) ≤ x1 then
      if x1 = (3 : Int32) then
        chk (inb x2 201) <| nm (c_echoes x2.toNatClampNeg) fun z77 =>
        nm ((29 : Int32) + x2) fun z85 =>
        chk (inb z85 431) <| nm (c_m z85.toNatClampNeg) fun z86 =>
        if z77 ≤ z86 then
          Rf_faultOf_96 (-1 : Int32)
        else
          Rf_faultOf_96 (1 : Int32)
      else
        bd (Rl_faultOf_100 c_m z50 FUEL (0 : Int32)) fun o => match o with
        | .inl y4_100 =>
          some y4_100
        | .inr _ =>
          some (-1 : Int32)
    else
      if x1 = 0 then
        Rf_faultOf_66 x2
      else
        Rf_faultOf_66 z50
  else
    some (-1 : Int32)
set_option maxRecDepth 100000 in
set_option maxHeartbeats 4000000 in
theorem Rb_faultOf_35 (C : Cx X G T cX10_faultOf RX10 (some .int) 5 1 23) {x1 : Int32} {x2 : Int32} {r : Int32} (hret : RetOK X 0 0 (some (.int r)) (wR a T c_m c_saved c_savedCount c_script c_scriptLength c_code c_lineParts c_lengths c_fractions c_pulseMany c_times c_energies c_far c_near c_echoes c_left c_dropped c_merged c_drops c_contributions c_packet c_peelResult c_peelTime c_peelSum c_at c_commands c_draft c_hash)) (hf : Rf_faultOf_35 c_m c_pulseMany c_times c_echoes x1 x2 = some r) : V X 0 0 (wR a T c_m c_saved c_savedCount c_script c_scriptLength c_code c_lineParts c_lengths c_fractions c_pulseMany c_times c_energies c_far c_near c_echoes c_left c_dropped c_merged c_drops c_contributions c_packet c_peelResult c_peelTime c_peelSum c_at c_commands c_draft c_hash) [(0, .ref (a 0)), (1, .int x1), (2, .int x2)] 35 [] := by
  unfold Rf_faultOf_35 at hf
  refine v_iload_n 2 C dX10_faultOf_35 rfl rfl ?_
  refine v_aload_n 0 C dX10_faultOf_36 rfl rfl ?_
  refine Rc_window C dX10_faultOf_37 (by decide) (Nat.le_of_ble_eq_true rfl) hf (fun r37 hf => ?_)
  refine v_icmp_le 45 C dX10_faultOf_40 (by decide) hf (fun c hf => ?_) (fun c hf => ?_)
  · refine v_iload_n 2 C dX10_faultOf_45 rfl rfl ?_
    refine v_aload_n 0 C dX10_faultOf_46 rfl rfl ?_
    refine Rc_earliest C dX10_faultOf_47 (by decide) (Nat.le_of_ble_eq_true rfl) hf (fun r47 hf => ?_)
    refine v_isub C dX10_faultOf_50 hf (fun z50 hf => ?_)
    refine v_istore_n [(0, .ref (a 0)), (1, .int x1), (2, .int x2), (3, .int z50)] [1, 2, 3, 0] C dX10_faultOf_51 rfl (by decide) rfl ?_
    refine v_iload_n 1 C dX10_faultOf_52 rfl rfl ?_
    refine v_iconst (v := 2) C dX10_faultOf_53 (by decide) ?_
    refine v_icmp_ge 67 C dX10_faultOf_54 (by decide) hf (fun c hf => ?_) (fun c hf => ?_)
    · refine v_iload_n 1 C dX10_faultOf_67 rfl rfl ?_
      refine v_iconst (v := 3) C dX10_faultOf_68 (by decide) ?_
      refine v_icmp_ne 97 C dX10_faultOf_69 (by decide) hf (fun c hf => ?_) (fun c hf => ?_)
      · refine v_aload_n 0 C dX10_faultOf_72 rfl rfl ?_
        refine Rg_echoes C dX10_faultOf_73 ?_
        refine v_iload_n 2 C dX10_faultOf_76 rfl rfl ?_
        refine Ral_echoes C dX10_faultOf_77 hf (fun z77 hf => ?_)
        refine v_aload_n 0 C dX10_faultOf_78 rfl rfl ?_
        refine Rg_m C dX10_faultOf_79 ?_
        refine v_bipush (v := 29) C dX10_faultOf_82 (by decide) ?_
        refine v_iload_n 2 C dX10_faultOf_84 rfl rfl ?_
        refine v_iadd C dX10_faultOf_85 hf (fun z85 hf => ?_)
        refine Ral_m C dX10_faultOf_86 hf (fun z86 hf => ?_)
        refine v_lcmp_le 95 C dX10_faultOf_87 dX10_faultOf_88 (by decide) hf (fun c hf => ?_) (fun c hf => ?_)
        · refine v_iconst (v := -1) C dX10_faultOf_95 (by decide) ?_
          refine v_lv [] [] rfl ?_
          exact Rb_faultOf_96 C hret hf
        · refine v_iconst (v := 1) C dX10_faultOf_91 (by decide) ?_
          refine v_goto 96 C dX10_faultOf_92 (by decide) ?_
          refine v_lv [] [] rfl ?_
          exact Rb_faultOf_96 C hret hf
      · refine v_iconst (v := 0) C dX10_faultOf_97 (by decide) ?_
        refine v_istore [(0, .ref (a 0)), (3, .int z50), (4, .int (0 : Int32))] [1, 4, 0] C dX10_faultOf_98 (by decide) rfl ?_
        obtain ⟨o, hc, hf⟩ := bd_some hf
        refine Rk_faultOf_100 C (fun y4_100 e => ?_) (fun e => ?_) _ _ hc
        · subst e
          refine v_iload 0 C dX10_faultOf_148 rfl ?_
          cases hf
          exact v_iret C hret dX10_faultOf_150
        · subst e
          refine v_iconst (v := -1) C dX10_faultOf_157 (by decide) ?_
          cases hf
          exact v_iret C hret dX10_faultOf_158
    · refine v_iload_n 1 C dX10_faultOf_57 rfl rfl ?_
      refine v_if_ne 65 C dX10_faultOf_58 (by decide) hf (fun c hf => ?_) (fun c hf => ?_)
      · refine v_iload_n 2 C dX10_faultOf_61 rfl rfl ?_
        refine v_goto 66 C dX10_faultOf_62 (by decide) ?_
        refine v_lv [] [] rfl ?_
        exact Rb_faultOf_66 C hret hf
      · refine v_iload_n 3 C dX10_faultOf_65 rfl rfl ?_
        refine v_lv [] [] rfl ?_
        exact Rb_faultOf_66 C hret hf
  · refine v_iconst (v := -1) C dX10_faultOf_43 (by decide) ?_
    cases hf
    exact v_iret C hret dX10_faultOf_44
def Rf_faultOf (c_m : Nat → Int64) (c_pulseMany : Int32) (c_times : Nat → Int32) (c_echoes : Nat → Int64) (x1 : Int32) : Option Int32 :=
  bd (Rl_faultOf_2 c_m c_echoes x1 FUEL (0 : Int32)) fun y2_2 =>
  Rf_faultOf_35 c_m c_pulseMany c_times c_echoes x1 y2_2
set_option maxRecDepth 100000 in
set_option maxHeartbeats 4000000 in
theorem Rb_faultOf (C : Cx X G T cX10_faultOf RX10 (some .int) 5 1 23) {x1 : Int32} {r : Int32} (hret : RetOK X 0 0 (some (.int r)) (wR a T c_m c_saved c_savedCount c_script c_scriptLength c_code c_lineParts c_lengths c_fractions c_pulseMany c_times c_energies c_far c_near c_echoes c_left c_dropped c_merged c_drops c_contributions c_packet c_peelResult c_peelTime c_peelSum c_at c_commands c_draft c_hash)) (hf : Rf_faultOf c_m c_pulseMany c_times c_echoes x1 = some r) : V X 0 0 (wR a T c_m c_saved c_savedCount c_script c_scriptLength c_code c_lineParts c_lengths c_fractions c_pulseMany c_times c_energies c_far c_near c_echoes c_left c_dropped c_merged c_drops c_contributions c_packet c_peelResult c_peelTime c_peelSum c_at c_commands c_draft c_hash) [(0, .ref (a 0)), (1, .int x1)] 0 [] := by
  unfold Rf_faultOf at hf
  refine v_iconst (v := 0) C dX10_faultOf_0 (by decide) ?_
  refine v_istore_n [(0, .ref (a 0)), (1, .int x1), (2, .int (0 : Int32))] [1, 2, 0] C dX10_faultOf_1 rfl (by decide) rfl ?_
  obtain ⟨y2_2, hc, hf⟩ := bd_some hf
  refine Rk_faultOf_2 C ?_ _ _ hc
  exact Rb_faultOf_35 C hret hf
set_option maxRecDepth 100000 in
set_option maxHeartbeats 4000000 in
theorem Rm_faultOf {D : va_G} {x1 : Int32} {r : Int32} (hf : Rf_faultOf c_m c_pulseMany c_times c_echoes x1 = some r) : MetM G yX10_faultOf cX10_faultOf 5 (some .int) { frames := 1, cells := 0, slots := 0, locals := 23 } D T [.ref (a 0), .int x1] (wR a T c_m c_saved c_savedCount c_script c_scriptLength c_code c_lineParts c_lengths c_fractions c_pulseMany c_times c_energies c_far c_near c_echoes c_left c_dropped c_merged c_drops c_contributions c_packet c_peelResult c_peelTime c_peelSum c_at c_commands c_draft c_hash) (some (.int r)) (wR a T c_m c_saved c_savedCount c_script c_scriptLength c_code c_lineParts c_lengths c_fractions c_pulseMany c_times c_energies c_far c_near c_echoes c_left c_dropped c_merged c_drops c_contributions c_packet c_peelResult c_peelTime c_peelSum c_at c_commands c_draft c_hash) :=
  MetM.of [(0, .ref (a 0)), (1, .int x1)] (by decide) (Nat.le_of_ble_eq_true rfl) rfl (fun X C hret => Rb_faultOf C hret hf)
set_option maxRecDepth 100000 in
theorem Rc_faultOf {x1 : Int32} {cc : ByteArray} {ret : Option FieldType} {nl fr lo pc : Nat} {lv : List (Nat × Value)} {rest : List Value} {β : Type} {K : Int32 → Option β} {oo : β} (C : Cx X G T cc RX10 ret nl fr lo) (hdg : decode cc pc = .ok (.invokevirtual 226, 3)) (hroom : 1 + 1 ≤ fr ∧ 8 + (5 + 11) + 23 ≤ lo) (hst : (rest.map fun v => v.category).sum ≤ 8) (hf : bd (Rf_faultOf c_m c_pulseMany c_times c_echoes x1) K = some oo) (kk : ∀ (r : Int32), K r = some oo → V X 0 0 (wR a T c_m c_saved c_savedCount c_script c_scriptLength c_code c_lineParts c_lengths c_fractions c_pulseMany c_times c_energies c_far c_near c_echoes c_left c_dropped c_merged c_drops c_contributions c_packet c_peelResult c_peelTime c_peelSum c_at c_commands c_draft c_hash) lv (pc + 3) (.int r :: rest)) : V X 0 0 (wR a T c_m c_saved c_savedCount c_script c_scriptLength c_code c_lineParts c_lengths c_fractions c_pulseMany c_times c_energies c_far c_near c_echoes c_left c_dropped c_merged c_drops c_contributions c_packet c_peelResult c_peelTime c_peelSum c_at c_commands c_draft c_hash) lv pc (.int x1 :: .ref (a 0) :: rest) := by
  obtain ⟨r, hc, hk⟩ := bd_some hf
  exact v_callV (As := [.int x1]) (rest := rest) (q0 := 0) 1 C (CapOK.z X) (fun D => Rm_faultOf hc) (goodV wmethodLink_RX10_226_yX10_faultOf winstanceMethod_yX10_faultOf wselects_RX10_yX10_faultOf_yX10_faultOf winitialized_RX10 wcode_yX10_faultOf_cX10_faultOf_5_some_int) (by decide +kernel) hroom ⟨rfl, rfl⟩ rfl rfl rfl hst hdg (kk r hk)
def Rf_fault_18 (c_m : Nat → Int64) (c_code : Int32) (c_lineParts : Int32) (c_lengths : Nat → Int32) (c_fractions : Nat → Int32) (c_pulseMany : Int32) (c_times : Nat → Int32) (c_energies : Nat → Int64) (c_far : Nat → Int64) (c_near : Nat → Int64) (c_echoes : Nat → Int64) (c_left : Int64) (c_dropped : Int64) (c_merged : Int32) (c_drops : Int32) (c_contributions : Int32) (c_packet : Int64) (x1 : Int32) (s1 : Int32) : Option (Int32 × Int32 × (Nat → Int32) × (Nat → Int32) × Int32 × (Nat → Int32) × (Nat → Int64) × (Nat → Int64) × (Nat → Int64) × (Nat → Int64) × Int64 × Int64 × Int32 × Int32 × Int32 × Int64 × Int32) :=
  if s1 = 0 then
    bd (Rf_runPresent c_m c_lineParts c_lengths c_fractions c_pulseMany c_times c_energies c_far c_near c_echoes c_left c_dropped c_merged c_drops c_contributions c_packet) fun (lineParts_31, lengths_31, fractions_31, pulseMany_31, times_31, energies_31, far_31, near_31, echoes_31, left_31, dropped_31, merged_31, drops_31, contributions_31, packet_31) =>
    bd (Rf_faultOf c_m pulseMany_31 times_31 echoes_31 x1) fun r36 =>
    some (s1, lineParts_31, lengths_31, fractions_31, pulseMany_31, times_31, energies_31, far_31, near_31, echoes_31, left_31, dropped_31, merged_31, drops_31, contributions_31, packet_31, r36)
  else
    some (s1, c_lineParts, c_lengths, c_fractions, c_pulseMany, c_times, c_energies, c_far, c_near, c_echoes, c_left, c_dropped, c_merged, c_drops, c_contributions, c_packet, (0 : Int32))
set_option maxRecDepth 100000 in
set_option maxHeartbeats 4000000 in
theorem Rb_fault_18 (C : Cx X G T cX10_fault RX10 (some .int) 2 5 117) {x1 : Int32} {s1 : Int32} {o_code : Int32} {o_lineParts : Int32} {o_lengths : Nat → Int32} {o_fractions : Nat → Int32} {o_pulseMany : Int32} {o_times : Nat → Int32} {o_energies : Nat → Int64} {o_far : Nat → Int64} {o_near : Nat → Int64} {o_echoes : Nat → Int64} {o_left : Int64} {o_dropped : Int64} {o_merged : Int32} {o_drops : Int32} {o_contributions : Int32} {o_packet : Int64} {r : Int32} (hret : RetOK X 0 0 (some (.int r)) (wR a T c_m c_saved c_savedCount c_script c_scriptLength o_code o_lineParts o_lengths o_fractions o_pulseMany o_times o_energies o_far o_near o_echoes o_left o_dropped o_merged o_drops o_contributions o_packet c_peelResult c_peelTime c_peelSum c_at c_commands c_draft c_hash)) (hf : Rf_fault_18 c_m c_code c_lineParts c_lengths c_fractions c_pulseMany c_times c_energies c_far c_near c_echoes c_left c_dropped c_merged c_drops c_contributions c_packet x1 s1 = some (o_code, o_lineParts, o_lengths, o_fractions, o_pulseMany, o_times, o_energies, o_far, o_near, o_echoes, o_left, o_dropped, o_merged, o_drops, o_contributions, o_packet, r)) : V X 0 0 (wR a T c_m c_saved c_savedCount c_script c_scriptLength c_code c_lineParts c_lengths c_fractions c_pulseMany c_times c_energies c_far c_near c_echoes c_left c_dropped c_merged c_drops c_contributions c_packet c_peelResult c_peelTime c_peelSum c_at c_commands c_draft c_hash) [(0, .ref (a 0)), (1, .int x1)] 18 [.int s1, .ref (a 0)] := by
  unfold Rf_fault_18 at hf
  refine Rp_code C dX10_fault_18 ?_
  refine v_aload_n 0 C dX10_fault_21 rfl rfl ?_
  refine Rg_code C dX10_fault_22 ?_
  refine v_if_eq 30 C dX10_fault_25 (by decide) hf (fun c hf => ?_) (fun c hf => ?_)
  · refine v_aload_n 0 C dX10_fault_30 rfl rfl ?_
    refine Rc_runPresent C dX10_fault_31 (by decide) (Nat.le_of_ble_eq_true rfl) hf (fun lineParts_31 lengths_31 fractions_31 pulseMany_31 times_31 energies_31 far_31 near_31 echoes_31 left_31 dropped_31 merged_31 drops_31 contributions_31 packet_31 hf => ?_)
    refine v_aload_n 0 C dX10_fault_34 rfl rfl ?_
    refine v_iload_n 1 C dX10_fault_35 rfl rfl ?_
    refine Rc_faultOf C dX10_fault_36 (by decide) (Nat.le_of_ble_eq_true rfl) hf (fun r36 hf => ?_)
    cases hf
    exact v_iret C hret dX10_fault_39
  · refine v_iconst (v := 0) C dX10_fault_28 (by decide) ?_
    cases hf
    exact v_iret C hret dX10_fault_29
def Rf_fault (c_m : Nat → Int64) (c_code : Int32) (c_lineParts : Int32) (c_lengths : Nat → Int32) (c_fractions : Nat → Int32) (c_pulseMany : Int32) (c_times : Nat → Int32) (c_energies : Nat → Int64) (c_far : Nat → Int64) (c_near : Nat → Int64) (c_echoes : Nat → Int64) (c_left : Int64) (c_dropped : Int64) (c_merged : Int32) (c_drops : Int32) (c_contributions : Int32) (c_packet : Int64) (x1 : Int32) : Option (Int32 × Int32 × (Nat → Int32) × (Nat → Int32) × Int32 × (Nat → Int32) × (Nat → Int64) × (Nat → Int64) × (Nat → Int64) × (Nat → Int64) × Int64 × Int64 × Int32 × Int32 × Int32 × Int64 × Int32) :=
  nm (x1.toInt64) fun z2 =>
  bd (Rf_in z2 (0 : Int64) (3 : Int64)) fun r7 =>
  if r7 = 0 then
    Rf_fault_18 c_m c_code c_lineParts c_lengths c_fractions c_pulseMany c_times c_energies c_far c_near c_echoes c_left c_dropped c_merged c_drops c_contributions c_packet x1 (1 : Int32)
  else
    Rf_fault_18 c_m c_code c_lineParts c_lengths c_fractions c_pulseMany c_times c_energies c_far c_near c_echoes c_left c_dropped c_merged c_drops c_contributions c_packet x1 (0 : Int32)
set_option maxRecDepth 100000 in
set_option maxHeartbeats 4000000 in
theorem Rb_fault (C : Cx X G T cX10_fault RX10 (some .int) 2 5 117) {x1 : Int32} {o_code : Int32} {o_lineParts : Int32} {o_lengths : Nat → Int32} {o_fractions : Nat → Int32} {o_pulseMany : Int32} {o_times : Nat → Int32} {o_energies : Nat → Int64} {o_far : Nat → Int64} {o_near : Nat → Int64} {o_echoes : Nat → Int64} {o_left : Int64} {o_dropped : Int64} {o_merged : Int32} {o_drops : Int32} {o_contributions : Int32} {o_packet : Int64} {r : Int32} (hret : RetOK X 0 0 (some (.int r)) (wR a T c_m c_saved c_savedCount c_script c_scriptLength o_code o_lineParts o_lengths o_fractions o_pulseMany o_times o_energies o_far o_near o_echoes o_left o_dropped o_merged o_drops o_contributions o_packet c_peelResult c_peelTime c_peelSum c_at c_commands c_draft c_hash)) (hf : Rf_fault c_m c_code c_lineParts c_lengths c_fractions c_pulseMany c_times c_energies c_far c_near c_echoes c_left c_dropped c_merged c_drops c_contributions c_packet x1 = some (o_code, o_lineParts, o_lengths, o_fractions, o_pulseMany, o_times, o_energies, o_far, o_near, o_echoes, o_left, o_dropped, o_merged, o_drops, o_contributions, o_packet, r)) : V X 0 0 (wR a T c_m c_saved c_savedCount c_script c_scriptLength c_code c_lineParts c_lengths c_fractions c_pulseMany c_times c_energies c_far c_near c_echoes c_left c_dropped c_merged c_drops c_contributions c_packet c_peelResult c_peelTime c_peelSum c_at c_commands c_draft c_hash) [(0, .ref (a 0)), (1, .int x1)] 0 [] := by
  unfold Rf_fault at hf
  refine v_aload_n 0 C dX10_fault_0 rfl rfl ?_
  refine v_iload_n 1 C dX10_fault_1 rfl rfl ?_
  refine v_i2l C dX10_fault_2 hf (fun z2 hf => ?_)
  refine v_lconst (v := 0) C dX10_fault_3 (by decide) ?_
  refine v_ldc2 (v := 3) C wconstantLong_RX10_224_3 dX10_fault_4 ?_
  refine Rc_in C dX10_fault_7 (by decide) (Nat.le_of_ble_eq_true rfl) hf (fun r7 hf => ?_)
  refine v_if_eq 17 C dX10_fault_10 (by decide) hf (fun c hf => ?_) (fun c hf => ?_)
  · refine v_iconst (v := 1) C dX10_fault_17 (by decide) ?_
    exact Rb_fault_18 C hret hf
  · refine v_iconst (v := 0) C dX10_fault_13 (by decide) ?_
    refine v_goto 18 C dX10_fault_14 (by decide) ?_
    exact Rb_fault_18 C hret hf
set_option maxRecDepth 100000 in
set_option maxHeartbeats 4000000 in
theorem Rm_fault {D : va_G} {x1 : Int32} {o_code : Int32} {o_lineParts : Int32} {o_lengths : Nat → Int32} {o_fractions : Nat → Int32} {o_pulseMany : Int32} {o_times : Nat → Int32} {o_energies : Nat → Int64} {o_far : Nat → Int64} {o_near : Nat → Int64} {o_echoes : Nat → Int64} {o_left : Int64} {o_dropped : Int64} {o_merged : Int32} {o_drops : Int32} {o_contributions : Int32} {o_packet : Int64} {r : Int32} (hf : Rf_fault c_m c_code c_lineParts c_lengths c_fractions c_pulseMany c_times c_energies c_far c_near c_echoes c_left c_dropped c_merged c_drops c_contributions c_packet x1 = some (o_code, o_lineParts, o_lengths, o_fractions, o_pulseMany, o_times, o_energies, o_far, o_near, o_echoes, o_left, o_dropped, o_merged, o_drops, o_contributions, o_packet, r)) : MetM G yX10_fault cX10_fault 2 (some .int) { frames := 5, cells := 0, slots := 0, locals := 117 } D T [.ref (a 0), .int x1] (wR a T c_m c_saved c_savedCount c_script c_scriptLength c_code c_lineParts c_lengths c_fractions c_pulseMany c_times c_energies c_far c_near c_echoes c_left c_dropped c_merged c_drops c_contributions c_packet c_peelResult c_peelTime c_peelSum c_at c_commands c_draft c_hash) (some (.int r)) (wR a T c_m c_saved c_savedCount c_script c_scriptLength o_code o_lineParts o_lengths o_fractions o_pulseMany o_times o_energies o_far o_near o_echoes o_left o_dropped o_merged o_drops o_contributions o_packet c_peelResult c_peelTime c_peelSum c_at c_commands c_draft c_hash) :=
  MetM.of [(0, .ref (a 0)), (1, .int x1)] (by decide) (Nat.le_of_ble_eq_true rfl) rfl (fun X C hret => Rb_fault C hret hf)
def Rf_observe (c_m : Nat → Int64) (c_saved : Nat → Int64) (c_savedCount : Int32) (c_code : Int32) (c_lineParts : Int32) (c_lengths : Nat → Int32) (c_fractions : Nat → Int32) (c_pulseMany : Int32) (c_times : Nat → Int32) (c_energies : Nat → Int64) (c_far : Nat → Int64) (c_near : Nat → Int64) (c_echoes : Nat → Int64) (c_left : Int64) (c_dropped : Int64) (c_merged : Int32) (c_drops : Int32) (c_contributions : Int32) (c_packet : Int64) : Option ((Nat → Int64) × (Nat → Int64) × Int32 × Int32 × Int32 × (Nat → Int32) × (Nat → Int32) × Int32 × (Nat → Int32) × (Nat → Int64) × (Nat → Int64) × (Nat → Int64) × (Nat → Int64) × Int64 × Int64 × Int32 × Int32 × Int32 × Int64 × Int32) :=
  bd (Rf_keep c_m c_saved c_savedCount) fun (saved_6, savedCount_6) =>
  bd (Rf_copies c_m c_lineParts c_lengths c_fractions c_pulseMany c_times c_energies c_far c_near c_echoes c_left c_dropped c_merged c_drops c_contributions c_packet (230 : Int32)) fun (m_13, lineParts_13, lengths_13, fractions_13, pulseMany_13, times_13, energies_13, far_13, near_13, echoes_13, left_13, dropped_13, merged_13, drops_13, contributions_13, packet_13, r13) =>
  some (m_13, saved_6, savedCount_6, (0 : Int32), lineParts_13, lengths_13, fractions_13, pulseMany_13, times_13, energies_13, far_13, near_13, echoes_13, left_13, dropped_13, merged_13, drops_13, contributions_13, packet_13, r13)
set_option maxRecDepth 100000 in
set_option maxHeartbeats 4000000 in
theorem Rb_observe (C : Cx X G T cX10_observe RX10 (some .int) 1 6 140)  {o_m : Nat → Int64} {o_saved : Nat → Int64} {o_savedCount : Int32} {o_code : Int32} {o_lineParts : Int32} {o_lengths : Nat → Int32} {o_fractions : Nat → Int32} {o_pulseMany : Int32} {o_times : Nat → Int32} {o_energies : Nat → Int64} {o_far : Nat → Int64} {o_near : Nat → Int64} {o_echoes : Nat → Int64} {o_left : Int64} {o_dropped : Int64} {o_merged : Int32} {o_drops : Int32} {o_contributions : Int32} {o_packet : Int64} {r : Int32} (hret : RetOK X 0 0 (some (.int r)) (wR a T o_m o_saved o_savedCount c_script c_scriptLength o_code o_lineParts o_lengths o_fractions o_pulseMany o_times o_energies o_far o_near o_echoes o_left o_dropped o_merged o_drops o_contributions o_packet c_peelResult c_peelTime c_peelSum c_at c_commands c_draft c_hash)) (hf : Rf_observe c_m c_saved c_savedCount c_code c_lineParts c_lengths c_fractions c_pulseMany c_times c_energies c_far c_near c_echoes c_left c_dropped c_merged c_drops c_contributions c_packet = some (o_m, o_saved, o_savedCount, o_code, o_lineParts, o_lengths, o_fractions, o_pulseMany, o_times, o_energies, o_far, o_near, o_echoes, o_left, o_dropped, o_merged, o_drops, o_contributions, o_packet, r)) : V X 0 0 (wR a T c_m c_saved c_savedCount c_script c_scriptLength c_code c_lineParts c_lengths c_fractions c_pulseMany c_times c_energies c_far c_near c_echoes c_left c_dropped c_merged c_drops c_contributions c_packet c_peelResult c_peelTime c_peelSum c_at c_commands c_draft c_hash) [(0, .ref (a 0))] 0 [] := by
  unfold Rf_observe at hf
  refine v_aload_n 0 C dX10_observe_0 rfl rfl ?_
  refine v_iconst (v := 0) C dX10_observe_1 (by decide) ?_
  refine Rp_code C dX10_observe_2 ?_
  refine v_aload_n 0 C dX10_observe_5 rfl rfl ?_
  refine Rc_keep C dX10_observe_6 (by decide) (Nat.le_of_ble_eq_true rfl) hf (fun saved_6 savedCount_6 hf => ?_)
  refine v_aload_n 0 C dX10_observe_9 rfl rfl ?_
  refine v_sipush (v := 230) C dX10_observe_10 (by decide) ?_
  refine Rc_copies C dX10_observe_13 (by decide) (Nat.le_of_ble_eq_true rfl) hf (fun m_13 lineParts_13 lengths_13 fractions_13 pulseMany_13 times_13 energies_13 far_13 near_13 echoes_13 left_13 dropped_13 merged_13 drops_13 contributions_13 packet_13 r13 hf => ?_)
  cases hf
  exact v_iret C hret dX10_observe_16
set_option maxRecDepth 100000 in
set_option maxHeartbeats 4000000 in
theorem Rm_observe {D : va_G}  {o_m : Nat → Int64} {o_saved : Nat → Int64} {o_savedCount : Int32} {o_code : Int32} {o_lineParts : Int32} {o_lengths : Nat → Int32} {o_fractions : Nat → Int32} {o_pulseMany : Int32} {o_times : Nat → Int32} {o_energies : Nat → Int64} {o_far : Nat → Int64} {o_near : Nat → Int64} {o_echoes : Nat → Int64} {o_left : Int64} {o_dropped : Int64} {o_merged : Int32} {o_drops : Int32} {o_contributions : Int32} {o_packet : Int64} {r : Int32} (hf : Rf_observe c_m c_saved c_savedCount c_code c_lineParts c_lengths c_fractions c_pulseMany c_times c_energies c_far c_near c_echoes c_left c_dropped c_merged c_drops c_contributions c_packet = some (o_m, o_saved, o_savedCount, o_code, o_lineParts, o_lengths, o_fractions, o_pulseMany, o_times, o_energies, o_far, o_near, o_echoes, o_left, o_dropped, o_merged, o_drops, o_contributions, o_packet, r)) : MetM G yX10_observe cX10_observe 1 (some .int) { frames := 6, cells := 0, slots := 0, locals := 140 } D T [.ref (a 0)] (wR a T c_m c_saved c_savedCount c_script c_scriptLength c_code c_lineParts c_lengths c_fractions c_pulseMany c_times c_energies c_far c_near c_echoes c_left c_dropped c_merged c_drops c_contributions c_packet c_peelResult c_peelTime c_peelSum c_at c_commands c_draft c_hash) (some (.int r)) (wR a T o_m o_saved o_savedCount c_script c_scriptLength o_code o_lineParts o_lengths o_fractions o_pulseMany o_times o_energies o_far o_near o_echoes o_left o_dropped o_merged o_drops o_contributions o_packet c_peelResult c_peelTime c_peelSum c_at c_commands c_draft c_hash) :=
  MetM.of [(0, .ref (a 0))] (by decide) (Nat.le_of_ble_eq_true rfl) rfl (fun X C hret => Rb_observe C hret hf)
end RM3
