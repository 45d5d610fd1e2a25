section RM5
variable {X : CxT} {G : SG} {T : Nat → ClassId} {a : Nat → Nat} {w : va_W} {c_m : Nat → Int64} {c_saved : Nat → Int64} {c_savedCount : Int32} {c_script : Nat → Int32} {c_scriptLength : Int32} {c_code : Int32} {c_lineParts : Int32} {c_lengths : Nat → Int32} {c_fractions : Nat → Int32} {c_pulseMany : Int32} {c_times : Nat → Int32} {c_energies : Nat → Int64} {c_far : Nat → Int64} {c_near : Nat → Int64} {c_echoes : Nat → Int64} {c_left : Int64} {c_dropped : Int64} {c_merged : Int32} {c_drops : Int32} {c_contributions : Int32} {c_packet : Int64} {c_peelResult : Int32} {c_peelTime : Int32} {c_peelSum : Int32} {c_at : Int32} {c_commands : Int32} {c_draft : Nat → Int32} {c_hash : Int64}
def Rf_adopt (c_m : Nat → Int64) (c_saved : Nat → Int64) (c_savedCount : Int32) (c_code : Int32) (c_lineParts : Int32) (c_lengths : Nat → Int32) (c_fractions : Nat → Int32) (c_pulseMany : Int32) (c_times : Nat → Int32) (c_energies : Nat → Int64) (c_far : Nat → Int64) (c_near : Nat → Int64) (c_echoes : Nat → Int64) (c_left : Int64) (c_dropped : Int64) (c_merged : Int32) (c_drops : Int32) (c_contributions : Int32) (c_packet : Int64) (c_peelResult : Int32) (c_peelTime : Int32) (c_peelSum : Int32) : Option ((Nat → Int64) × (Nat → Int64) × Int32 × Int32 × Int32 × (Nat → Int32) × (Nat → Int32) × Int32 × (Nat → Int32) × (Nat → Int64) × (Nat → Int64) × (Nat → Int64) × (Nat → Int64) × Int64 × Int64 × Int32 × Int32 × Int32 × Int64 × Int32 × Int32 × Int32 × Int32) :=
  bd (Rf_keep c_m c_saved c_savedCount) fun (saved_6, savedCount_6) =>
  bd (Rf_adopts c_m c_lineParts c_lengths c_fractions c_pulseMany c_times c_energies c_far c_near c_echoes c_left c_dropped c_merged c_drops c_contributions c_packet c_peelResult c_peelTime c_peelSum) fun (m_10, lineParts_10, lengths_10, fractions_10, pulseMany_10, times_10, energies_10, far_10, near_10, echoes_10, left_10, dropped_10, merged_10, drops_10, contributions_10, packet_10, peelResult_10, peelTime_10, peelSum_10, r10) =>
  some (m_10, saved_6, savedCount_6, (0 : Int32), lineParts_10, lengths_10, fractions_10, pulseMany_10, times_10, energies_10, far_10, near_10, echoes_10, left_10, dropped_10, merged_10, drops_10, contributions_10, packet_10, peelResult_10, peelTime_10, peelSum_10, r10)
set_option maxRecDepth 100000 in
set_option maxHeartbeats 4000000 in
theorem Rb_adopt (C : Cx X G T cX10_adopt RX10 (some .int) 1 8 184)  {o_m : Nat → Int64} {o_saved : Nat → Int64} {o_savedCount : Int32} {o_code : Int32} {o_lineParts : Int32} {o_lengths : Nat → Int32} {o_fractions : Nat → Int32} {o_pulseMany : Int32} {o_times : Nat → Int32} {o_energies : Nat → Int64} {o_far : Nat → Int64} {o_near : Nat → Int64} {o_echoes : Nat → Int64} {o_left : Int64} {o_dropped : Int64} {o_merged : Int32} {o_drops : Int32} {o_contributions : Int32} {o_packet : Int64} {o_peelResult : Int32} {o_peelTime : Int32} {o_peelSum : Int32} {r : Int32} (hret : RetOK X 0 0 (some (.int r)) (wR a T o_m o_saved o_savedCount c_script c_scriptLength o_code o_lineParts o_lengths o_fractions o_pulseMany o_times o_energies o_far o_near o_echoes o_left o_dropped o_merged o_drops o_contributions o_packet o_peelResult o_peelTime o_peelSum c_at c_commands c_draft c_hash)) (hf : Rf_adopt c_m c_saved c_savedCount c_code c_lineParts c_lengths c_fractions c_pulseMany c_times c_energies c_far c_near c_echoes c_left c_dropped c_merged c_drops c_contributions c_packet c_peelResult c_peelTime c_peelSum = some (o_m, o_saved, o_savedCount, o_code, o_lineParts, o_lengths, o_fractions, o_pulseMany, o_times, o_energies, o_far, o_near, o_echoes, o_left, o_dropped, o_merged, o_drops, o_contributions, o_packet, o_peelResult, o_peelTime, o_peelSum, r)) : V X 0 0 (wR a T c_m c_saved c_savedCount c_script c_scriptLength c_code c_lineParts c_lengths c_fractions c_pulseMany c_times c_energies c_far c_near c_echoes c_left c_dropped c_merged c_drops c_contributions c_packet c_peelResult c_peelTime c_peelSum c_at c_commands c_draft c_hash) [(0, .ref (a 0))] 0 [] := by
  unfold Rf_adopt at hf
  refine v_aload_n 0 C dX10_adopt_0 rfl rfl ?_
  refine v_iconst (v := 0) C dX10_adopt_1 (by decide) ?_
  refine Rp_code C dX10_adopt_2 ?_
  refine v_aload_n 0 C dX10_adopt_5 rfl rfl ?_
  refine Rc_keep C dX10_adopt_6 (by decide) (Nat.le_of_ble_eq_true rfl) hf (fun saved_6 savedCount_6 hf => ?_)
  refine v_aload_n 0 C dX10_adopt_9 rfl rfl ?_
  refine Rc_adopts C dX10_adopt_10 (by decide) (Nat.le_of_ble_eq_true rfl) hf (fun m_10 lineParts_10 lengths_10 fractions_10 pulseMany_10 times_10 energies_10 far_10 near_10 echoes_10 left_10 dropped_10 merged_10 drops_10 contributions_10 packet_10 peelResult_10 peelTime_10 peelSum_10 r10 hf => ?_)
  cases hf
  exact v_iret C hret dX10_adopt_13
set_option maxRecDepth 100000 in
set_option maxHeartbeats 4000000 in
theorem Rm_adopt {D : va_G}  {o_m : Nat → Int64} {o_saved : Nat → Int64} {o_savedCount : Int32} {o_code : Int32} {o_lineParts : Int32} {o_lengths : Nat → Int32} {o_fractions : Nat → Int32} {o_pulseMany : Int32} {o_times : Nat → Int32} {o_energies : Nat → Int64} {o_far : Nat → Int64} {o_near : Nat → Int64} {o_echoes : Nat → Int64} {o_left : Int64} {o_dropped : Int64} {o_merged : Int32} {o_drops : Int32} {o_contributions : Int32} {o_packet : Int64} {o_peelResult : Int32} {o_peelTime : Int32} {o_peelSum : Int32} {r : Int32} (hf : Rf_adopt c_m c_saved c_savedCount c_code c_lineParts c_lengths c_fractions c_pulseMany c_times c_energies c_far c_near c_echoes c_left c_dropped c_merged c_drops c_contributions c_packet c_peelResult c_peelTime c_peelSum = some (o_m, o_saved, o_savedCount, o_code, o_lineParts, o_lengths, o_fractions, o_pulseMany, o_times, o_energies, o_far, o_near, o_echoes, o_left, o_dropped, o_merged, o_drops, o_contributions, o_packet, o_peelResult, o_peelTime, o_peelSum, r)) : MetM G yX10_adopt cX10_adopt 1 (some .int) { frames := 8, cells := 0, slots := 0, locals := 184 } D T [.ref (a 0)] (wR a T c_m c_saved c_savedCount c_script c_scriptLength c_code c_lineParts c_lengths c_fractions c_pulseMany c_times c_energies c_far c_near c_echoes c_left c_dropped c_merged c_drops c_contributions c_packet c_peelResult c_peelTime c_peelSum c_at c_commands c_draft c_hash) (some (.int r)) (wR a T o_m o_saved o_savedCount c_script c_scriptLength o_code o_lineParts o_lengths o_fractions o_pulseMany o_times o_energies o_far o_near o_echoes o_left o_dropped o_merged o_drops o_contributions o_packet o_peelResult o_peelTime o_peelSum c_at c_commands c_draft c_hash) :=
  MetM.of [(0, .ref (a 0))] (by decide) (Nat.le_of_ble_eq_true rfl) rfl (fun X C hret => Rb_adopt C hret hf)
def Rf_type_31 (c_script : Nat → Int32) (c_scriptLength : Int32) (c_code : Int32) (x1 : Int32) (s1 : Int32) : Option ((Nat → Int32) × Int32 × Int32 × Int32) :=
  if s1 = 0 then
    chk (inb c_scriptLength 120) <| nm (upd c_script c_scriptLength.toNatClampNeg x1) fun script_52 =>
    nm (c_scriptLength + (1 : Int32)) fun z59 =>
    some (script_52, z59, s1, z59)
  else
    some (c_script, c_scriptLength, s1, (0 : Int32))
set_option maxRecDepth 100000 in
set_option maxHeartbeats 4000000 in
theorem Rb_type_31 (C : Cx X G T cX10_type RX10 (some .int) 2 1 25) {x1 : Int32} {s1 : Int32} {o_script : Nat → Int32} {o_scriptLength : Int32} {o_code : Int32} {r : Int32} (hret : RetOK X 0 0 (some (.int r)) (wR a T c_m c_saved c_savedCount o_script o_scriptLength o_code c_lineParts c_lengths c_fractions c_pulseMany c_times c_energies c_far c_near c_echoes c_left c_dropped c_merged c_drops c_contributions c_packet c_peelResult c_peelTime c_peelSum c_at c_commands c_draft c_hash)) (hf : Rf_type_31 c_script c_scriptLength c_code x1 s1 = some (o_script, o_scriptLength, o_code, r)) : V X 0 0 (wR a T c_m c_saved c_savedCount c_script c_scriptLength c_code c_lineParts c_lengths c_fractions c_pulseMany c_times c_energies c_far c_near c_echoes c_left c_dropped c_merged c_drops c_contributions c_packet c_peelResult c_peelTime c_peelSum c_at c_commands c_draft c_hash) [(0, .ref (a 0)), (1, .int x1)] 31 [.int s1, .ref (a 0)] := by
  unfold Rf_type_31 at hf
  refine Rp_code C dX10_type_31 ?_
  refine v_aload_n 0 C dX10_type_34 rfl rfl ?_
  refine Rg_code C dX10_type_35 ?_
  refine v_if_eq 43 C dX10_type_38 (by decide) hf (fun c hf => ?_) (fun c hf => ?_)
  · refine v_aload_n 0 C dX10_type_43 rfl rfl ?_
    refine Rg_script C dX10_type_44 ?_
    refine v_aload_n 0 C dX10_type_47 rfl rfl ?_
    refine Rg_scriptLength C dX10_type_48 ?_
    refine v_iload_n 1 C dX10_type_51 rfl rfl ?_
    refine Ras_script C dX10_type_52 hf (fun script_52 hf => ?_)
    refine v_aload_n 0 C dX10_type_53 rfl rfl ?_
    refine v_dup C dX10_type_54 rfl ?_
    refine Rg_scriptLength C dX10_type_55 ?_
    refine v_iconst (v := 1) C dX10_type_58 (by decide) ?_
    refine v_iadd C dX10_type_59 hf (fun z59 hf => ?_)
    refine Rp_scriptLength C dX10_type_60 ?_
    refine v_aload_n 0 C dX10_type_63 rfl rfl ?_
    refine Rg_scriptLength C dX10_type_64 ?_
    cases hf
    exact v_iret C hret dX10_type_67
  · refine v_iconst (v := 0) C dX10_type_41 (by decide) ?_
    cases hf
    exact v_iret C hret dX10_type_42
def Rf_type (c_script : Nat → Int32) (c_scriptLength : Int32) (c_code : Int32) (x1 : Int32) : Option ((Nat → Int32) × Int32 × Int32 × Int32) :=
  nm (x1.toInt64) fun z2 =>
  bd (Rf_in z2 (0 : Int64) (127 : Int64)) fun r7 =>
  if r7 = 0 then
    Rf_type_31 c_script c_scriptLength c_code x1 (1 : Int32)
  else
    if c_scriptLength = (120 : Int32) then
      Rf_type_31 c_script c_scriptLength c_code x1 (2 : Int32)
    else
      Rf_type_31 c_script c_scriptLength c_code x1 (0 : Int32)
set_option maxRecDepth 100000 in
set_option maxHeartbeats 4000000 in
theorem Rb_type (C : Cx X G T cX10_type RX10 (some .int) 2 1 25) {x1 : Int32} {o_script : Nat → Int32} {o_scriptLength : Int32} {o_code : Int32} {r : Int32} (hret : RetOK X 0 0 (some (.int r)) (wR a T c_m c_saved c_savedCount o_script o_scriptLength o_code c_lineParts c_lengths c_fractions c_pulseMany c_times c_energies c_far c_near c_echoes c_left c_dropped c_merged c_drops c_contributions c_packet c_peelResult c_peelTime c_peelSum c_at c_commands c_draft c_hash)) (hf : Rf_type c_script c_scriptLength c_code x1 = some (o_script, o_scriptLength, o_code, r)) : V X 0 0 (wR a T c_m c_saved c_savedCount c_script c_scriptLength c_code c_lineParts c_lengths c_fractions c_pulseMany c_times c_energies c_far c_near c_echoes c_left c_dropped c_merged c_drops c_contributions c_packet c_peelResult c_peelTime c_peelSum c_at c_commands c_draft c_hash) [(0, .ref (a 0)), (1, .int x1)] 0 [] := by
  unfold Rf_type at hf
  refine v_aload_n 0 C dX10_type_0 rfl rfl ?_
  refine v_iload_n 1 C dX10_type_1 rfl rfl ?_
  refine v_i2l C dX10_type_2 hf (fun z2 hf => ?_)
  refine v_lconst (v := 0) C dX10_type_3 (by decide) ?_
  refine v_ldc2 (v := 127) C wconstantLong_RX10_259_127 dX10_type_4 ?_
  refine Rc_in C dX10_type_7 (by decide) (Nat.le_of_ble_eq_true rfl) hf (fun r7 hf => ?_)
  refine v_if_ne 17 C dX10_type_10 (by decide) hf (fun c hf => ?_) (fun c hf => ?_)
  · refine v_iconst (v := 1) C dX10_type_13 (by decide) ?_
    refine v_goto 31 C dX10_type_14 (by decide) ?_
    exact Rb_type_31 C hret hf
  · refine v_aload_n 0 C dX10_type_17 rfl rfl ?_
    refine Rg_scriptLength C dX10_type_18 ?_
    refine v_bipush (v := 120) C dX10_type_21 (by decide) ?_
    refine v_icmp_ne 30 C dX10_type_23 (by decide) hf (fun c hf => ?_) (fun c hf => ?_)
    · refine v_iconst (v := 2) C dX10_type_26 (by decide) ?_
      refine v_goto 31 C dX10_type_27 (by decide) ?_
      exact Rb_type_31 C hret hf
    · refine v_iconst (v := 0) C dX10_type_30 (by decide) ?_
      exact Rb_type_31 C hret hf
set_option maxRecDepth 100000 in
set_option maxHeartbeats 4000000 in
theorem Rm_type {D : va_G} {x1 : Int32} {o_script : Nat → Int32} {o_scriptLength : Int32} {o_code : Int32} {r : Int32} (hf : Rf_type c_script c_scriptLength c_code x1 = some (o_script, o_scriptLength, o_code, r)) : MetM G yX10_type cX10_type 2 (some .int) { frames := 1, cells := 0, slots := 0, locals := 25 } D T [.ref (a 0), .int x1] (wR a T c_m c_saved c_savedCount c_script c_scriptLength c_code c_lineParts c_lengths c_fractions c_pulseMany c_times c_energies c_far c_near c_echoes c_left c_dropped c_merged c_drops c_contributions c_packet c_peelResult c_peelTime c_peelSum c_at c_commands c_draft c_hash) (some (.int r)) (wR a T c_m c_saved c_savedCount o_script o_scriptLength o_code c_lineParts c_lengths c_fractions c_pulseMany c_times c_energies c_far c_near c_echoes c_left c_dropped c_merged c_drops c_contributions c_packet c_peelResult c_peelTime c_peelSum c_at c_commands c_draft c_hash) :=
  MetM.of [(0, .ref (a 0)), (1, .int x1)] (by decide) (Nat.le_of_ble_eq_true rfl) rfl (fun X C hret => Rb_type C hret hf)
def Rf_clearScript (c_scriptLength : Int32) (c_code : Int32) : Option (Int32 × Int32 × Int32) :=
  some ((0 : Int32), (0 : Int32), c_scriptLength)
set_option maxRecDepth 100000 in
set_option maxHeartbeats 4000000 in
theorem Rb_clearScript (C : Cx X G T cX10_clearScript RX10 (some .int) 2 0 0)  {o_scriptLength : Int32} {o_code : Int32} {r : Int32} (hret : RetOK X 0 0 (some (.int r)) (wR a T c_m c_saved c_savedCount c_script o_scriptLength o_code c_lineParts c_lengths c_fractions c_pulseMany c_times c_energies c_far c_near c_echoes c_left c_dropped c_merged c_drops c_contributions c_packet c_peelResult c_peelTime c_peelSum c_at c_commands c_draft c_hash)) (hf : Rf_clearScript c_scriptLength c_code = some (o_scriptLength, o_code, r)) : V X 0 0 (wR a T c_m c_saved c_savedCount c_script c_scriptLength c_code c_lineParts c_lengths c_fractions c_pulseMany c_times c_energies c_far c_near c_echoes c_left c_dropped c_merged c_drops c_contributions c_packet c_peelResult c_peelTime c_peelSum c_at c_commands c_draft c_hash) [(0, .ref (a 0))] 0 [] := by
  unfold Rf_clearScript at hf
  refine v_aload_n 0 C dX10_clearScript_0 rfl rfl ?_
  refine v_iconst (v := 0) C dX10_clearScript_1 (by decide) ?_
  refine Rp_code C dX10_clearScript_2 ?_
  refine v_aload_n 0 C dX10_clearScript_5 rfl rfl ?_
  refine Rg_scriptLength C dX10_clearScript_6 ?_
  refine v_istore_n [(0, .ref (a 0)), (1, .int c_scriptLength)] [1, 0] C dX10_clearScript_9 rfl (by decide) rfl ?_
  refine v_aload_n 0 C dX10_clearScript_10 rfl rfl ?_
  refine v_iconst (v := 0) C dX10_clearScript_11 (by decide) ?_
  refine Rp_scriptLength C dX10_clearScript_12 ?_
  refine v_iload_n 1 C dX10_clearScript_15 rfl rfl ?_
  cases hf
  exact v_iret C hret dX10_clearScript_16
set_option maxRecDepth 100000 in
set_option maxHeartbeats 4000000 in
theorem Rm_clearScript {D : va_G}  {o_scriptLength : Int32} {o_code : Int32} {r : Int32} (hf : Rf_clearScript c_scriptLength c_code = some (o_scriptLength, o_code, r)) : MetM G yX10_clearScript cX10_clearScript 2 (some .int) { frames := 0, cells := 0, slots := 0, locals := 0 } D T [.ref (a 0)] (wR a T c_m c_saved c_savedCount c_script c_scriptLength c_code c_lineParts c_lengths c_fractions c_pulseMany c_times c_energies c_far c_near c_echoes c_left c_dropped c_merged c_drops c_contributions c_packet c_peelResult c_peelTime c_peelSum c_at c_commands c_draft c_hash) (some (.int r)) (wR a T c_m c_saved c_savedCount c_script o_scriptLength o_code c_lineParts c_lengths c_fractions c_pulseMany c_times c_energies c_far c_near c_echoes c_left c_dropped c_merged c_drops c_contributions c_packet c_peelResult c_peelTime c_peelSum c_at c_commands c_draft c_hash) :=
  MetM.of [(0, .ref (a 0))] (by decide) (Nat.le_of_ble_eq_true rfl) rfl (fun X C hret => Rb_clearScript C hret hf)
def Rf_here_24 (s0 : Int32) : Option Int32 :=
  some s0
set_option maxRecDepth 100000 in
set_option maxHeartbeats 4000000 in
theorem Rb_here_24 (C : Cx X G T cX10_here RX10 (some .int) 1 0 0) {s0 : Int32} {r : Int32} (hret : RetOK X 0 0 (some (.int r)) (wR a T c_m c_saved c_savedCount c_script c_scriptLength c_code c_lineParts c_lengths c_fractions c_pulseMany c_times c_energies c_far c_near c_echoes c_left c_dropped c_merged c_drops c_contributions c_packet c_peelResult c_peelTime c_peelSum c_at c_commands c_draft c_hash)) (hf : Rf_here_24 s0 = some r) : V X 0 0 (wR a T c_m c_saved c_savedCount c_script c_scriptLength c_code c_lineParts c_lengths c_fractions c_pulseMany c_times c_energies c_far c_near c_echoes c_left c_dropped c_merged c_drops c_contributions c_packet c_peelResult c_peelTime c_peelSum c_at c_commands c_draft c_hash) [] 24 [.int s0] := by
  unfold Rf_here_24 at hf
  cases hf
  exact v_iret C hret dX10_here_24
def Rf_here (c_script : Nat → Int32) (c_scriptLength : Int32) (c_at : Int32) : Option Int32 :=
  if c_scriptLength ≤ c_at then
    Rf_here_24 (-1 : Int32)
  else
    chk (inb c_at 120) <| nm (c_script c_at.toNatClampNeg) fun z19 =>
    Rf_here_24 z19
set_option maxRecDepth 100000 in
set_option maxHeartbeats 4000000 in
theorem Rb_here (C : Cx X G T cX10_here RX10 (some .int) 1 0 0)  {r : Int32} (hret : RetOK X 0 0 (some (.int r)) (wR a T c_m c_saved c_savedCount c_script c_scriptLength c_code c_lineParts c_lengths c_fractions c_pulseMany c_times c_energies c_far c_near c_echoes c_left c_dropped c_merged c_drops c_contributions c_packet c_peelResult c_peelTime c_peelSum c_at c_commands c_draft c_hash)) (hf : Rf_here c_script c_scriptLength c_at = some r) : V X 0 0 (wR a T c_m c_saved c_savedCount c_script c_scriptLength c_code c_lineParts c_lengths c_fractions c_pulseMany c_times c_energies c_far c_near c_echoes c_left c_dropped c_merged c_drops c_contributions c_packet c_peelResult c_peelTime c_peelSum c_at c_commands c_draft c_hash) [(0, .ref (a 0))] 0 [] := by
  unfold Rf_here at hf
  refine v_aload_n 0 C dX10_here_0 rfl rfl ?_
  refine Rg_at C dX10_here_1 ?_
  refine v_aload_n 0 C dX10_here_4 rfl rfl ?_
  refine Rg_scriptLength C dX10_here_5 ?_
  refine v_icmp_ge 23 C dX10_here_8 (by decide) hf (fun c hf => ?_) (fun c hf => ?_)
  · refine v_iconst (v := -1) C dX10_here_23 (by decide) ?_
    refine v_lv [] [] rfl ?_
    exact Rb_here_24 C hret hf
  · refine v_aload_n 0 C dX10_here_11 rfl rfl ?_
    refine Rg_script C dX10_here_12 ?_
    refine v_aload_n 0 C dX10_here_15 rfl rfl ?_
    refine Rg_at C dX10_here_16 ?_
    refine Ral_script C dX10_here_19 hf (fun z19 hf => ?_)
    refine v_goto 24 C dX10_here_20 (by decide) ?_
    refine v_lv [] [] rfl ?_
    exact Rb_here_24 C hret hf
set_option maxRecDepth 100000 in
set_option maxHeartbeats 4000000 in
theorem Rm_here {D : va_G}  {r : Int32} (hf : Rf_here c_script c_scriptLength c_at = some r) : MetM G yX10_here cX10_here 1 (some .int) { frames := 0, cells := 0, slots := 0, locals := 0 } D T [.ref (a 0)] (wR a T c_m c_saved c_savedCount c_script c_scriptLength c_code c_lineParts c_lengths c_fractions c_pulseMany c_times c_energies c_far c_near c_echoes c_left c_dropped c_merged c_drops c_contributions c_packet c_peelResult c_peelTime c_peelSum c_at c_commands c_draft c_hash) (some (.int r)) (wR a T c_m c_saved c_savedCount c_script c_scriptLength c_code c_lineParts c_lengths c_fractions c_pulseMany c_times c_energies c_far c_near c_echoes c_left c_dropped c_merged c_drops c_contributions c_packet c_peelResult c_peelTime c_peelSum c_at c_commands c_draft c_hash) :=
  MetM.of [(0, .ref (a 0))] (by decide) (Nat.le_of_ble_eq_true rfl) rfl (fun X C hret => Rb_here C hret hf)
set_option maxRecDepth 100000 in
theorem Rc_here  {cc : ByteArray} {ret : Option FieldType} {nl fr lo pc : Nat} {lv : List (Nat × Value)} {rest : List Value} {β : Type} {K : Int32 → Option β} {oo : β} (C : Cx X G T cc RX10 ret nl fr lo) (hdg : decode cc pc = .ok (.invokevirtual 267, 3)) (hroom : 0 + 1 ≤ fr ∧ 8 + (1 + 11) + 0 ≤ lo) (hst : (rest.map fun v => v.category).sum ≤ 8) (hf : bd (Rf_here c_script c_scriptLength c_at) K = some oo) (kk : ∀ (r : Int32), K r = some oo → V X 0 0 (wR a T c_m c_saved c_savedCount c_script c_scriptLength c_code c_lineParts c_lengths c_fractions c_pulseMany c_times c_energies c_far c_near c_echoes c_left c_dropped c_merged c_drops c_contributions c_packet c_peelResult c_peelTime c_peelSum c_at c_commands c_draft c_hash) lv (pc + 3) (.int r :: rest)) : V X 0 0 (wR a T c_m c_saved c_savedCount c_script c_scriptLength c_code c_lineParts c_lengths c_fractions c_pulseMany c_times c_energies c_far c_near c_echoes c_left c_dropped c_merged c_drops c_contributions c_packet c_peelResult c_peelTime c_peelSum c_at c_commands c_draft c_hash) lv pc (.ref (a 0) :: rest) := by
  obtain ⟨r, hc, hk⟩ := bd_some hf
  exact v_callV (As := []) (rest := rest) (q0 := 0) 0 C (CapOK.z X) (fun D => Rm_here hc) (goodV wmethodLink_RX10_267_yX10_here winstanceMethod_yX10_here wselects_RX10_yX10_here_yX10_here winitialized_RX10 wcode_yX10_here_cX10_here_1_some_int) (by decide +kernel) hroom ⟨rfl, rfl⟩ rfl rfl rfl hst hdg (kk r hk)
def Rl_spaces_5 (c_script : Nat → Int32) (c_scriptLength : Int32) (x1 : Int32) : Nat → Int32 → Option Int32
  | 0, _ => none
  | n + 1, c_at =>
    bd (Rf_here c_script c_scriptLength c_at) fun r6 =>
    if r6 = (32 : Int32) then
      nm (c_at + (1 : Int32)) fun z20 =>
      Rl_spaces_5 c_script c_scriptLength x1 n z20
    else
      some c_at
set_option maxRecDepth 100000 in
set_option maxHeartbeats 4000000 in
theorem Rk_spaces_5 (C : Cx X G T cX10_spaces RX10 (some .boolean) 2 1 20) {x1 : Int32} {o_at : Int32} (hk : V X 0 0 (wR a T c_m c_saved c_savedCount c_script c_scriptLength c_code c_lineParts c_lengths c_fractions c_pulseMany c_times c_energies c_far c_near c_echoes c_left c_dropped c_merged c_drops c_contributions c_packet c_peelResult c_peelTime c_peelSum o_at c_commands c_draft c_hash) [(0, .ref (a 0)), (1, .int x1)] 27 []) : ∀ (n : Nat) (c_at : Int32), Rl_spaces_5 c_script c_scriptLength x1 n c_at = some o_at → V X 0 0 (wR a T c_m c_saved c_savedCount c_script c_scriptLength c_code c_lineParts c_lengths c_fractions c_pulseMany c_times c_energies c_far c_near c_echoes c_left c_dropped c_merged c_drops c_contributions c_packet c_peelResult c_peelTime c_peelSum c_at c_commands c_draft c_hash) [(0, .ref (a 0)), (1, .int x1)] 5 [] := by
  intro n
  induction n with
  | zero =>
    intro _ hf
    cases hf
  | succ n hrec =>
    intro c_at hf
    rw [Rl_spaces_5] at hf
    refine v_aload_n 0 C dX10_spaces_5 rfl rfl ?_
    refine Rc_here C dX10_spaces_6 (by decide) (Nat.le_of_ble_eq_true rfl) hf (fun r6 hf => ?_)
    refine v_bipush (v := 32) C dX10_spaces_9 (by decide) ?_
    refine v_icmp_ne 27 C dX10_spaces_11 (by decide) hf (fun c hf => ?_) (fun c hf => ?_)
    · refine v_aload_n 0 C dX10_spaces_14 rfl rfl ?_
      refine v_dup C dX10_spaces_15 rfl ?_
      refine Rg_at C dX10_spaces_16 ?_
      refine v_iconst (v := 1) C dX10_spaces_19 (by decide) ?_
      refine v_iadd C dX10_spaces_20 hf (fun z20 hf => ?_)
      refine Rp_at C dX10_spaces_21 ?_
      refine v_goto 5 C dX10_spaces_24 (by decide) ?_
      exact hrec _ hf
    · cases hf
      exact hk
def Rf_spaces_40 (c_at : Int32) (s0 : Int32) : Option (Int32 × Int32) :=
  chk (s0 = 0 ∨ s0 = 1) <| some (c_at, s0)
set_option maxRecDepth 100000 in
set_option maxHeartbeats 4000000 in
theorem Rb_spaces_40 (C : Cx X G T cX10_spaces RX10 (some .boolean) 2 1 20) {s0 : Int32} {o_at : Int32} {r : Int32} (hret : RetOK X 0 0 (some (.int r)) (wR a T c_m c_saved c_savedCount c_script c_scriptLength c_code c_lineParts c_lengths c_fractions c_pulseMany c_times c_energies c_far c_near c_echoes c_left c_dropped c_merged c_drops c_contributions c_packet c_peelResult c_peelTime c_peelSum o_at c_commands c_draft c_hash)) (hf : Rf_spaces_40 c_at s0 = some (o_at, r)) : V X 0 0 (wR a T c_m c_saved c_savedCount c_script c_scriptLength c_code c_lineParts c_lengths c_fractions c_pulseMany c_times c_energies c_far c_near c_echoes c_left c_dropped c_merged c_drops c_contributions c_packet c_peelResult c_peelTime c_peelSum c_at c_commands c_draft c_hash) [] 40 [.int s0] := by
  unfold Rf_spaces_40 at hf
  obtain ⟨hv, hf⟩ := chk_some hf
  cases hf
  exact v_zret hv C hret dX10_spaces_40
def Rf_spaces (c_script : Nat → Int32) (c_scriptLength : Int32) (c_at : Int32) : Option (Int32 × Int32) :=
  bd (Rl_spaces_5 c_script c_scriptLength c_at FUEL c_at) fun o_at_5 =>
  if o_at_5 ≤ c_at then
    Rf_spaces_40 o_at_5 (0 : Int32)
  else
    Rf_spaces_40 o_at_5 (1 : Int32)
set_option maxRecDepth 100000 in
set_option maxHeartbeats 4000000 in
theorem Rb_spaces (C : Cx X G T cX10_spaces RX10 (some .boolean) 2 1 20)  {o_at : Int32} {r : Int32} (hret : RetOK X 0 0 (some (.int r)) (wR a T c_m c_saved c_savedCount c_script c_scriptLength c_code c_lineParts c_lengths c_fractions c_pulseMany c_times c_energies c_far c_near c_echoes c_left c_dropped c_merged c_drops c_contributions c_packet c_peelResult c_peelTime c_peelSum o_at c_commands c_draft c_hash)) (hf : Rf_spaces c_script c_scriptLength c_at = some (o_at, r)) : V X 0 0 (wR a T c_m c_saved c_savedCount c_script c_scriptLength c_code c_lineParts c_lengths c_fractions c_pulseMany c_times c_energies c_far c_near c_echoes c_left c_dropped c_merged c_drops c_contributions c_packet c_peelResult c_peelTime c_peelSum c_at c_commands c_draft c_hash) [(0, .ref (a 0))] 0 [] := by
  unfold Rf_spaces at hf
  refine v_aload_n 0 C dX10_spaces_0 rfl rfl ?_
  refine Rg_at C dX10_spaces_1 ?_
  refine v_istore_n [(0, .ref (a 0)), (1, .int c_at)] [1, 0] C dX10_spaces_4 rfl (by decide) rfl ?_
  obtain ⟨o_at_5, hc, hf⟩ := bd_some hf
  refine Rk_spaces_5 C ?_ _ _ hc
  refine v_aload_n 0 C dX10_spaces_27 rfl rfl ?_
  refine Rg_at C dX10_spaces_28 ?_
  refine v_iload_n 1 C dX10_spaces_31 rfl rfl ?_
  refine v_icmp_le 39 C dX10_spaces_32 (by decide) hf (fun c hf => ?_) (fun c hf => ?_)
  · refine v_iconst (v := 0) C dX10_spaces_39 (by decide) ?_
    refine v_lv [] [] rfl ?_
    exact Rb_spaces_40 C hret hf
  · refine v_iconst (v := 1) C dX10_spaces_35 (by decide) ?_
    refine v_goto 40 C dX10_spaces_36 (by decide) ?_
    refine v_lv [] [] rfl ?_
    exact Rb_spaces_40 C hret hf
set_option maxRecDepth 100000 in
set_option maxHeartbeats 4000000 in
theorem Rm_spaces {D : va_G}  {o_at : Int32} {r : Int32} (hf : Rf_spaces c_script c_scriptLength c_at = some (o_at, r)) : MetM G yX10_spaces cX10_spaces 2 (some .boolean) { frames := 1, cells := 0, slots := 0, locals := 20 } D T [.ref (a 0)] (wR a T c_m c_saved c_savedCount c_script c_scriptLength c_code c_lineParts c_lengths c_fractions c_pulseMany c_times c_energies c_far c_near c_echoes c_left c_dropped c_merged c_drops c_contributions c_packet c_peelResult c_peelTime c_peelSum c_at c_commands c_draft c_hash) (some (.int r)) (wR a T c_m c_saved c_savedCount c_script c_scriptLength c_code c_lineParts c_lengths c_fractions c_pulseMany c_times c_energies c_far c_near c_echoes c_left c_dropped c_merged c_drops c_contributions c_packet c_peelResult c_peelTime c_peelSum o_at c_commands c_draft c_hash) :=
  MetM.of [(0, .ref (a 0))] (by decide) (Nat.le_of_ble_eq_true rfl) rfl (fun X C hret => Rb_spaces C hret hf)
set_option maxRecDepth 100000 in
theorem Rc_spaces  {cc : ByteArray} {ret : Option FieldType} {nl fr lo pc : Nat} {lv : List (Nat × Value)} {rest : List Value} {β : Type} {K : (Int32 × Int32) → Option β} {oo : β} (C : Cx X G T cc RX10 ret nl fr lo) (hdg : decode cc pc = .ok (.invokevirtual 297, 3)) (hroom : 1 + 1 ≤ fr ∧ 8 + (2 + 11) + 20 ≤ lo) (hst : (rest.map fun v => v.category).sum ≤ 8) (hf : bd (Rf_spaces c_script c_scriptLength c_at) K = some oo) (kk : ∀ (o_at : Int32) (r : Int32), K (o_at, r) = some oo → V X 0 0 (wR a T c_m c_saved c_savedCount c_script c_scriptLength c_code c_lineParts c_lengths c_fractions c_pulseMany c_times c_energies c_far c_near c_echoes c_left c_dropped c_merged c_drops c_contributions c_packet c_peelResult c_peelTime c_peelSum o_at c_commands c_draft c_hash) lv (pc + 3) (.int r :: rest)) : V X 0 0 (wR a T c_m c_saved c_savedCount c_script c_scriptLength c_code c_lineParts c_lengths c_fractions c_pulseMany c_times c_energies c_far c_near c_echoes c_left c_dropped c_merged c_drops c_contributions c_packet c_peelResult c_peelTime c_peelSum c_at c_commands c_draft c_hash) lv pc (.ref (a 0) :: rest) := by
  obtain ⟨⟨o_at, r⟩, hc, hk⟩ := bd_some hf
  exact v_callV (As := []) (rest := rest) (q0 := 0) 0 C (CapOK.z X) (fun D => Rm_spaces hc) (goodV wmethodLink_RX10_297_yX10_spaces winstanceMethod_yX10_spaces wselects_RX10_yX10_spaces_yX10_spaces winitialized_RX10 wcode_yX10_spaces_cX10_spaces_2_some_boolean) (by decide +kernel) hroom ⟨rfl, rfl⟩ rfl rfl rfl hst hdg (kk o_at r hk)
def Rf_kindOf_29 (s0 : Int32) : Option Int32 :=
  some s0
set_option maxRecDepth 100000 in
set_option maxHeartbeats 4000000 in
theorem Rb_kindOf_29 (C : Cx X G T cX10_kindOf RX10 (some .int) 2 0 0) {s0 : Int32} {r : Int32} (hret : RetOK X 0 0 (some (.int r)) w) (hf : Rf_kindOf_29 s0 = some r) : V X 0 0 w [] 29 [.int s0] := by
  unfold Rf_kindOf_29 at hf
  cases hf
  exact v_iret C hret dX10_kindOf_29
def Rf_kindOf_16 (x0 : Int64) : Option Int32 :=
  if x0 = (1897204 : Int64) then
    Rf_kindOf_29 (0 : Int32)
  else
    Rf_kindOf_29 (1 : Int32)
set_option maxRecDepth 100000 in
set_option maxHeartbeats 4000000 in
theorem Rb_kindOf_16 (C : Cx X G T cX10_kindOf RX10 (some .int) 2 0 0) {x0 : Int64} {r : Int32} (hret : RetOK X 0 0 (some (.int r)) w) (hf : Rf_kindOf_16 x0 = some r) : V X 0 0 w [(0, .long x0)] 16 [] := by
  unfold Rf_kindOf_16 at hf
  refine v_lload_n 0 C dX10_kindOf_16 rfl rfl ?_
  refine v_ldc2 (v := 1897204) C wconstantLong_RX10_270_1897204 dX10_kindOf_17 ?_
  refine v_lcmp_ne 28 C dX10_kindOf_20 dX10_kindOf_21 (by decide) hf (fun c hf => ?_) (fun c hf => ?_)
  · refine v_iconst (v := 0) C dX10_kindOf_24 (by decide) ?_
    refine v_goto 29 C dX10_kindOf_25 (by decide) ?_
    refine v_lv [] [] rfl ?_
    exact Rb_kindOf_29 C hret hf
  · refine v_iconst (v := 1) C dX10_kindOf_28 (by decide) ?_
    refine v_lv [] [] rfl ?_
    exact Rb_kindOf_29 C hret hf
def Rf_kindOf_59 (s0 : Int32) : Option Int32 :=
  some s0
set_option maxRecDepth 100000 in
set_option maxHeartbeats 4000000 in
theorem Rb_kindOf_59 (C : Cx X G T cX10_kindOf RX10 (some .int) 2 0 0) {s0 : Int32} {r : Int32} (hret : RetOK X 0 0 (some (.int r)) w) (hf : Rf_kindOf_59 s0 = some r) : V X 0 0 w [] 59 [.int s0] := by
  unfold Rf_kindOf_59 at hf
  cases hf
  exact v_iret C hret dX10_kindOf_59
def Rf_kindOf_46 (x0 : Int64) : Option Int32 :=
  if x0 = (236484980 : Int64) then
    Rf_kindOf_59 (2 : Int32)
  else
    Rf_kindOf_59 (3 : Int32)
set_option maxRecDepth 100000 in
set_option maxHeartbeats 4000000 in
theorem Rb_kindOf_46 (C : Cx X G T cX10_kindOf RX10 (some .int) 2 0 0) {x0 : Int64} {r : Int32} (hret : RetOK X 0 0 (some (.int r)) w) (hf : Rf_kindOf_46 x0 = some r) : V X 0 0 w [(0, .long x0)] 46 [] := by
  unfold Rf_kindOf_46 at hf
  refine v_lload_n 0 C dX10_kindOf_46 rfl rfl ?_
  refine v_ldc2 (v := 236484980) C wconstantLong_RX10_274_236484980 dX10_kindOf_47 ?_
  refine v_lcmp_ne 58 C dX10_kindOf_50 dX10_kindOf_51 (by decide) hf (fun c hf => ?_) (fun c hf => ?_)
  · refine v_iconst (v := 2) C dX10_kindOf_54 (by decide) ?_
    refine v_goto 59 C dX10_kindOf_55 (by decide) ?_
    refine v_lv [] [] rfl ?_
    exact Rb_kindOf_59 C hret hf
  · refine v_iconst (v := 3) C dX10_kindOf_58 (by decide) ?_
    refine v_lv [] [] rfl ?_
    exact Rb_kindOf_59 C hret hf
def Rf_kindOf_89 (s0 : Int32) : Option Int32 :=
  some s0
set_option maxRecDepth 100000 in
set_option maxHeartbeats 4000000 in
theorem Rb_kindOf_89 (C : Cx X G T cX10_kindOf RX10 (some .int) 2 0 0) {s0 : Int32} {r : Int32} (hret : RetOK X 0 0 (some (.int r)) w) (hf : Rf_kindOf_89 s0 = some r) : V X 0 0 w [] 89 [.int s0] := by
  unfold Rf_kindOf_89 at hf
  cases hf
  exact v_iret C hret dX10_kindOf_89
def Rf_kindOf_76 (x0 : Int64) : Option Int32 :=
  if x0 = (1637108 : Int64) then
    Rf_kindOf_89 (4 : Int32)
  else
    Rf_kindOf_89 (5 : Int32)
set_option maxRecDepth 100000 in
set_option maxHeartbeats 4000000 in
theorem Rb_kindOf_76 (C : Cx X G T cX10_kindOf RX10 (some .int) 2 0 0) {x0 : Int64} {r : Int32} (hret : RetOK X 0 0 (some (.int r)) w) (hf : Rf_kindOf_76 x0 = some r) : V X 0 0 w [(0, .long x0)] 76 [] := by
  unfold Rf_kindOf_76 at hf
  refine v_lload_n 0 C dX10_kindOf_76 rfl rfl ?_
  refine v_ldc2 (v := 1637108) C wconstantLong_RX10_278_1637108 dX10_kindOf_77 ?_
  refine v_lcmp_ne 88 C dX10_kindOf_80 dX10_kindOf_81 (by decide) hf (fun c hf => ?_) (fun c hf => ?_)
  · refine v_iconst (v := 4) C dX10_kindOf_84 (by decide) ?_
    refine v_goto 89 C dX10_kindOf_85 (by decide) ?_
    refine v_lv [] [] rfl ?_
    exact Rb_kindOf_89 C hret hf
  · refine v_iconst (v := 5) C dX10_kindOf_88 (by decide) ?_
    refine v_lv [] [] rfl ?_
    exact Rb_kindOf_89 C hret hf
def Rf_kindOf_117 (s0 : Int32) : Option Int32 :=
  some s0
set_option maxRecDepth 100000 in
set_option maxHeartbeats 4000000 in
theorem Rb_kindOf_117 (C : Cx X G T cX10_kindOf RX10 (some .int) 2 0 0) {s0 : Int32} {r : Int32} (hret : RetOK X 0 0 (some (.int r)) w) (hf : Rf_kindOf_117 s0 = some r) : V X 0 0 w [] 117 [.int s0] := by
  unfold Rf_kindOf_117 at hf
  cases hf
  exact v_iret C hret dX10_kindOf_117
def Rf_kindOf (x0 : Int64) : Option Int32 :=
  if x0 = (1897204 : Int64) then
    Rf_kindOf_16 x0
  else
    if x0 = (31106741492 : Int64) then
      Rf_kindOf_16 x0
    else
      if x0 = (236484980 : Int64) then
        Rf_kindOf_46 x0
      else
        if x0 = (30311922149 : Int64) then
          Rf_kindOf_46 x0
        else
          if x0 = (1637108 : Int64) then
            Rf_kindOf_76 x0
          else
            if x0 = (31104792420 : Int64) then
              Rf_kindOf_76 x0
            else
              if x0 = (228325355 : Int64) then
                Rf_kindOf_117 (6 : Int32)
              else
                if x0 = (26249787508 : Int64) then
                  Rf_kindOf_117 (7 : Int32)
                else
                  Rf_kindOf_117 (-1 : Int32)
set_option maxRecDepth 100000 in
set_option maxHeartbeats 4000000 in
theorem Rb_kindOf (C : Cx X G T cX10_kindOf RX10 (some .int) 2 0 0) {x0 : Int64} {r : Int32} (hret : RetOK X 0 0 (some (.int r)) w) (hf : Rf_kindOf x0 = some r) : V X 0 0 w [(0, .long x0)] 0 [] := by
  unfold Rf_kindOf at hf
  refine v_lload_n 0 C dX10_kindOf_0 rfl rfl ?_
  refine v_ldc2 (v := 1897204) C wconstantLong_RX10_270_1897204 dX10_kindOf_1 ?_
  refine v_lcmp_eq 16 C dX10_kindOf_4 dX10_kindOf_5 (by decide) hf (fun c hf => ?_) (fun c hf => ?_)
  · exact Rb_kindOf_16 C hret hf
  · refine v_lload_n 0 C dX10_kindOf_8 rfl rfl ?_
    refine v_ldc2 (v := 31106741492) C wconstantLong_RX10_272_31106741492 dX10_kindOf_9 ?_
    refine v_lcmp_ne 30 C dX10_kindOf_12 dX10_kindOf_13 (by decide) hf (fun c hf => ?_) (fun c hf => ?_)
    · exact Rb_kindOf_16 C hret hf
    · refine v_lload_n 0 C dX10_kindOf_30 rfl rfl ?_
      refine v_ldc2 (v := 236484980) C wconstantLong_RX10_274_236484980 dX10_kindOf_31 ?_
      refine v_lcmp_eq 46 C dX10_kindOf_34 dX10_kindOf_35 (by decide) hf (fun c hf => ?_) (fun c hf => ?_)
      · exact Rb_kindOf_46 C hret hf
      · refine v_lload_n 0 C dX10_kindOf_38 rfl rfl ?_
        refine v_ldc2 (v := 30311922149) C wconstantLong_RX10_276_30311922149 dX10_kindOf_39 ?_
        refine v_lcmp_ne 60 C dX10_kindOf_42 dX10_kindOf_43 (by decide) hf (fun c hf => ?_) (fun c hf => ?_)
        · exact Rb_kindOf_46 C hret hf
        · refine v_lload_n 0 C dX10_kindOf_60 rfl rfl ?_
          refine v_ldc2 (v := 1637108) C wconstantLong_RX10_278_1637108 dX10_kindOf_61 ?_
          refine v_lcmp_eq 76 C dX10_kindOf_64 dX10_kindOf_65 (by decide) hf (fun c hf => ?_) (fun c hf => ?_)
          · exact Rb_kindOf_76 C hret hf
          · refine v_lload_n 0 C dX10_kindOf_68 rfl rfl ?_
            refine v_ldc2 (v := 31104792420) C wconstantLong_RX10_280_31104792420 dX10_kindOf_69 ?_
            refine v_lcmp_ne 90 C dX10_kindOf_72 dX10_kindOf_73 (by decide) hf (fun c hf => ?_) (fun c hf => ?_)
            · exact Rb_kindOf_76 C hret hf
            · refine v_lload_n 0 C dX10_kindOf_90 rfl rfl ?_
              refine v_ldc2 (v := 228325355) C wconstantLong_RX10_282_228325355 dX10_kindOf_91 ?_
              refine v_lcmp_ne 103 C dX10_kindOf_94 dX10_kindOf_95 (by decide) hf (fun c hf => ?_) (fun c hf => ?_)
              · refine v_bipush (v := 6) C dX10_kindOf_98 (by decide) ?_
                refine v_goto 117 C dX10_kindOf_100 (by decide) ?_
                refine v_lv [] [] rfl ?_
                exact Rb_kindOf_117 C hret hf
              · refine v_lload_n 0 C dX10_kindOf_103 rfl rfl ?_
                refine v_ldc2 (v := 26249787508) C wconstantLong_RX10_284_26249787508 dX10_kindOf_104 ?_
                refine v_lcmp_ne 116 C dX10_kindOf_107 dX10_kindOf_108 (by decide) hf (fun c hf => ?_) (fun c hf => ?_)
                · refine v_bipush (v := 7) C dX10_kindOf_111 (by decide) ?_
                  refine v_goto 117 C dX10_kindOf_113 (by decide) ?_
                  refine v_lv [] [] rfl ?_
                  exact Rb_kindOf_117 C hret hf
                · refine v_iconst (v := -1) C dX10_kindOf_116 (by decide) ?_
                  refine v_lv [] [] rfl ?_
                  exact Rb_kindOf_117 C hret hf
set_option maxRecDepth 100000 in
set_option maxHeartbeats 4000000 in
theorem Rm_kindOf {D : va_G} {x0 : Int64} {r : Int32} (hf : Rf_kindOf x0 = some r) : MetM G yX10_kindOf cX10_kindOf 2 (some .int) { frames := 0, cells := 0, slots := 0, locals := 0 } D T [.long x0] w (some (.int r)) w :=
  MetM.of [(0, .long x0)] (by decide) (Nat.le_of_ble_eq_true rfl) rfl (fun X C hret => Rb_kindOf C hret hf)
set_option maxRecDepth 100000 in
theorem Rc_kindOf {x0 : Int64} {cc : ByteArray} {ret : Option FieldType} {nl fr lo pc : Nat} {lv : List (Nat × Value)} {rest : List Value} {β : Type} {K : Int32 → Option β} {oo : β} (C : Cx X G T cc RX10 ret nl fr lo) (hdg : decode cc pc = .ok (.invokestatic 294, 3)) (hroom : 0 + 1 ≤ fr ∧ 8 + (2 + 11) + 0 ≤ lo) (hst : (rest.map fun v => v.category).sum ≤ 8) (hf : bd (Rf_kindOf x0) K = some oo) (kk : ∀ (r : Int32), K r = some oo → V X 0 0 w lv (pc + 3) (.int r :: rest)) : V X 0 0 w lv pc (.long x0 :: rest) := by
  obtain ⟨r, hc, hk⟩ := bd_some hf
  exact v_callS (As := [.long x0]) (rest := rest) 1 C (CapOK.z X) (fun D => Rm_kindOf hc) (goodS wmethodLink_RX10_294_yX10_kindOf wstatic_yX10_kindOf winitialized_RX10 wcode_yX10_kindOf_cX10_kindOf_2_some_int) (by decide +kernel) hroom ⟨rfl, rfl⟩ rfl hst hdg (kk r hk)
def Rf_readWord_51 (rec : Int32 → Int64 → Option (Int32 × Int64)) (c_at : Int32) (x1 : Int32) (x2 : Int32) (s0 : Int64) : Option (Int32 × Int64) :=
  nm (c_at + (1 : Int32)) fun z58 =>
  rec z58 s0
set_option maxRecDepth 100000 in
set_option maxHeartbeats 4000000 in
theorem Rb_readWord_51 (C : Cx X G T cX10_readWord RX10 (some .boolean) 5 1 25) {rec : Int32 → Int64 → Option (Int32 × Int64)} {x1 : Int32} {x2 : Int32} {s0 : Int64} {o_at : Int32} {y3 : Int64} (hrec : ∀ (c_at : Int32) (x3 : Int64), rec c_at x3 = some (o_at, y3) → V X 0 0 (wR a T c_m c_saved c_savedCount c_script c_scriptLength c_code c_lineParts c_lengths c_fractions c_pulseMany c_times c_energies c_far c_near c_echoes c_left c_dropped c_merged c_drops c_contributions c_packet c_peelResult c_peelTime c_peelSum c_at c_commands c_draft c_hash) [(0, .ref (a 0)), (1, .int x1), (2, .int x2), (3, .long x3)] 7 []) (hk : V X 0 0 (wR a T c_m c_saved c_savedCount c_script c_scriptLength c_code c_lineParts c_lengths c_fractions c_pulseMany c_times c_energies c_far c_near c_echoes c_left c_dropped c_merged c_drops c_contributions c_packet c_peelResult c_peelTime c_peelSum o_at c_commands c_draft c_hash) [(0, .ref (a 0)), (1, .int x1), (2, .int x2), (3, .long y3)] 65 []) (hf : Rf_readWord_51 rec c_at x1 x2 s0 = some (o_at, y3)) : V X 0 0 (wR a T c_m c_saved c_savedCount c_script c_scriptLength c_code c_lineParts c_lengths c_fractions c_pulseMany c_times c_energies c_far c_near c_echoes c_left c_dropped c_merged c_drops c_contributions c_packet c_peelResult c_peelTime c_peelSum c_at c_commands c_draft c_hash) [(0, .ref (a 0)), (1, .int x1), (2, .int x2)] 51 [.long s0] := by
  unfold Rf_readWord_51 at hf
  refine v_lstore_n [(0, .ref (a 0)), (1, .int x1), (2, .int x2), (3, .long s0)] [1, 2, 3, 0] C dX10_readWord_51 rfl (by decide) rfl ?_
  refine v_aload_n 0 C dX10_readWord_52 rfl rfl ?_
  refine v_dup C dX10_readWord_53 rfl ?_
  refine Rg_at C dX10_readWord_54 ?_
  refine v_iconst (v := 1) C dX10_readWord_57 (by decide) ?_
  refine v_iadd C dX10_readWord_58 hf (fun z58 hf => ?_)
  refine Rp_at C dX10_readWord_59 ?_
  refine v_goto 7 C dX10_readWord_62 (by decide) ?_
  exact hrec _ _ hf
def Rl_readWord_7 (c_script : Nat → Int32) (c_scriptLength : Int32) (x1 : Int32) (x2 : Int32) : Nat → Int32 → Int64 → Option (Int32 × Int64)
  | 0, _, _ => none
  | n + 1, c_at, x3 =>
    bd (Rf_here c_script c_scriptLength c_at) fun r8 =>
    nm (r8.toInt64) fun z11 =>
    bd (Rf_in z11 (97 : Int64) (122 : Int64)) fun r18 =>
    if r18 = 0 then
      some (c_at, x3)
    else
      nm (c_at - x2) fun z29 =>
      if (5 : Int32) ≤ z29 then
        Rf_readWord_51 (Rl_readWord_7 c_script c_scriptLength x1 x2 n) c_at x1 x2 (-1 : Int64)
      else
        nm (x3 * (128 : Int64)) fun z38 =>
        bd (Rf_here c_script c_scriptLength c_at) fun r40 =>
        nm (r40.toInt64) fun z43 =>
        nm (z38 + z43) fun z44 =>
        Rf_readWord_51 (Rl_readWord_7 c_script c_scriptLength x1 x2 n) c_at x1 x2 z44
set_option maxRecDepth 100000 in
set_option maxHeartbeats 4000000 in
theorem Rk_readWord_7 (C : Cx X G T cX10_readWord RX10 (some .boolean) 5 1 25) {x1 : Int32} {x2 : Int32} {o_at : Int32} {y3 : Int64} (hk : V X 0 0 (wR a T c_m c_saved c_savedCount c_script c_scriptLength c_code c_lineParts c_lengths c_fractions c_pulseMany c_times c_energies c_far c_near c_echoes c_left c_dropped c_merged c_drops c_contributions c_packet c_peelResult c_peelTime c_peelSum o_at c_commands c_draft c_hash) [(0, .ref (a 0)), (1, .int x1), (2, .int x2), (3, .long y3)] 65 []) : ∀ (n : Nat) (c_at : Int32) (x3 : Int64), Rl_readWord_7 c_script c_scriptLength x1 x2 n c_at x3 = some (o_at, y3) → V X 0 0 (wR a T c_m c_saved c_savedCount c_script c_scriptLength c_code c_lineParts c_lengths c_fractions c_pulseMany c_times c_energies c_far c_near c_echoes c_left c_dropped c_merged c_drops c_contributions c_packet c_peelResult c_peelTime c_peelSum c_at c_commands c_draft c_hash) [(0, .ref (a 0)), (1, .int x1), (2, .int x2), (3, .long x3)] 7 [] := by
  intro n
  induction n with
  | zero =>
    intro _ _ hf
    cases hf
  | succ n hrec =>
    intro c_at x3 hf
    rw [Rl_readWord_7] at hf
    refine v_aload_n 0 C dX10_readWord_7 rfl rfl ?_
    refine Rc_here C dX10_readWord_8 (by decide) (Nat.le_of_ble_eq_true rfl) hf (fun r8 hf => ?_)
    refine v_i2l C dX10_readWord_11 hf (fun z11 hf => ?_)
    refine v_ldc2 (v := 97) C wconstantLong_RX10_286_97 dX10_readWord_12 ?_
    refine v_ldc2 (v := 122) C wconstantLong_RX10_288_122 dX10_readWord_15 ?_
    refine Rc_in C dX10_readWord_18 (by decide) (Nat.le_of_ble_eq_true rfl) hf (fun r18 hf => ?_)
    refine v_if_eq 65 C dX10_readWord_21 (by decide) hf (fun c hf => ?_) (fun c hf => ?_)
    · cases hf
      exact hk
    · refine v_aload_n 0 C dX10_readWord_24 rfl rfl ?_
      refine Rg_at C dX10_readWord_25 ?_
      refine v_iload_n 2 C dX10_readWord_28 rfl rfl ?_
      refine v_isub C dX10_readWord_29 hf (fun z29 hf => ?_)
      refine v_iconst (v := 5) C dX10_readWord_30 (by decide) ?_
      refine v_icmp_ge 48 C dX10_readWord_31 (by decide) hf (fun c hf => ?_) (fun c hf => ?_)
      · refine v_ldc2 (v := -1) C wconstantLong_RX10_292_1 dX10_readWord_48 ?_
        refine v_lv [(0, .ref (a 0)), (1, .int x1), (2, .int x2)] [0, 1, 2] rfl ?_
        exact Rb_readWord_51 C hrec hk hf
      · refine v_lload_n 3 C dX10_readWord_34 rfl rfl ?_
        refine v_ldc2 (v := 128) C wconstantLong_RX10_290_128 dX10_readWord_35 ?_
        refine v_lmul C dX10_readWord_38 hf (fun z38 hf => ?_)
        refine v_aload_n 0 C dX10_readWord_39 rfl rfl ?_
        refine Rc_here C dX10_readWord_40 (by decide) (Nat.le_of_ble_eq_true rfl) hf (fun r40 hf => ?_)
        refine v_i2l C dX10_readWord_43 hf (fun z43 hf => ?_)
        refine v_ladd C dX10_readWord_44 hf (fun z44 hf => ?_)
        refine v_goto 51 C dX10_readWord_45 (by decide) ?_
        refine v_lv [(0, .ref (a 0)), (1, .int x1), (2, .int x2)] [0, 1, 2] rfl ?_
        exact Rb_readWord_51 C hrec hk hf
def Rf_readWord_136 (c_at : Int32) (c_draft : Nat → Int32) (s0 : Int32) : Option (Int32 × (Nat → Int32) × Int32) :=
  chk (s0 = 0 ∨ s0 = 1) <| some (c_at, c_draft, s0)
set_option maxRecDepth 100000 in
set_option maxHeartbeats 4000000 in
theorem Rb_readWord_136 (C : Cx X G T cX10_readWord RX10 (some .boolean) 5 1 25) {s0 : Int32} {o_at : Int32} {o_draft : Nat → Int32} {r : Int32} (hret : RetOK X 0 0 (some (.int r)) (wR a T c_m c_saved c_savedCount c_script c_scriptLength c_code c_lineParts c_lengths c_fractions c_pulseMany c_times c_energies c_far c_near c_echoes c_left c_dropped c_merged c_drops c_contributions c_packet c_peelResult c_peelTime c_peelSum o_at c_commands o_draft c_hash)) (hf : Rf_readWord_136 c_at c_draft s0 = some (o_at, o_draft, r)) : V X 0 0 (wR a T c_m c_saved c_savedCount c_script c_scriptLength c_code c_lineParts c_lengths c_fractions c_pulseMany c_times c_energies c_far c_near c_echoes c_left c_dropped c_merged c_drops c_contributions c_packet c_peelResult c_peelTime c_peelSum c_at c_commands c_draft c_hash) [] 136 [.int s0] := by
  unfold Rf_readWord_136 at hf
  obtain ⟨hv, hf⟩ := chk_some hf
  cases hf
  exact v_zret hv C hret dX10_readWord_136
def Rf_readWord_118 (c_at : Int32) (c_draft : Nat → Int32) (x1 : Int32) (s1 : Int32) : Option (Int32 × (Nat → Int32) × Int32) :=
  chk (inb x1 120) <| nm (c_draft x1.toNatClampNeg) fun z126 =>
  if z126 = (-1 : Int32) then
    Rf_readWord_136 s1 c_draft (0 : Int32)
  else
    Rf_readWord_136 s1 c_draft (1 : Int32)
set_option maxRecDepth 100000 in
set_option maxHeartbeats 4000000 in
theorem Rb_readWord_118 (C : Cx X G T cX10_readWord RX10 (some .boolean) 5 1 25) {x1 : Int32} {s1 : Int32} {o_at : Int32} {o_draft : Nat → Int32} {r : Int32} (hret : RetOK X 0 0 (some (.int r)) (wR a T c_m c_saved c_savedCount c_script c_scriptLength c_code c_lineParts c_lengths c_fractions c_pulseMany c_times c_energies c_far c_near c_echoes c_left c_dropped c_merged c_drops c_contributions c_packet c_peelResult c_peelTime c_peelSum o_at c_commands o_draft c_hash)) (hf : Rf_readWord_118 c_at c_draft x1 s1 = some (o_at, o_draft, r)) : V X 0 0 (wR a T c_m c_saved c_savedCount c_script c_scriptLength c_code c_lineParts c_lengths c_fractions c_pulseMany c_times c_energies c_far c_near c_echoes c_left c_dropped c_merged c_drops c_contributions c_packet c_peelResult c_peelTime c_peelSum c_at c_commands c_draft c_hash) [(0, .ref (a 0)), (1, .int x1)] 118 [.int s1, .ref (a 0)] := by
  unfold Rf_readWord_118 at hf
  refine Rp_at C dX10_readWord_118 ?_
  refine v_aload_n 0 C dX10_readWord_121 rfl rfl ?_
  refine Rg_draft C dX10_readWord_122 ?_
  refine v_iload_n 1 C dX10_readWord_125 rfl rfl ?_
  refine Ral_draft C dX10_readWord_126 hf (fun z126 hf => ?_)
  refine v_iconst (v := -1) C dX10_readWord_127 (by decide) ?_
  refine v_icmp_eq 135 C dX10_readWord_128 (by decide) hf (fun c hf => ?_) (fun c hf => ?_)
  · refine v_iconst (v := 0) C dX10_readWord_135 (by decide) ?_
    refine v_lv [] [] rfl ?_
    exact Rb_readWord_136 C hret hf
  · refine v_iconst (v := 1) C dX10_readWord_131 (by decide) ?_
    refine v_goto 136 C dX10_readWord_132 (by decide) ?_
    refine v_lv [] [] rfl ?_
    exact Rb_readWord_136 C hret hf
def Rf_readWord_98 (c_at : Int32) (c_draft : Nat → Int32) (x1 : Int32) (x2 : Int32) (s1 : Int32) (s2 : Int32) : Option (Int32 × (Nat → Int32) × Int32) :=
  chk (inb s1 120) <| nm (upd c_draft s1.toNatClampNeg s2) fun draft_98 =>
  chk (inb x1 120) <| nm (draft_98 x1.toNatClampNeg) fun z105 =>
  if z105 = (-1 : Int32) then
    Rf_readWord_118 c_at draft_98 x1 x2
  else
    Rf_readWord_118 c_at draft_98 x1 c_at
set_option maxRecDepth 100000 in
set_option maxHeartbeats 4000000 in
theorem Rb_readWord_98 (C : Cx X G T cX10_readWord RX10 (some .boolean) 5 1 25) {x1 : Int32} {x2 : Int32} {s1 : Int32} {s2 : Int32} {o_at : Int32} {o_draft : Nat → Int32} {r : Int32} (hret : RetOK X 0 0 (some (.int r)) (wR a T c_m c_saved c_savedCount c_script c_scriptLength c_code c_lineParts c_lengths c_fractions c_pulseMany c_times c_energies c_far c_near c_echoes c_left c_dropped c_merged c_drops c_contributions c_packet c_peelResult c_peelTime c_peelSum o_at c_commands o_draft c_hash)) (hf : Rf_readWord_98 c_at c_draft x1 x2 s1 s2 = some (o_at, o_draft, r)) : V X 0 0 (wR a T c_m c_saved c_savedCount c_script c_scriptLength c_code c_lineParts c_lengths c_fractions c_pulseMany c_times c_energies c_far c_near c_echoes c_left c_dropped c_merged c_drops c_contributions c_packet c_peelResult c_peelTime c_peelSum c_at c_commands c_draft c_hash) [(0, .ref (a 0)), (1, .int x1), (2, .int x2)] 98 [.int s2, .int s1, .ref (a 11)] := by
  unfold Rf_readWord_98 at hf
  refine Ras_draft C dX10_readWord_98 hf (fun draft_98 hf => ?_)
  refine v_aload_n 0 C dX10_readWord_99 rfl rfl ?_
  refine v_aload_n 0 C dX10_readWord_100 rfl rfl ?_
  refine Rg_draft C dX10_readWord_101 ?_
  refine v_iload_n 1 C dX10_readWord_104 rfl rfl ?_
  refine Ral_draft C dX10_readWord_105 hf (fun z105 hf => ?_)
  refine v_iconst (v := -1) C dX10_readWord_106 (by decide) ?_
  refine v_icmp_ne 114 C dX10_readWord_107 (by decide) hf (fun c hf => ?_) (fun c hf => ?_)
  · refine v_iload_n 2 C dX10_readWord_110 rfl rfl ?_
    refine v_goto 118 C dX10_readWord_111 (by decide) ?_
    refine v_lv [(0, .ref (a 0)), (1, .int x1)] [0, 1] rfl ?_
    exact Rb_readWord_118 C hret hf
  · refine v_aload_n 0 C dX10_readWord_114 rfl rfl ?_
    refine Rg_at C dX10_readWord_115 ?_
    refine v_lv [(0, .ref (a 0)), (1, .int x1)] [0, 1] rfl ?_
    exact Rb_readWord_118 C hret hf
def Rf_readWord (c_script : Nat → Int32) (c_scriptLength : Int32) (c_at : Int32) (c_draft : Nat → Int32) (x1 : Int32) : Option (Int32 × (Nat → Int32) × Int32) :=
  bd (Rl_readWord_7 c_script c_scriptLength x1 c_at FUEL c_at (0 : Int64)) fun (o_at_7, y3_7) =>
  if o_at_7 = c_at then
    chk ((0 : Int32) = 0 ∨ (0 : Int32) = 1) <| some (o_at_7, c_draft, (0 : Int32))
  else
    nm (o_at_7 - c_at) fun z85 =>
    if z85 ≤ (5 : Int32) then
      bd (Rf_kindOf y3_7) fun r95 =>
      Rf_readWord_98 o_at_7 c_draft x1 c_at x1 r95
    else
      Rf_readWord_98 o_at_7 c_draft x1 c_at x1 (-1 : Int32)
set_option maxRecDepth 100000 in
set_option maxHeartbeats 4000000 in
theorem Rb_readWord (C : Cx X G T cX10_readWord RX10 (some .boolean) 5 1 25) {x1 : Int32} {o_at : Int32} {o_draft : Nat → Int32} {r : Int32} (hret : RetOK X 0 0 (some (.int r)) (wR a T c_m c_saved c_savedCount c_script c_scriptLength c_code c_lineParts c_lengths c_fractions c_pulseMany c_times c_energies c_far c_near c_echoes c_left c_dropped c_merged c_drops c_contributions c_packet c_peelResult c_peelTime c_peelSum o_at c_commands o_draft c_hash)) (hf : Rf_readWord c_script c_scriptLength c_at c_draft x1 = some (o_at, o_draft, r)) : V X 0 0 (wR a T c_m c_saved c_savedCount c_script c_scriptLength c_code c_lineParts c_lengths c_fractions c_pulseMany c_times c_energies c_far c_near c_echoes c_left c_dropped c_merged c_drops c_contributions c_packet c_peelResult c_peelTime c_peelSum c_at c_commands c_draft c_hash) [(0, .ref (a 0)), (1, .int x1)] 0 [] := by
  unfold Rf_readWord at hf
  refine v_aload_n 0 C dX10_readWord_0 rfl rfl ?_
  refine Rg_at C dX10_readWord_1 ?_
  refine v_istore_n [(0, .ref (a 0)), (1, .int x1), (2, .int c_at)] [1, 2, 0] C dX10_readWord_4 rfl (by decide) rfl ?_
  refine v_lconst (v := 0) C dX10_readWord_5 (by decide) ?_
  refine v_lstore_n [(0, .ref (a 0)), (1, .int x1), (2, .int c_at), (3, .long (0 : Int64))] [1, 2, 3, 0] C dX10_readWord_6 rfl (by decide) rfl ?_
  obtain ⟨⟨o_at_7, y3_7⟩, hc, hf⟩ := bd_some hf
  refine Rk_readWord_7 C ?_ _ _ _ hc
  refine v_aload_n 0 C dX10_readWord_65 rfl rfl ?_
  refine Rg_at C dX10_readWord_66 ?_
  refine v_iload_n 2 C dX10_readWord_69 rfl rfl ?_
  refine v_icmp_ne 75 C dX10_readWord_70 (by decide) hf (fun c hf => ?_) (fun c hf => ?_)
  · refine v_iconst (v := 0) C dX10_readWord_73 (by decide) ?_
    obtain ⟨hv, hf⟩ := chk_some hf
    cases hf
    exact v_zret hv C hret dX10_readWord_74
  · refine v_aload_n 0 C dX10_readWord_75 rfl rfl ?_
    refine Rg_draft C dX10_readWord_76 ?_
    refine v_iload_n 1 C dX10_readWord_79 rfl rfl ?_
    refine v_aload_n 0 C dX10_readWord_80 rfl rfl ?_
    refine Rg_at C dX10_readWord_81 ?_
    refine v_iload_n 2 C dX10_readWord_84 rfl rfl ?_
    refine v_isub C dX10_readWord_85 hf (fun z85 hf => ?_)
    refine v_iconst (v := 5) C dX10_readWord_86 (by decide) ?_
    refine v_icmp_le 94 C dX10_readWord_87 (by decide) hf (fun c hf => ?_) (fun c hf => ?_)
    · refine v_lload_n 3 C dX10_readWord_94 rfl rfl ?_
      refine Rc_kindOf C dX10_readWord_95 (by decide) (Nat.le_of_ble_eq_true rfl) hf (fun r95 hf => ?_)
      refine v_lv [(0, .ref (a 0)), (1, .int x1), (2, .int c_at)] [0, 1, 2] rfl ?_
      exact Rb_readWord_98 C hret hf
    · refine v_iconst (v := -1) C dX10_readWord_90 (by decide) ?_
      refine v_goto 98 C dX10_readWord_91 (by decide) ?_
      refine v_lv [(0, .ref (a 0)), (1, .int x1), (2, .int c_at)] [0, 1, 2] rfl ?_
      exact Rb_readWord_98 C hret hf
set_option maxRecDepth 100000 in
set_option maxHeartbeats 4000000 in
theorem Rm_readWord {D : va_G} {x1 : Int32} {o_at : Int32} {o_draft : Nat → Int32} {r : Int32} (hf : Rf_readWord c_script c_scriptLength c_at c_draft x1 = some (o_at, o_draft, r)) : MetM G yX10_readWord cX10_readWord 5 (some .boolean) { frames := 1, cells := 0, slots := 0, locals := 25 } D T [.ref (a 0), .int x1] (wR a T c_m c_saved c_savedCount c_script c_scriptLength c_code c_lineParts c_lengths c_fractions c_pulseMany c_times c_energies c_far c_near c_echoes c_left c_dropped c_merged c_drops c_contributions c_packet c_peelResult c_peelTime c_peelSum c_at c_commands c_draft c_hash) (some (.int r)) (wR a T c_m c_saved c_savedCount c_script c_scriptLength c_code c_lineParts c_lengths c_fractions c_pulseMany c_times c_energies c_far c_near c_echoes c_left c_dropped c_merged c_drops c_contributions c_packet c_peelResult c_peelTime c_peelSum o_at c_commands o_draft c_hash) :=
  MetM.of [(0, .ref (a 0)), (1, .int x1)] (by decide) (Nat.le_of_ble_eq_true rfl) rfl (fun X C hret => Rb_readWord C hret hf)
set_option maxRecDepth 100000 in
theorem Rc_readWord {x1 : Int32} {cc : ByteArray} {ret : Option FieldType} {nl fr lo pc : Nat} {lv : List (Nat × Value)} {rest : List Value} {β : Type} {K : (Int32 × (Nat → Int32) × Int32) → Option β} {oo : β} (C : Cx X G T cc RX10 ret nl fr lo) (hdg : decode cc pc = .ok (.invokevirtual 307, 3)) (hroom : 1 + 1 ≤ fr ∧ 8 + (5 + 11) + 25 ≤ lo) (hst : (rest.map fun v => v.category).sum ≤ 8) (hf : bd (Rf_readWord c_script c_scriptLength c_at c_draft x1) K = some oo) (kk : ∀ (o_at : Int32) (o_draft : Nat → Int32) (r : Int32), K (o_at, o_draft, r) = some oo → V X 0 0 (wR a T c_m c_saved c_savedCount c_script c_scriptLength c_code c_lineParts c_lengths c_fractions c_pulseMany c_times c_energies c_far c_near c_echoes c_left c_dropped c_merged c_drops c_contributions c_packet c_peelResult c_peelTime c_peelSum o_at c_commands o_draft c_hash) lv (pc + 3) (.int r :: rest)) : V X 0 0 (wR a T c_m c_saved c_savedCount c_script c_scriptLength c_code c_lineParts c_lengths c_fractions c_pulseMany c_times c_energies c_far c_near c_echoes c_left c_dropped c_merged c_drops c_contributions c_packet c_peelResult c_peelTime c_peelSum c_at c_commands c_draft c_hash) lv pc (.int x1 :: .ref (a 0) :: rest) := by
  obtain ⟨⟨o_at, o_draft, r⟩, hc, hk⟩ := bd_some hf
  exact v_callV (As := [.int x1]) (rest := rest) (q0 := 0) 1 C (CapOK.z X) (fun D => Rm_readWord hc) (goodV wmethodLink_RX10_307_yX10_readWord winstanceMethod_yX10_readWord wselects_RX10_yX10_readWord_yX10_readWord winitialized_RX10 wcode_yX10_readWord_cX10_readWord_5_some_boolean) (by decide +kernel) hroom ⟨rfl, rfl⟩ rfl rfl rfl hst hdg (kk o_at o_draft r hk)
def Rl_readNumber_16 (c_script : Nat → Int32) (c_scriptLength : Int32) (x1 : Int32) (x2 : Int32) : Nat → Int32 → Int32 → Option (Int32 × Int32)
  | 0, _, _ => none
  | n + 1, c_at, x3 =>
    nm (x2 + (6 : Int32)) fun z23 =>
    if z23 ≤ c_at then
      some (c_at, x3)
    else
      bd (Rf_here c_script c_scriptLength c_at) fun r28 =>
      nm (r28.toInt64) fun z31 =>
      bd (Rf_in z31 (48 : Int64) (57 : Int64)) fun r38 =>
      if r38 = 0 then
        some (c_at, x3)
      else
        nm ((10 : Int32) * x3) fun z47 =>
        bd (Rf_here c_script c_scriptLength c_at) fun r49 =>
        nm (z47 + r49) fun z52 =>
        nm (z52 - (48 : Int32)) fun z55 =>
        nm (c_at + (1 : Int32)) fun z63 =>
        Rl_readNumber_16 c_script c_scriptLength x1 x2 n z63 z55
set_option maxRecDepth 100000 in
set_option maxHeartbeats 4000000 in
theorem Rk_readNumber_16 (C : Cx X G T cX10_readNumber RX10 (some .boolean) 4 2 41) {x1 : Int32} {x2 : Int32} {o_at : Int32} {y3 : Int32} (hk : V X 0 0 (wR a T c_m c_saved c_savedCount c_script c_scriptLength c_code c_lineParts c_lengths c_fractions c_pulseMany c_times c_energies c_far c_near c_echoes c_left c_dropped c_merged c_drops c_contributions c_packet c_peelResult c_peelTime c_peelSum o_at c_commands c_draft c_hash) [(0, .ref (a 0)), (1, .int x1), (2, .int x2), (3, .int y3)] 70 []) : ∀ (n : Nat) (c_at : Int32) (x3 : Int32), Rl_readNumber_16 c_script c_scriptLength x1 x2 n c_at x3 = some (o_at, y3) → V X 0 0 (wR a T c_m c_saved c_savedCount c_script c_scriptLength c_code c_lineParts c_lengths c_fractions c_pulseMany c_times c_energies c_far c_near c_echoes c_left c_dropped c_merged c_drops c_contributions c_packet c_peelResult c_peelTime c_peelSum c_at c_commands c_draft c_hash) [(0, .ref (a 0)), (1, .int x1), (2, .int x2), (3, .int x3)] 16 [] := by
  intro n
  induction n with
  | zero =>
    intro _ _ hf
    cases hf
  | succ n hrec =>
    intro c_at x3 hf
    rw [Rl_readNumber_16] at hf
    refine v_aload_n 0 C dX10_readNumber_16 rfl rfl ?_
    refine Rg_at C dX10_readNumber_17 ?_
    refine v_iload_n 2 C dX10_readNumber_20 rfl rfl ?_
    refine v_bipush (v := 6) C dX10_readNumber_21 (by decide) ?_
    refine v_iadd C dX10_readNumber_23 hf (fun z23 hf => ?_)
    refine v_icmp_ge 70 C dX10_readNumber_24 (by decide) hf (fun c hf => ?_) (fun c hf => ?_)
    · cases hf
      exact hk
    · refine v_aload_n 0 C dX10_readNumber_27 rfl rfl ?_
      refine Rc_here C dX10_readNumber_28 (by decide) (Nat.le_of_ble_eq_true rfl) hf (fun r28 hf => ?_)
      refine v_i2l C dX10_readNumber_31 hf (fun z31 hf => ?_)
      refine v_ldc2 (v := 48) C wconstantLong_RX10_300_48 dX10_readNumber_32 ?_
      refine v_ldc2 (v := 57) C wconstantLong_RX10_302_57 dX10_readNumber_35 ?_
      refine Rc_in C dX10_readNumber_38 (by decide) (Nat.le_of_ble_eq_true rfl) hf (fun r38 hf => ?_)
      refine v_if_eq 70 C dX10_readNumber_41 (by decide) hf (fun c hf => ?_) (fun c hf => ?_)
      · cases hf
        exact hk
      · refine v_bipush (v := 10) C dX10_readNumber_44 (by decide) ?_
        refine v_iload_n 3 C dX10_readNumber_46 rfl rfl ?_
        refine v_imul C dX10_readNumber_47 hf (fun z47 hf => ?_)
        refine v_aload_n 0 C dX10_readNumber_48 rfl rfl ?_
        refine Rc_here C dX10_readNumber_49 (by decide) (Nat.le_of_ble_eq_true rfl) hf (fun r49 hf => ?_)
        refine v_iadd C dX10_readNumber_52 hf (fun z52 hf => ?_)
        refine v_bipush (v := 48) C dX10_readNumber_53 (by decide) ?_
        refine v_isub C dX10_readNumber_55 hf (fun z55 hf => ?_)
        refine v_istore_n [(0, .ref (a 0)), (1, .int x1), (2, .int x2), (3, .int z55)] [1, 2, 3, 0] C dX10_readNumber_56 rfl (by decide) rfl ?_
        refine v_aload_n 0 C dX10_readNumber_57 rfl rfl ?_
        refine v_dup C dX10_readNumber_58 rfl ?_
        refine Rg_at C dX10_readNumber_59 ?_
        refine v_iconst (v := 1) C dX10_readNumber_62 (by decide) ?_
        refine v_iadd C dX10_readNumber_63 hf (fun z63 hf => ?_)
        refine Rp_at C dX10_readNumber_64 ?_
        refine v_goto 16 C dX10_readNumber_67 (by decide) ?_
        exact hrec _ _ hf
def Rf_readNumber_107 (c_at : Int32) (c_draft : Nat → Int32) (s0 : Int32) : Option (Int32 × (Nat → Int32) × Int32) :=
  chk (s0 = 0 ∨ s0 = 1) <| some (c_at, c_draft, s0)
set_option maxRecDepth 100000 in
set_option maxHeartbeats 4000000 in
theorem Rb_readNumber_107 (C : Cx X G T cX10_readNumber RX10 (some .boolean) 4 2 41) {s0 : Int32} {o_at : Int32} {o_draft : Nat → Int32} {r : Int32} (hret : RetOK X 0 0 (some (.int r)) (wR a T c_m c_saved c_savedCount c_script c_scriptLength c_code c_lineParts c_lengths c_fractions c_pulseMany c_times c_energies c_far c_near c_echoes c_left c_dropped c_merged c_drops c_contributions c_packet c_peelResult c_peelTime c_peelSum o_at c_commands o_draft c_hash)) (hf : Rf_readNumber_107 c_at c_draft s0 = some (o_at, o_draft, r)) : V X 0 0 (wR a T c_m c_saved c_savedCount c_script c_scriptLength c_code c_lineParts c_lengths c_fractions c_pulseMany c_times c_energies c_far c_near c_echoes c_left c_dropped c_merged c_drops c_contributions c_packet c_peelResult c_peelTime c_peelSum c_at c_commands c_draft c_hash) [] 107 [.int s0] := by
  unfold Rf_readNumber_107 at hf
  obtain ⟨hv, hf⟩ := chk_some hf
  cases hf
  exact v_zret hv C hret dX10_readNumber_107
def Rf_readNumber_106 (c_at : Int32) (c_draft : Nat → Int32) : Option (Int32 × (Nat → Int32) × Int32) :=
  Rf_readNumber_107 c_at c_draft (0 : Int32)
set_option maxRecDepth 100000 in
set_option maxHeartbeats 4000000 in
theorem Rb_readNumber_106 (C : Cx X G T cX10_readNumber RX10 (some .boolean) 4 2 41)  {o_at : Int32} {o_draft : Nat → Int32} {r : Int32} (hret : RetOK X 0 0 (some (.int r)) (wR a T c_m c_saved c_savedCount c_script c_scriptLength c_code c_lineParts c_lengths c_fractions c_pulseMany c_times c_energies c_far c_near c_echoes c_left c_dropped c_merged c_drops c_contributions c_packet c_peelResult c_peelTime c_peelSum o_at c_commands o_draft c_hash)) (hf : Rf_readNumber_106 c_at c_draft = some (o_at, o_draft, r)) : V X 0 0 (wR a T c_m c_saved c_savedCount c_script c_scriptLength c_code c_lineParts c_lengths c_fractions c_pulseMany c_times c_energies c_far c_near c_echoes c_left c_dropped c_merged c_drops c_contributions c_packet c_peelResult c_peelTime c_peelSum c_at c_commands c_draft c_hash) [] 106 [] := by
  unfold Rf_readNumber_106 at hf
  refine v_iconst (v := 0) C dX10_readNumber_106 (by decide) ?_
  exact Rb_readNumber_107 C hret hf
def Rf_readNumber_70 (c_script : Nat → Int32) (c_scriptLength : Int32) (c_at : Int32) (c_draft : Nat → Int32) (x1 : Int32) (x2 : Int32) (x3 : Int32) : Option (Int32 × (Nat → Int32) × Int32) :=
  chk (inb x1 120) <| nm (upd c_draft x1.toNatClampNeg x3) fun draft_76 =>
  if c_at ≤ x2 then
    Rf_readNumber_106 c_at draft_76
  else
    bd (Rf_here c_script c_scriptLength c_at) fun r86 =>
    nm (r86.toInt64) fun z89 =>
    bd (Rf_in z89 (48 : Int64) (57 : Int64)) fun r96 =>
    if r96 = 0 then
      Rf_readNumber_107 c_at draft_76 (1 : Int32)
    else
      Rf_readNumber_106 c_at draft_76
set_option maxRecDepth 100000 in
set_option maxHeartbeats 4000000 in
theorem Rb_readNumber_70 (C : Cx X G T cX10_readNumber RX10 (some .boolean) 4 2 41) {x1 : Int32} {x2 : Int32} {x3 : Int32} {o_at : Int32} {o_draft : Nat → Int32} {r : Int32} (hret : RetOK X 0 0 (some (.int r)) (wR a T c_m c_saved c_savedCount c_script c_scriptLength c_code c_lineParts c_lengths c_fractions c_pulseMany c_times c_energies c_far c_near c_echoes c_left c_dropped c_merged c_drops c_contributions c_packet c_peelResult c_peelTime c_peelSum o_at c_commands o_draft c_hash)) (hf : Rf_readNumber_70 c_script c_scriptLength c_at c_draft x1 x2 x3 = some (o_at, o_draft, r)) : V X 0 0 (wR a T c_m c_saved c_savedCount c_script c_scriptLength c_code c_lineParts c_lengths c_fractions c_pulseMany c_times c_energies c_far c_near c_echoes c_left c_dropped c_merged c_drops c_contributions c_packet c_peelResult c_peelTime c_peelSum c_at c_commands c_draft c_hash) [(0, .ref (a 0)), (1, .int x1), (2, .int x2), (3, .int x3)] 70 [] := by
  unfold Rf_readNumber_70 at hf
  refine v_aload_n 0 C dX10_readNumber_70 rfl rfl ?_
  refine Rg_draft C dX10_readNumber_71 ?_
  refine v_iload_n 1 C dX10_readNumber_74 rfl rfl ?_
  refine v_iload_n 3 C dX10_readNumber_75 rfl rfl ?_
  refine Ras_draft C dX10_readNumber_76 hf (fun draft_76 hf => ?_)
  refine v_aload_n 0 C dX10_readNumber_77 rfl rfl ?_
  refine Rg_at C dX10_readNumber_78 ?_
  refine v_iload_n 2 C dX10_readNumber_81 rfl rfl ?_
  refine v_icmp_le 106 C dX10_readNumber_82 (by decide) hf (fun c hf => ?_) (fun c hf => ?_)
  · refine v_lv [] [] rfl ?_
    exact Rb_readNumber_106 C hret hf
  · refine v_aload_n 0 C dX10_readNumber_85 rfl rfl ?_
    refine Rc_here C dX10_readNumber_86 (by decide) (Nat.le_of_ble_eq_true rfl) hf (fun r86 hf => ?_)
    refine v_i2l C dX10_readNumber_89 hf (fun z89 hf => ?_)
    refine v_ldc2 (v := 48) C wconstantLong_RX10_300_48 dX10_readNumber_90 ?_
    refine v_ldc2 (v := 57) C wconstantLong_RX10_302_57 dX10_readNumber_93 ?_
    refine Rc_in C dX10_readNumber_96 (by decide) (Nat.le_of_ble_eq_true rfl) hf (fun r96 hf => ?_)
    refine v_if_ne 106 C dX10_readNumber_99 (by decide) hf (fun c hf => ?_) (fun c hf => ?_)
    · refine v_iconst (v := 1) C dX10_readNumber_102 (by decide) ?_
      refine v_goto 107 C dX10_readNumber_103 (by decide) ?_
      refine v_lv [] [] rfl ?_
      exact Rb_readNumber_107 C hret hf
    · refine v_lv [] [] rfl ?_
      exact Rb_readNumber_106 C hret hf
def Rf_readNumber (c_script : Nat → Int32) (c_scriptLength : Int32) (c_at : Int32) (c_draft : Nat → Int32) (x1 : Int32) : Option (Int32 × (Nat → Int32) × Int32) :=
  bd (Rf_spaces c_script c_scriptLength c_at) fun (at_1, r1) =>
  if r1 = 0 then
    chk ((0 : Int32) = 0 ∨ (0 : Int32) = 1) <| some (at_1, c_draft, (0 : Int32))
  else
    bd (Rl_readNumber_16 c_script c_scriptLength x1 at_1 FUEL at_1 (0 : Int32)) fun (o_at_16, y3_16) =>
    Rf_readNumber_70 c_script c_scriptLength o_at_16 c_draft x1 at_1 y3_16
set_option maxRecDepth 100000 in
set_option maxHeartbeats 4000000 in
theorem Rb_readNumber (C : Cx X G T cX10_readNumber RX10 (some .boolean) 4 2 41) {x1 : Int32} {o_at : Int32} {o_draft : Nat → Int32} {r : Int32} (hret : RetOK X 0 0 (some (.int r)) (wR a T c_m c_saved c_savedCount c_script c_scriptLength c_code c_lineParts c_lengths c_fractions c_pulseMany c_times c_energies c_far c_near c_echoes c_left c_dropped c_merged c_drops c_contributions c_packet c_peelResult c_peelTime c_peelSum o_at c_commands o_draft c_hash)) (hf : Rf_readNumber c_script c_scriptLength c_at c_draft x1 = some (o_at, o_draft, r)) : V X 0 0 (wR a T c_m c_saved c_savedCount c_script c_scriptLength c_code c_lineParts c_lengths c_fractions c_pulseMany c_times c_energies c_far c_near c_echoes c_left c_dropped c_merged c_drops c_contributions c_packet c_peelResult c_peelTime c_peelSum c_at c_commands c_draft c_hash) [(0, .ref (a 0)), (1, .int x1)] 0 [] := by
  unfold Rf_readNumber at hf
  refine v_aload_n 0 C dX10_readNumber_0 rfl rfl ?_
  refine Rc_spaces C dX10_readNumber_1 (by decide) (Nat.le_of_ble_eq_true rfl) hf (fun at_1 r1 hf => ?_)
  refine v_if_ne 9 C dX10_readNumber_4 (by decide) hf (fun c hf => ?_) (fun c hf => ?_)
  · refine v_iconst (v := 0) C dX10_readNumber_7 (by decide) ?_
    obtain ⟨hv, hf⟩ := chk_some hf
    cases hf
    exact v_zret hv C hret dX10_readNumber_8
  · refine v_aload_n 0 C dX10_readNumber_9 rfl rfl ?_
    refine Rg_at C dX10_readNumber_10 ?_
    refine v_istore_n [(0, .ref (a 0)), (1, .int x1), (2, .int at_1)] [1, 2, 0] C dX10_readNumber_13 rfl (by decide) rfl ?_
    refine v_iconst (v := 0) C dX10_readNumber_14 (by decide) ?_
    refine v_istore_n [(0, .ref (a 0)), (1, .int x1), (2, .int at_1), (3, .int (0 : Int32))] [1, 2, 3, 0] C dX10_readNumber_15 rfl (by decide) rfl ?_
    obtain ⟨⟨o_at_16, y3_16⟩, hc, hf⟩ := bd_some hf
    refine Rk_readNumber_16 C ?_ _ _ _ hc
    exact Rb_readNumber_70 C hret hf
set_option maxRecDepth 100000 in
set_option maxHeartbeats 4000000 in
theorem Rm_readNumber {D : va_G} {x1 : Int32} {o_at : Int32} {o_draft : Nat → Int32} {r : Int32} (hf : Rf_readNumber c_script c_scriptLength c_at c_draft x1 = some (o_at, o_draft, r)) : MetM G yX10_readNumber cX10_readNumber 4 (some .boolean) { frames := 2, cells := 0, slots := 0, locals := 41 } D T [.ref (a 0), .int x1] (wR a T c_m c_saved c_savedCount c_script c_scriptLength c_code c_lineParts c_lengths c_fractions c_pulseMany c_times c_energies c_far c_near c_echoes c_left c_dropped c_merged c_drops c_contributions c_packet c_peelResult c_peelTime c_peelSum c_at c_commands c_draft c_hash) (some (.int r)) (wR a T c_m c_saved c_savedCount c_script c_scriptLength c_code c_lineParts c_lengths c_fractions c_pulseMany c_times c_energies c_far c_near c_echoes c_left c_dropped c_merged c_drops c_contributions c_packet c_peelResult c_peelTime c_peelSum o_at c_commands o_draft c_hash) :=
  MetM.of [(0, .ref (a 0)), (1, .int x1)] (by decide) (Nat.le_of_ble_eq_true rfl) rfl (fun X C hret => Rb_readNumber C hret hf)
set_option maxRecDepth 100000 in
theorem Rc_readNumber {x1 : Int32} {cc : ByteArray} {ret : Option FieldType} {nl fr lo pc : Nat} {lv : List (Nat × Value)} {rest : List Value} {β : Type} {K : (Int32 × (Nat → Int32) × Int32) → Option β} {oo : β} (C : Cx X G T cc RX10 ret nl fr lo) (hdg : decode cc pc = .ok (.invokevirtual 310, 3)) (hroom : 2 + 1 ≤ fr ∧ 8 + (4 + 11) + 41 ≤ lo) (hst : (rest.map fun v => v.category).sum ≤ 8) (hf : bd (Rf_readNumber c_script c_scriptLength c_at c_draft x1) K = some oo) (kk : ∀ (o_at : Int32) (o_draft : Nat → Int32) (r : Int32), K (o_at, o_draft, r) = some oo → V X 0 0 (wR a T c_m c_saved c_savedCount c_script c_scriptLength c_code c_lineParts c_lengths c_fractions c_pulseMany c_times c_energies c_far c_near c_echoes c_left c_dropped c_merged c_drops c_contributions c_packet c_peelResult c_peelTime c_peelSum o_at c_commands o_draft c_hash) lv (pc + 3) (.int r :: rest)) : V X 0 0 (wR a T c_m c_saved c_savedCount c_script c_scriptLength c_code c_lineParts c_lengths c_fractions c_pulseMany c_times c_energies c_far c_near c_echoes c_left c_dropped c_merged c_drops c_contributions c_packet c_peelResult c_peelTime c_peelSum c_at c_commands c_draft c_hash) lv pc (.int x1 :: .ref (a 0) :: rest) := by
  obtain ⟨⟨o_at, o_draft, r⟩, hc, hk⟩ := bd_some hf
  exact v_callV (As := [.int x1]) (rest := rest) (q0 := 0) 1 C (CapOK.z X) (fun D => Rm_readNumber hc) (goodV wmethodLink_RX10_310_yX10_readNumber winstanceMethod_yX10_readNumber wselects_RX10_yX10_readNumber_yX10_readNumber winitialized_RX10 wcode_yX10_readNumber_cX10_readNumber_4_some_boolean) (by decide +kernel) hroom ⟨rfl, rfl⟩ rfl rfl rfl hst hdg (kk o_at o_draft r hk)
def Rl_readCommand_56 (c_script : Nat → Int32) (c_scriptLength : Int32) (x1 : Int32) (x3 : Int32) : Nat → Int32 → (Nat → Int32) → Int32 → Option ((Int32 × (Nat → Int32)) ⊕ (Int32 × (Nat → Int32)))
  | 0, _, _, _ => none
  | n + 1, c_at, c_draft, x4 =>
    if x3 ≤ x4 then
      some (.inr (c_at, c_draft))
    else
      nm (x1 + (1 : Int32)) fun z65 =>
      nm (z65 + x4) fun z68 =>
      bd (Rf_readNumber c_script c_scriptLength c_at c_draft z68) fun (at_69, draft_69, r69) =>
      if r69 = 0 then
        some (.inl (at_69, draft_69))
      else
        nm (x4 + (1 : Int32)) fun x4_77 =>
        Rl_readCommand_56 c_script c_scriptLength x1 x3 n at_69 draft_69 x4_77
set_option maxRecDepth 100000 in
set_option maxHeartbeats 4000000 in
theorem Rk_readCommand_56 (C : Cx X G T cX10_readCommand RX10 (some .boolean) 5 3 64) {x1 : Int32} {x3 : Int32} {o : ((Int32 × (Nat → Int32)) ⊕ (Int32 × (Nat → Int32)))} (hk0 : ∀ (o_at : Int32) (o_draft : Nat → Int32), o = .inl (o_at, o_draft) → V X 0 0 (wR a T c_m c_saved c_savedCount c_script c_scriptLength c_code c_lineParts c_lengths c_fractions c_pulseMany c_times c_energies c_far c_near c_echoes c_left c_dropped c_merged c_drops c_contributions c_packet c_peelResult c_peelTime c_peelSum o_at c_commands o_draft c_hash) [] 75 []) (hk1 : ∀ (o_at : Int32) (o_draft : Nat → Int32), o = .inr (o_at, o_draft) → V X 0 0 (wR a T c_m c_saved c_savedCount c_script c_scriptLength c_code c_lineParts c_lengths c_fractions c_pulseMany c_times c_energies c_far c_near c_echoes c_left c_dropped c_merged c_drops c_contributions c_packet c_peelResult c_peelTime c_peelSum o_at c_commands o_draft c_hash) [(0, .ref (a 0))] 83 []) : ∀ (n : Nat) (c_at : Int32) (c_draft : Nat → Int32) (x4 : Int32), Rl_readCommand_56 c_script c_scriptLength x1 x3 n c_at c_draft x4 = some o → V X 0 0 (wR a T c_m c_saved c_savedCount c_script c_scriptLength c_code c_lineParts c_lengths c_fractions c_pulseMany c_times c_energies c_far c_near c_echoes c_left c_dropped c_merged c_drops c_contributions c_packet c_peelResult c_peelTime c_peelSum c_at c_commands c_draft c_hash) [(0, .ref (a 0)), (1, .int x1), (3, .int x3), (4, .int x4)] 56 [] := by
  intro n
  induction n with
  | zero =>
    intro _ _ _ hf
    cases hf
  | succ n hrec =>
    intro c_at c_draft x4 hf
    rw [Rl_readCommand_56] at hf
    refine v_iload 3 C dX10_readCommand_56 rfl ?_
    refine v_iload_n 2 C dX10_readCommand_58 rfl rfl ?_
    refine v_icmp_ge 83 C dX10_readCommand_59 (by decide) hf (fun c hf => ?_) (fun c hf => ?_)
    · refine v_lv [(0, .ref (a 0))] [0] rfl ?_
      cases hf
      exact hk1 _ _ rfl
    · refine v_aload_n 0 C dX10_readCommand_62 rfl rfl ?_
      refine v_iload_n 1 C dX10_readCommand_63 rfl rfl ?_
      refine v_iconst (v := 1) C dX10_readCommand_64 (by decide) ?_
      refine v_iadd C dX10_readCommand_65 hf (fun z65 hf => ?_)
      refine v_iload 3 C dX10_readCommand_66 rfl ?_
      refine v_iadd C dX10_readCommand_68 hf (fun z68 hf => ?_)
      refine Rc_readNumber C dX10_readCommand_69 (by decide) (Nat.le_of_ble_eq_true rfl) hf (fun at_69 draft_69 r69 hf => ?_)
      refine v_if_ne 77 C dX10_readCommand_72 (by decide) hf (fun c hf => ?_) (fun c hf => ?_)
      · refine v_lv [] [] rfl ?_
        cases hf
        exact hk0 _ _ rfl
      · refine v_iinc (fun x4_77 => [(0, .ref (a 0)), (1, .int x1), (3, .int x3), (4, .int x4_77)]) [1, 2, 3, 0] C dX10_readCommand_77 (j := 3) rfl (dv := 1) (by decide) (by decide) (fun _ => rfl) hf (fun x4_77 hf => ?_)
        refine v_goto 56 C dX10_readCommand_80 (by decide) ?_
        exact hrec _ _ _ hf
def Rf_readCommand_52 (c_script : Nat → Int32) (c_scriptLength : Int32) (c_at : Int32) (c_commands : Int32) (c_draft : Nat → Int32) (x1 : Int32) (s0 : Int32) : Option (Int32 × Int32 × (Nat → Int32) × Int32) :=
  bd (Rl_readCommand_56 c_script c_scriptLength x1 s0 FUEL c_at c_draft (0 : Int32)) fun o => match o with
  | .inl (o_at_56, o_draft_56) =>
    chk ((0 : Int32) = 0 ∨ (0 : Int32) = 1) <| some (o_at_56, c_commands, o_draft_56, (0 : Int32))
  | .inr (o_at_56, o_draft_56) =>
    bd (Rf_spaces c_script c_scriptLength o_at_56) fun (at_84, r84) =>
    bd (Rf_here c_script c_scriptLength at_84) fun r90 =>
    if r90 = (59 : Int32) then
      nm (at_84 + (1 : Int32)) fun z106 =>
      nm (c_commands + (1 : Int32)) fun z116 =>
      chk ((1 : Int32) = 0 ∨ (1 : Int32) = 1) <| some (z106, z116, o_draft_56, (1 : Int32))
    else
      chk ((0 : Int32) = 0 ∨ (0 : Int32) = 1) <| some (at_84, c_commands, o_draft_56, (0 : Int32))
set_option maxRecDepth 100000 in
set_option maxHeartbeats 4000000 in
theorem Rb_readCommand_52 (C : Cx X G T cX10_readCommand RX10 (some .boolean) 5 3 64) {x1 : Int32} {s0 : Int32} {o_at : Int32} {o_commands : Int32} {o_draft : Nat → Int32} {r : Int32} (hret : RetOK X 0 0 (some (.int r)) (wR a T c_m c_saved c_savedCount c_script c_scriptLength c_code c_lineParts c_lengths c_fractions c_pulseMany c_times c_energies c_far c_near c_echoes c_left c_dropped c_merged c_drops c_contributions c_packet c_peelResult c_peelTime c_peelSum o_at o_commands o_draft c_hash)) (hf : Rf_readCommand_52 c_script c_scriptLength c_at c_commands c_draft x1 s0 = some (o_at, o_commands, o_draft, r)) : V X 0 0 (wR a T c_m c_saved c_savedCount c_script c_scriptLength c_code c_lineParts c_lengths c_fractions c_pulseMany c_times c_energies c_far c_near c_echoes c_left c_dropped c_merged c_drops c_contributions c_packet c_peelResult c_peelTime c_peelSum c_at c_commands c_draft c_hash) [(0, .ref (a 0)), (1, .int x1)] 52 [.int s0] := by
  unfold Rf_readCommand_52 at hf
  refine v_istore_n [(0, .ref (a 0)), (1, .int x1), (3, .int s0)] [1, 2, 0] C dX10_readCommand_52 rfl (by decide) rfl ?_
  refine v_iconst (v := 0) C dX10_readCommand_53 (by decide) ?_
  refine v_istore [(0, .ref (a 0)), (1, .int x1), (3, .int s0), (4, .int (0 : Int32))] [1, 2, 3, 0] C dX10_readCommand_54 (by decide) rfl ?_
  obtain ⟨o, hc, hf⟩ := bd_some hf
  refine Rk_readCommand_56 C (fun o_at_56 o_draft_56 e => ?_) (fun o_at_56 o_draft_56 e => ?_) _ _ _ _ hc
  · subst e
    refine v_iconst (v := 0) C dX10_readCommand_75 (by decide) ?_
    obtain ⟨hv, hf⟩ := chk_some hf
    cases hf
    exact v_zret hv C hret dX10_readCommand_76
  · subst e
    refine v_aload_n 0 C dX10_readCommand_83 rfl rfl ?_
    refine Rc_spaces C dX10_readCommand_84 (by decide) (Nat.le_of_ble_eq_true rfl) hf (fun at_84 r84 hf => ?_)
    refine v_istore [(0, .ref (a 0))] [1] C dX10_readCommand_87 (by decide) rfl ?_
    refine v_aload_n 0 C dX10_readCommand_89 rfl rfl ?_
    refine Rc_here C dX10_readCommand_90 (by decide) (Nat.le_of_ble_eq_true rfl) hf (fun r90 hf => ?_)
    refine v_bipush (v := 59) C dX10_readCommand_93 (by decide) ?_
    refine v_icmp_eq 100 C dX10_readCommand_95 (by decide) hf (fun c hf => ?_) (fun c hf => ?_)
    · refine v_aload_n 0 C dX10_readCommand_100 rfl rfl ?_
      refine v_dup C dX10_readCommand_101 rfl ?_
      refine Rg_at C dX10_readCommand_102 ?_
      refine v_iconst (v := 1) C dX10_readCommand_105 (by decide) ?_
      refine v_iadd C dX10_readCommand_106 hf (fun z106 hf => ?_)
      refine Rp_at C dX10_readCommand_107 ?_
      refine v_aload_n 0 C dX10_readCommand_110 rfl rfl ?_
      refine v_dup C dX10_readCommand_111 rfl ?_
      refine Rg_commands C dX10_readCommand_112 ?_
      refine v_iconst (v := 1) C dX10_readCommand_115 (by decide) ?_
      refine v_iadd C dX10_readCommand_116 hf (fun z116 hf => ?_)
      refine Rp_commands C dX10_readCommand_117 ?_
      refine v_iconst (v := 1) C dX10_readCommand_120 (by decide) ?_
      obtain ⟨hv, hf⟩ := chk_some hf
      cases hf
      exact v_zret hv C hret dX10_readCommand_121
    · refine v_iconst (v := 0) C dX10_readCommand_98 (by decide) ?_
      obtain ⟨hv, hf⟩ := chk_some hf
      cases hf
      exact v_zret hv C hret dX10_readCommand_99
def Rf_readCommand (c_script : Nat → Int32) (c_scriptLength : Int32) (c_at : Int32) (c_commands : Int32) (c_draft : Nat → Int32) : Option (Int32 × Int32 × (Nat → Int32) × Int32) :=
  nm ((4 : Int32) * c_commands) fun z5 =>
  bd (Rf_readWord c_script c_scriptLength c_at c_draft z5) fun (at_9, draft_9, r9) =>
  if r9 = 0 then
    chk ((0 : Int32) = 0 ∨ (0 : Int32) = 1) <| some (at_9, c_commands, draft_9, (0 : Int32))
  else
    chk (inb z5 120) <| nm (draft_9 z5.toNatClampNeg) fun z22 =>
    if (2 : Int32) ≤ z22 then
      if (4 : Int32) ≤ z22 then
        if z22 = (4 : Int32) then
          Rf_readCommand_52 c_script c_scriptLength at_9 c_commands draft_9 z5 (1 : Int32)
        else
          Rf_readCommand_52 c_script c_scriptLength at_9 c_commands draft_9 z5 (0 : Int32)
      else
        Rf_readCommand_52 c_script c_scriptLength at_9 c_commands draft_9 z5 (2 : Int32)
    else
      Rf_readCommand_52 c_script c_scriptLength at_9 c_commands draft_9 z5 (3 : Int32)
set_option maxRecDepth 100000 in
set_option maxHeartbeats 4000000 in
theorem Rb_readCommand (C : Cx X G T cX10_readCommand RX10 (some .boolean) 5 3 64)  {o_at : Int32} {o_commands : Int32} {o_draft : Nat → Int32} {r : Int32} (hret : RetOK X 0 0 (some (.int r)) (wR a T c_m c_saved c_savedCount c_script c_scriptLength c_code c_lineParts c_lengths c_fractions c_pulseMany c_times c_energies c_far c_near c_echoes c_left c_dropped c_merged c_drops c_contributions c_packet c_peelResult c_peelTime c_peelSum o_at o_commands o_draft c_hash)) (hf : Rf_readCommand c_script c_scriptLength c_at c_commands c_draft = some (o_at, o_commands, o_draft, r)) : V X 0 0 (wR a T c_m c_saved c_savedCount c_script c_scriptLength c_code c_lineParts c_lengths c_fractions c_pulseMany c_times c_energies c_far c_near c_echoes c_left c_dropped c_merged c_drops c_contributions c_packet c_peelResult c_peelTime c_peelSum c_at c_commands c_draft c_hash) [(0, .ref (a 0))] 0 [] := by
  unfold Rf_readCommand at hf
  refine v_iconst (v := 4) C dX10_readCommand_0 (by decide) ?_
  refine v_aload_n 0 C dX10_readCommand_1 rfl rfl ?_
  refine Rg_commands C dX10_readCommand_2 ?_
  refine v_imul C dX10_readCommand_5 hf (fun z5 hf => ?_)
  refine v_istore_n [(0, .ref (a 0)), (1, .int z5)] [1, 0] C dX10_readCommand_6 rfl (by decide) rfl ?_
  refine v_aload_n 0 C dX10_readCommand_7 rfl rfl ?_
  refine v_iload_n 1 C dX10_readCommand_8 rfl rfl ?_
  refine Rc_readWord C dX10_readCommand_9 (by decide) (Nat.le_of_ble_eq_true rfl) hf (fun at_9 draft_9 r9 hf => ?_)
  refine v_if_ne 17 C dX10_readCommand_12 (by decide) hf (fun c hf => ?_) (fun c hf => ?_)
  · refine v_iconst (v := 0) C dX10_readCommand_15 (by decide) ?_
    obtain ⟨hv, hf⟩ := chk_some hf
    cases hf
    exact v_zret hv C hret dX10_readCommand_16
  · refine v_aload_n 0 C dX10_readCommand_17 rfl rfl ?_
    refine Rg_draft C dX10_readCommand_18 ?_
    refine v_iload_n 1 C dX10_readCommand_21 rfl rfl ?_
    refine Ral_draft C dX10_readCommand_22 hf (fun z22 hf => ?_)
    refine v_istore_n [(0, .ref (a 0)), (1, .int z5), (2, .int z22)] [1, 2, 0] C dX10_readCommand_23 rfl (by decide) rfl ?_
    refine v_iload_n 2 C dX10_readCommand_24 rfl rfl ?_
    refine v_iconst (v := 2) C dX10_readCommand_25 (by decide) ?_
    refine v_icmp_ge 33 C dX10_readCommand_26 (by decide) hf (fun c hf => ?_) (fun c hf => ?_)
    · refine v_iload_n 2 C dX10_readCommand_33 rfl rfl ?_
      refine v_iconst (v := 4) C dX10_readCommand_34 (by decide) ?_
      refine v_icmp_ge 42 C dX10_readCommand_35 (by decide) hf (fun c hf => ?_) (fun c hf => ?_)
      · refine v_iload_n 2 C dX10_readCommand_42 rfl rfl ?_
        refine v_iconst (v := 4) C dX10_readCommand_43 (by decide) ?_
        refine v_icmp_ne 51 C dX10_readCommand_44 (by decide) hf (fun c hf => ?_) (fun c hf => ?_)
        · refine v_iconst (v := 1) C dX10_readCommand_47 (by decide) ?_
          refine v_goto 52 C dX10_readCommand_48 (by decide) ?_
          refine v_lv [(0, .ref (a 0)), (1, .int z5)] [0, 1] rfl ?_
          exact Rb_readCommand_52 C hret hf
        · refine v_iconst (v := 0) C dX10_readCommand_51 (by decide) ?_
          refine v_lv [(0, .ref (a 0)), (1, .int z5)] [0, 1] rfl ?_
          exact Rb_readCommand_52 C hret hf
      · refine v_iconst (v := 2) C dX10_readCommand_38 (by decide) ?_
        refine v_goto 52 C dX10_readCommand_39 (by decide) ?_
        refine v_lv [(0, .ref (a 0)), (1, .int z5)] [0, 1] rfl ?_
        exact Rb_readCommand_52 C hret hf
    · refine v_iconst (v := 3) C dX10_readCommand_29 (by decide) ?_
      refine v_goto 52 C dX10_readCommand_30 (by decide) ?_
      refine v_lv [(0, .ref (a 0)), (1, .int z5)] [0, 1] rfl ?_
      exact Rb_readCommand_52 C hret hf
set_option maxRecDepth 100000 in
set_option maxHeartbeats 4000000 in
theorem Rm_readCommand {D : va_G}  {o_at : Int32} {o_commands : Int32} {o_draft : Nat → Int32} {r : Int32} (hf : Rf_readCommand c_script c_scriptLength c_at c_commands c_draft = some (o_at, o_commands, o_draft, r)) : MetM G yX10_readCommand cX10_readCommand 5 (some .boolean) { frames := 3, cells := 0, slots := 0, locals := 64 } D T [.ref (a 0)] (wR a T c_m c_saved c_savedCount c_script c_scriptLength c_code c_lineParts c_lengths c_fractions c_pulseMany c_times c_energies c_far c_near c_echoes c_left c_dropped c_merged c_drops c_contributions c_packet c_peelResult c_peelTime c_peelSum c_at c_commands c_draft c_hash) (some (.int r)) (wR a T c_m c_saved c_savedCount c_script c_scriptLength c_code c_lineParts c_lengths c_fractions c_pulseMany c_times c_energies c_far c_near c_echoes c_left c_dropped c_merged c_drops c_contributions c_packet c_peelResult c_peelTime c_peelSum o_at o_commands o_draft c_hash) :=
  MetM.of [(0, .ref (a 0))] (by decide) (Nat.le_of_ble_eq_true rfl) rfl (fun X C hret => Rb_readCommand C hret hf)
set_option maxRecDepth 100000 in
theorem Rc_readCommand  {cc : ByteArray} {ret : Option FieldType} {nl fr lo pc : Nat} {lv : List (Nat × Value)} {rest : List Value} {β : Type} {K : (Int32 × Int32 × (Nat → Int32) × Int32) → Option β} {oo : β} (C : Cx X G T cc RX10 ret nl fr lo) (hdg : decode cc pc = .ok (.invokevirtual 313, 3)) (hroom : 3 + 1 ≤ fr ∧ 8 + (5 + 11) + 64 ≤ lo) (hst : (rest.map fun v => v.category).sum ≤ 8) (hf : bd (Rf_readCommand c_script c_scriptLength c_at c_commands c_draft) K = some oo) (kk : ∀ (o_at : Int32) (o_commands : Int32) (o_draft : Nat → Int32) (r : Int32), K (o_at, o_commands, o_draft, r) = some oo → V X 0 0 (wR a T c_m c_saved c_savedCount c_script c_scriptLength c_code c_lineParts c_lengths c_fractions c_pulseMany c_times c_energies c_far c_near c_echoes c_left c_dropped c_merged c_drops c_contributions c_packet c_peelResult c_peelTime c_peelSum o_at o_commands o_draft c_hash) lv (pc + 3) (.int r :: rest)) : V X 0 0 (wR a T c_m c_saved c_savedCount c_script c_scriptLength c_code c_lineParts c_lengths c_fractions c_pulseMany c_times c_energies c_far c_near c_echoes c_left c_dropped c_merged c_drops c_contributions c_packet c_peelResult c_peelTime c_peelSum c_at c_commands c_draft c_hash) lv pc (.ref (a 0) :: rest) := by
  obtain ⟨⟨o_at, o_commands, o_draft, r⟩, hc, hk⟩ := bd_some hf
  exact v_callV (As := []) (rest := rest) (q0 := 0) 0 C (CapOK.z X) (fun D => Rm_readCommand hc) (goodV wmethodLink_RX10_313_yX10_readCommand winstanceMethod_yX10_readCommand wselects_RX10_yX10_readCommand_yX10_readCommand winitialized_RX10 wcode_yX10_readCommand_cX10_readCommand_5_some_boolean) (by decide +kernel) hroom ⟨rfl, rfl⟩ rfl rfl rfl hst hdg (kk o_at o_commands o_draft r hk)
def Rl_readAll_15 (c_script : Nat → Int32) (c_scriptLength : Int32) : Nat → Int32 → Int32 → (Nat → Int32) → Option ((Int32 × Int32 × (Nat → Int32)) ⊕ (Int32 × Int32 × (Nat → Int32)))
  | 0, _, _, _ => none
  | n + 1, c_at, c_commands, c_draft =>
    if c_scriptLength ≤ c_at then
      some (.inr (c_at, c_commands, c_draft))
    else
      bd (Rf_readCommand c_script c_scriptLength c_at c_commands c_draft) fun (at_27, commands_27, draft_27, r27) =>
      if r27 = 0 then
        some (.inl (at_27, commands_27, draft_27))
      else
        bd (Rf_spaces c_script c_scriptLength at_27) fun (at_36, r36) =>
        Rl_readAll_15 c_script c_scriptLength n at_36 commands_27 draft_27
set_option maxRecDepth 100000 in
set_option maxHeartbeats 4000000 in
theorem Rk_readAll_15 (C : Cx X G T cX10_readAll RX10 (some .boolean) 2 4 88)  {o : ((Int32 × Int32 × (Nat → Int32)) ⊕ (Int32 × Int32 × (Nat → Int32)))} (hk0 : ∀ (o_at : Int32) (o_commands : Int32) (o_draft : Nat → Int32), o = .inl (o_at, o_commands, o_draft) → V X 0 0 (wR a T c_m c_saved c_savedCount c_script c_scriptLength c_code c_lineParts c_lengths c_fractions c_pulseMany c_times c_energies c_far c_near c_echoes c_left c_dropped c_merged c_drops c_contributions c_packet c_peelResult c_peelTime c_peelSum o_at o_commands o_draft c_hash) [] 33 []) (hk1 : ∀ (o_at : Int32) (o_commands : Int32) (o_draft : Nat → Int32), o = .inr (o_at, o_commands, o_draft) → V X 0 0 (wR a T c_m c_saved c_savedCount c_script c_scriptLength c_code c_lineParts c_lengths c_fractions c_pulseMany c_times c_energies c_far c_near c_echoes c_left c_dropped c_merged c_drops c_contributions c_packet c_peelResult c_peelTime c_peelSum o_at o_commands o_draft c_hash) [] 43 []) : ∀ (n : Nat) (c_at : Int32) (c_commands : Int32) (c_draft : Nat → Int32), Rl_readAll_15 c_script c_scriptLength n c_at c_commands c_draft = some o → V X 0 0 (wR a T c_m c_saved c_savedCount c_script c_scriptLength c_code c_lineParts c_lengths c_fractions c_pulseMany c_times c_energies c_far c_near c_echoes c_left c_dropped c_merged c_drops c_contributions c_packet c_peelResult c_peelTime c_peelSum c_at c_commands c_draft c_hash) [(0, .ref (a 0))] 15 [] := by
  intro n
  induction n with
  | zero =>
    intro _ _ _ hf
    cases hf
  | succ n hrec =>
    intro c_at c_commands c_draft hf
    rw [Rl_readAll_15] at hf
    refine v_aload_n 0 C dX10_readAll_15 rfl rfl ?_
    refine Rg_at C dX10_readAll_16 ?_
    refine v_aload_n 0 C dX10_readAll_19 rfl rfl ?_
    refine Rg_scriptLength C dX10_readAll_20 ?_
    refine v_icmp_ge 43 C dX10_readAll_23 (by decide) hf (fun c hf => ?_) (fun c hf => ?_)
    · refine v_lv [] [] rfl ?_
      cases hf
      exact hk1 _ _ _ rfl
    · refine v_aload_n 0 C dX10_readAll_26 rfl rfl ?_
      refine Rc_readCommand C dX10_readAll_27 (by decide) (Nat.le_of_ble_eq_true rfl) hf (fun at_27 commands_27 draft_27 r27 hf => ?_)
      refine v_if_ne 35 C dX10_readAll_30 (by decide) hf (fun c hf => ?_) (fun c hf => ?_)
      · refine v_lv [] [] rfl ?_
        cases hf
        exact hk0 _ _ _ rfl
      · refine v_aload_n 0 C dX10_readAll_35 rfl rfl ?_
        refine Rc_spaces C dX10_readAll_36 (by decide) (Nat.le_of_ble_eq_true rfl) hf (fun at_36 r36 hf => ?_)
        refine v_istore_n [(0, .ref (a 0))] [1] C dX10_readAll_39 rfl (by decide) rfl ?_
        refine v_goto 15 C dX10_readAll_40 (by decide) ?_
        exact hrec _ _ _ hf
def Rf_readAll (c_script : Nat → Int32) (c_scriptLength : Int32) (c_at : Int32) (c_commands : Int32) (c_draft : Nat → Int32) : Option (Int32 × Int32 × (Nat → Int32) × Int32) :=
  bd (Rf_spaces c_script c_scriptLength (0 : Int32)) fun (at_11, r11) =>
  bd (Rl_readAll_15 c_script c_scriptLength FUEL at_11 (0 : Int32) c_draft) fun o => match o with
  | .inl (o_at_15, o_commands_15, o_draft_15) =>
    chk ((0 : Int32) = 0 ∨ (0 : Int32) = 1) <| some (o_at_15, o_commands_15, o_draft_15, (0 : Int32))
  | .inr (o_at_15, o_commands_15, o_draft_15) =>
    chk ((1 : Int32) = 0 ∨ (1 : Int32) = 1) <| some (o_at_15, o_commands_15, o_draft_15, (1 : Int32))
set_option maxRecDepth 100000 in
set_option maxHeartbeats 4000000 in
theorem Rb_readAll (C : Cx X G T cX10_readAll RX10 (some .boolean) 2 4 88)  {o_at : Int32} {o_commands : Int32} {o_draft : Nat → Int32} {r : Int32} (hret : RetOK X 0 0 (some (.int r)) (wR a T c_m c_saved c_savedCount c_script c_scriptLength c_code c_lineParts c_lengths c_fractions c_pulseMany c_times c_energies c_far c_near c_echoes c_left c_dropped c_merged c_drops c_contributions c_packet c_peelResult c_peelTime c_peelSum o_at o_commands o_draft c_hash)) (hf : Rf_readAll c_script c_scriptLength c_at c_commands c_draft = some (o_at, o_commands, o_draft, r)) : V X 0 0 (wR a T c_m c_saved c_savedCount c_script c_scriptLength c_code c_lineParts c_lengths c_fractions c_pulseMany c_times c_energies c_far c_near c_echoes c_left c_dropped c_merged c_drops c_contributions c_packet c_peelResult c_peelTime c_peelSum c_at c_commands c_draft c_hash) [(0, .ref (a 0))] 0 [] := by
  unfold Rf_readAll at hf
  refine v_aload_n 0 C dX10_readAll_0 rfl rfl ?_
  refine v_iconst (v := 0) C dX10_readAll_1 (by decide) ?_
  refine Rp_at C dX10_readAll_2 ?_
  refine v_aload_n 0 C dX10_readAll_5 rfl rfl ?_
  refine v_iconst (v := 0) C dX10_readAll_6 (by decide) ?_
  refine Rp_commands C dX10_readAll_7 ?_
  refine v_aload_n 0 C dX10_readAll_10 rfl rfl ?_
  refine Rc_spaces C dX10_readAll_11 (by decide) (Nat.le_of_ble_eq_true rfl) hf (fun at_11 r11 hf => ?_)
  refine v_istore_n [(0, .ref (a 0))] [1] C dX10_readAll_14 rfl (by decide) rfl ?_
  obtain ⟨o, hc, hf⟩ := bd_some hf
  refine Rk_readAll_15 C (fun o_at_15 o_commands_15 o_draft_15 e => ?_) (fun o_at_15 o_commands_15 o_draft_15 e => ?_) _ _ _ _ hc
  · subst e
    refine v_iconst (v := 0) C dX10_readAll_33 (by decide) ?_
    obtain ⟨hv, hf⟩ := chk_some hf
    cases hf
    exact v_zret hv C hret dX10_readAll_34
  · subst e
    refine v_iconst (v := 1) C dX10_readAll_43 (by decide) ?_
    obtain ⟨hv, hf⟩ := chk_some hf
    cases hf
    exact v_zret hv C hret dX10_readAll_44
set_option maxRecDepth 100000 in
set_option maxHeartbeats 4000000 in
theorem Rm_readAll {D : va_G}  {o_at : Int32} {o_commands : Int32} {o_draft : Nat → Int32} {r : Int32} (hf : Rf_readAll c_script c_scriptLength c_at c_commands c_draft = some (o_at, o_commands, o_draft, r)) : MetM G yX10_readAll cX10_readAll 2 (some .boolean) { frames := 4, cells := 0, slots := 0, locals := 88 } D T [.ref (a 0)] (wR a T c_m c_saved c_savedCount c_script c_scriptLength c_code c_lineParts c_lengths c_fractions c_pulseMany c_times c_energies c_far c_near c_echoes c_left c_dropped c_merged c_drops c_contributions c_packet c_peelResult c_peelTime c_peelSum c_at c_commands c_draft c_hash) (some (.int r)) (wR a T c_m c_saved c_savedCount c_script c_scriptLength c_code c_lineParts c_lengths c_fractions c_pulseMany c_times c_energies c_far c_near c_echoes c_left c_dropped c_merged c_drops c_contributions c_packet c_peelResult c_peelTime c_peelSum o_at o_commands o_draft c_hash) :=
  MetM.of [(0, .ref (a 0))] (by decide) (Nat.le_of_ble_eq_true rfl) rfl (fun X C hret => Rb_readAll C hret hf)
set_option maxRecDepth 100000 in
theorem Rc_readAll  {cc : ByteArray} {ret : Option FieldType} {nl fr lo pc : Nat} {lv : List (Nat × Value)} {rest : List Value} {β : Type} {K : (Int32 × Int32 × (Nat → Int32) × Int32) → Option β} {oo : β} (C : Cx X G T cc RX10 ret nl fr lo) (hdg : decode cc pc = .ok (.invokevirtual 316, 3)) (hroom : 4 + 1 ≤ fr ∧ 8 + (2 + 11) + 88 ≤ lo) (hst : (rest.map fun v => v.category).sum ≤ 8) (hf : bd (Rf_readAll c_script c_scriptLength c_at c_commands c_draft) K = some oo) (kk : ∀ (o_at : Int32) (o_commands : Int32) (o_draft : Nat → Int32) (r : Int32), K (o_at, o_commands, o_draft, r) = some oo → V X 0 0 (wR a T c_m c_saved c_savedCount c_script c_scriptLength c_code c_lineParts c_lengths c_fractions c_pulseMany c_times c_energies c_far c_near c_echoes c_left c_dropped c_merged c_drops c_contributions c_packet c_peelResult c_peelTime c_peelSum o_at o_commands o_draft c_hash) lv (pc + 3) (.int r :: rest)) : V X 0 0 (wR a T c_m c_saved c_savedCount c_script c_scriptLength c_code c_lineParts c_lengths c_fractions c_pulseMany c_times c_energies c_far c_near c_echoes c_left c_dropped c_merged c_drops c_contributions c_packet c_peelResult c_peelTime c_peelSum c_at c_commands c_draft c_hash) lv pc (.ref (a 0) :: rest) := by
  obtain ⟨⟨o_at, o_commands, o_draft, r⟩, hc, hk⟩ := bd_some hf
  exact v_callV (As := []) (rest := rest) (q0 := 0) 0 C (CapOK.z X) (fun D => Rm_readAll hc) (goodV wmethodLink_RX10_316_yX10_readAll winstanceMethod_yX10_readAll wselects_RX10_yX10_readAll_yX10_readAll winitialized_RX10 wcode_yX10_readAll_cX10_readAll_2_some_boolean) (by decide +kernel) hroom ⟨rfl, rfl⟩ rfl rfl rfl hst hdg (kk o_at o_commands o_draft r hk)
def Rf_does_315 (c_m : Nat → Int64) (c_code : Int32) (c_lineParts : Int32) (c_lengths : Nat → Int32) (c_fractions : Nat → Int32) (c_pulseMany : Int32) (c_times : Nat → Int32) (c_energies : Nat → Int64) (c_far : Nat → Int64) (c_near : Nat → Int64) (c_echoes : Nat → Int64) (c_left : Int64) (c_dropped : Int64) (c_merged : Int32) (c_drops : Int32) (c_contributions : Int32) (c_packet : Int64) (c_peelResult : Int32) (c_peelTime : Int32) (c_peelSum : Int32) (s0 : Int32) : Option ((Nat → Int64) × Int32 × Int32 × (Nat → Int32) × (Nat → Int32) × Int32 × (Nat → Int32) × (Nat → Int64) × (Nat → Int64) × (Nat → Int64) × (Nat → Int64) × Int64 × Int64 × Int32 × Int32 × Int32 × Int64 × Int32 × Int32 × Int32 × Int32) :=
  chk (s0 = 0 ∨ s0 = 1) <| some (c_m, c_code, c_lineParts, c_lengths, c_fractions, c_pulseMany, c_times, c_energies, c_far, c_near, c_echoes, c_left, c_dropped, c_merged, c_drops, c_contributions, c_packet, c_peelResult, c_peelTime, c_peelSum, s0)
set_option maxRecDepth 100000 in
set_option maxHeartbeats 4000000 in
theorem Rb_does_315 (C : Cx X G T cX10_does RX10 (some .boolean) 6 8 184) {s0 : Int32} {o_m : Nat → Int64} {o_code : Int32} {o_lineParts : Int32} {o_lengths : Nat → Int32} {o_fractions : Nat → Int32} {o_pulseMany : Int32} {o_times : Nat → Int32} {o_energies : Nat → Int64} {o_far : Nat → Int64} {o_near : Nat → Int64} {o_echoes : Nat → Int64} {o_left : Int64} {o_dropped : Int64} {o_merged : Int32} {o_drops : Int32} {o_contributions : Int32} {o_packet : Int64} {o_peelResult : Int32} {o_peelTime : Int32} {o_peelSum : Int32} {r : Int32} (hret : RetOK X 0 0 (some (.int r)) (wR a T o_m c_saved c_savedCount c_script c_scriptLength o_code o_lineParts o_lengths o_fractions o_pulseMany o_times o_energies o_far o_near o_echoes o_left o_dropped o_merged o_drops o_contributions o_packet o_peelResult o_peelTime o_peelSum c_at c_commands c_draft c_hash)) (hf : Rf_does_315 c_m c_code c_lineParts c_lengths c_fractions c_pulseMany c_times c_energies c_far c_near c_echoes c_left c_dropped c_merged c_drops c_contributions c_packet c_peelResult c_peelTime c_peelSum s0 = some (o_m, o_code, o_lineParts, o_lengths, o_fractions, o_pulseMany, o_times, o_energies, o_far, o_near, o_echoes, o_left, o_dropped, o_merged, o_drops, o_contributions, o_packet, o_peelResult, o_peelTime, o_peelSum, r)) : V X 0 0 (wR a T c_m c_saved c_savedCount c_script c_scriptLength c_code c_lineParts c_lengths c_fractions c_pulseMany c_times c_energies c_far c_near c_echoes c_left c_dropped c_merged c_drops c_contributions c_packet c_peelResult c_peelTime c_peelSum c_at c_commands c_draft c_hash) [] 315 [.int s0] := by
  unfold Rf_does_315 at hf
  obtain ⟨hv, hf⟩ := chk_some hf
  cases hf
  exact v_zret hv C hret dX10_does_315
def Rf_does_314 (c_m : Nat → Int64) (c_code : Int32) (c_lineParts : Int32) (c_lengths : Nat → Int32) (c_fractions : Nat → Int32) (c_pulseMany : Int32) (c_times : Nat → Int32) (c_energies : Nat → Int64) (c_far : Nat → Int64) (c_near : Nat → Int64) (c_echoes : Nat → Int64) (c_left : Int64) (c_dropped : Int64) (c_merged : Int32) (c_drops : Int32) (c_contributions : Int32) (c_packet : Int64) (c_peelResult : Int32) (c_peelTime : Int32) (c_peelSum : Int32) : Option ((Nat → Int64) × Int32 × Int32 × (Nat → Int32) × (Nat → Int32) × Int32 × (Nat → Int32) × (Nat → Int64) × (Nat → Int64) × (Nat → Int64) × (Nat → Int64) × Int64 × Int64 × Int32 × Int32 × Int32 × Int64 × Int32 × Int32 × Int32 × Int32) :=
  Rf_does_315 c_m c_code c_lineParts c_lengths c_fractions c_pulseMany c_times c_energies c_far c_near c_echoes c_left c_dropped c_merged c_drops c_contributions c_packet c_peelResult c_peelTime c_peelSum (0 : Int32)
set_option maxRecDepth 100000 in
set_option maxHeartbeats 4000000 in
theorem Rb_does_314 (C : Cx X G T cX10_does RX10 (some .boolean) 6 8 184)  {o_m : Nat → Int64} {o_code : Int32} {o_lineParts : Int32} {o_lengths : Nat → Int32} {o_fractions : Nat → Int32} {o_pulseMany : Int32} {o_times : Nat → Int32} {o_energies : Nat → Int64} {o_far : Nat → Int64} {o_near : Nat → Int64} {o_echoes : Nat → Int64} {o_left : Int64} {o_dropped : Int64} {o_merged : Int32} {o_drops : Int32} {o_contributions : Int32} {o_packet : Int64} {o_peelResult : Int32} {o_peelTime : Int32} {o_peelSum : Int32} {r : Int32} (hret : RetOK X 0 0 (some (.int r)) (wR a T o_m c_saved c_savedCount c_script c_scriptLength o_code o_lineParts o_lengths o_fractions o_pulseMany o_times o_energies o_far o_near o_echoes o_left o_dropped o_merged o_drops o_contributions o_packet o_peelResult o_peelTime o_peelSum c_at c_commands c_draft c_hash)) (hf : Rf_does_314 c_m c_code c_lineParts c_lengths c_fractions c_pulseMany c_times c_energies c_far c_near c_echoes c_left c_dropped c_merged c_drops c_contributions c_packet c_peelResult c_peelTime c_peelSum = some (o_m, o_code, o_lineParts, o_lengths, o_fractions, o_pulseMany, o_times, o_energies, o_far, o_near, o_echoes, o_left, o_dropped, o_merged, o_drops, o_contributions, o_packet, o_peelResult, o_peelTime, o_peelSum, r)) : V X 0 0 (wR a T c_m c_saved c_savedCount c_script c_scriptLength c_code c_lineParts c_lengths c_fractions c_pulseMany c_times c_energies c_far c_near c_echoes c_left c_dropped c_merged c_drops c_contributions c_packet c_peelResult c_peelTime c_peelSum c_at c_commands c_draft c_hash) [] 314 [] := by
  unfold Rf_does_314 at hf
  refine v_iconst (v := 0) C dX10_does_314 (by decide) ?_
  exact Rb_does_315 C hret hf
def Rf_does_298 (c_m : Nat → Int64) (c_code : Int32) (c_lineParts : Int32) (c_lengths : Nat → Int32) (c_fractions : Nat → Int32) (c_pulseMany : Int32) (c_times : Nat → Int32) (c_energies : Nat → Int64) (c_far : Nat → Int64) (c_near : Nat → Int64) (c_echoes : Nat → Int64) (c_left : Int64) (c_dropped : Int64) (c_merged : Int32) (c_drops : Int32) (c_contributions : Int32) (c_packet : Int64) (c_peelResult : Int32) (c_peelTime : Int32) (c_peelSum : Int32) (x5 : Int32) : Option ((Nat → Int64) × Int32 × Int32 × (Nat → Int32) × (Nat → Int32) × Int32 × (Nat → Int32) × (Nat → Int64) × (Nat → Int64) × (Nat → Int64) × (Nat → Int64) × Int64 × Int64 × Int32 × Int32 × Int32 × Int64 × Int32 × Int32 × Int32 × Int32) :=
  if c_code = 0 then
    if x5 < 0 then
      Rf_does_314 c_m c_code c_lineParts c_lengths c_fractions c_pulseMany c_times c_energies c_far c_near c_echoes c_left c_dropped c_merged c_drops c_contributions c_packet c_peelResult c_peelTime c_peelSum
    else
      Rf_does_315 c_m c_code c_lineParts c_lengths c_fractions c_pulseMany c_times c_energies c_far c_near c_echoes c_left c_dropped c_merged c_drops c_contributions c_packet c_peelResult c_peelTime c_peelSum (1 : Int32)
  else
    Rf_does_314 c_m c_code c_lineParts c_lengths c_fractions c_pulseMany c_times c_energies c_far c_near c_echoes c_left c_dropped c_merged c_drops c_contributions c_packet c_peelResult c_peelTime c_peelSum
set_option maxRecDepth 100000 in
set_option maxHeartbeats 4000000 in
theorem Rb_does_298 (C : Cx X G T cX10_does RX10 (some .boolean) 6 8 184) {x5 : Int32} {o_m : Nat → Int64} {o_code : Int32} {o_lineParts : Int32} {o_lengths : Nat → Int32} {o_fractions : Nat → Int32} {o_pulseMany : Int32} {o_times : Nat → Int32} {o_energies : Nat → Int64} {o_far : Nat → Int64} {o_near : Nat → Int64} {o_echoes : Nat → Int64} {o_left : Int64} {o_dropped : Int64} {o_merged : Int32} {o_drops : Int32} {o_contributions : Int32} {o_packet : Int64} {o_peelResult : Int32} {o_peelTime : Int32} {o_peelSum : Int32} {r : Int32} (hret : RetOK X 0 0 (some (.int r)) (wR a T o_m c_saved c_savedCount c_script c_scriptLength o_code o_lineParts o_lengths o_fractions o_pulseMany o_times o_energies o_far o_near o_echoes o_left o_dropped o_merged o_drops o_contributions o_packet o_peelResult o_peelTime o_peelSum c_at c_commands c_draft c_hash)) (hf : Rf_does_298 c_m c_code c_lineParts c_lengths c_fractions c_pulseMany c_times c_energies c_far c_near c_echoes c_left c_dropped c_merged c_drops c_contributions c_packet c_peelResult c_peelTime c_peelSum x5 = some (o_m, o_code, o_lineParts, o_lengths, o_fractions, o_pulseMany, o_times, o_energies, o_far, o_near, o_echoes, o_left, o_dropped, o_merged, o_drops, o_contributions, o_packet, o_peelResult, o_peelTime, o_peelSum, r)) : V X 0 0 (wR a T c_m c_saved c_savedCount c_script c_scriptLength c_code c_lineParts c_lengths c_fractions c_pulseMany c_times c_energies c_far c_near c_echoes c_left c_dropped c_merged c_drops c_contributions c_packet c_peelResult c_peelTime c_peelSum c_at c_commands c_draft c_hash) [(0, .ref (a 0)), (5, .int x5)] 298 [] := by
  unfold Rf_does_298 at hf
  refine v_aload_n 0 C dX10_does_298 rfl rfl ?_
  refine Rg_code C dX10_does_299 ?_
  refine v_if_ne 314 C dX10_does_302 (by decide) hf (fun c hf => ?_) (fun c hf => ?_)
  · refine v_iload 1 C dX10_does_305 rfl ?_
    refine v_if_lt 314 C dX10_does_307 (by decide) hf (fun c hf => ?_) (fun c hf => ?_)
    · refine v_lv [] [] rfl ?_
      exact Rb_does_314 C hret hf
    · refine v_iconst (v := 1) C dX10_does_310 (by decide) ?_
      refine v_goto 315 C dX10_does_311 (by decide) ?_
      refine v_lv [] [] rfl ?_
      exact Rb_does_315 C hret hf
  · refine v_lv [] [] rfl ?_
    exact Rb_does_314 C hret hf
def Rf_does_111 (c_m : Nat → Int64) (c_code : Int32) (c_lineParts : Int32) (c_lengths : Nat → Int32) (c_fractions : Nat → Int32) (c_pulseMany : Int32) (c_times : Nat → Int32) (c_energies : Nat → Int64) (c_far : Nat → Int64) (c_near : Nat → Int64) (c_echoes : Nat → Int64) (c_left : Int64) (c_dropped : Int64) (c_merged : Int32) (c_drops : Int32) (c_contributions : Int32) (c_packet : Int64) (c_peelResult : Int32) (c_peelTime : Int32) (c_peelSum : Int32) (s0 : Int32) : Option ((Nat → Int64) × Int32 × Int32 × (Nat → Int32) × (Nat → Int32) × Int32 × (Nat → Int32) × (Nat → Int64) × (Nat → Int64) × (Nat → Int64) × (Nat → Int64) × Int64 × Int64 × Int32 × Int32 × Int32 × Int64 × Int32 × Int32 × Int32 × Int32) :=
  Rf_does_298 c_m c_code c_lineParts c_lengths c_fractions c_pulseMany c_times c_energies c_far c_near c_echoes c_left c_dropped c_merged c_drops c_contributions c_packet c_peelResult c_peelTime c_peelSum s0
set_option maxRecDepth 100000 in
set_option maxHeartbeats 4000000 in
theorem Rb_does_111 (C : Cx X G T cX10_does RX10 (some .boolean) 6 8 184) {s0 : Int32} {o_m : Nat → Int64} {o_code : Int32} {o_lineParts : Int32} {o_lengths : Nat → Int32} {o_fractions : Nat → Int32} {o_pulseMany : Int32} {o_times : Nat → Int32} {o_energies : Nat → Int64} {o_far : Nat → Int64} {o_near : Nat → Int64} {o_echoes : Nat → Int64} {o_left : Int64} {o_dropped : Int64} {o_merged : Int32} {o_drops : Int32} {o_contributions : Int32} {o_packet : Int64} {o_peelResult : Int32} {o_peelTime : Int32} {o_peelSum : Int32} {r : Int32} (hret : RetOK X 0 0 (some (.int r)) (wR a T o_m c_saved c_savedCount c_script c_scriptLength o_code o_lineParts o_lengths o_fractions o_pulseMany o_times o_energies o_far o_near o_echoes o_left o_dropped o_merged o_drops o_contributions o_packet o_peelResult o_peelTime o_peelSum c_at c_commands c_draft c_hash)) (hf : Rf_does_111 c_m c_code c_lineParts c_lengths c_fractions c_pulseMany c_times c_energies c_far c_near c_echoes c_left c_dropped c_merged c_drops c_contributions c_packet c_peelResult c_peelTime c_peelSum s0 = some (o_m, o_code, o_lineParts, o_lengths, o_fractions, o_pulseMany, o_times, o_energies, o_far, o_near, o_echoes, o_left, o_dropped, o_merged, o_drops, o_contributions, o_packet, o_peelResult, o_peelTime, o_peelSum, r)) : V X 0 0 (wR a T c_m c_saved c_savedCount c_script c_scriptLength c_code c_lineParts c_lengths c_fractions c_pulseMany c_times c_energies c_far c_near c_echoes c_left c_dropped c_merged c_drops c_contributions c_packet c_peelResult c_peelTime c_peelSum c_at c_commands c_draft c_hash) [(0, .ref (a 0))] 111 [.int s0] := by
  unfold Rf_does_111 at hf
  refine v_istore [(0, .ref (a 0)), (5, .int s0)] [1, 0] C dX10_does_111 (by decide) rfl ?_
  refine v_goto 298 C dX10_does_113 (by decide) ?_
  exact Rb_does_298 C hret hf
def Rf_does_147 (c_m : Nat → Int64) (c_code : Int32) (c_lineParts : Int32) (c_lengths : Nat → Int32) (c_fractions : Nat → Int32) (c_pulseMany : Int32) (c_times : Nat → Int32) (c_energies : Nat → Int64) (c_far : Nat → Int64) (c_near : Nat → Int64) (c_echoes : Nat → Int64) (c_left : Int64) (c_dropped : Int64) (c_merged : Int32) (c_drops : Int32) (c_contributions : Int32) (c_packet : Int64) (c_peelResult : Int32) (c_peelTime : Int32) (c_peelSum : Int32) (s0 : Int32) : Option ((Nat → Int64) × Int32 × Int32 × (Nat → Int32) × (Nat → Int32) × Int32 × (Nat → Int32) × (Nat → Int64) × (Nat → Int64) × (Nat → Int64) × (Nat → Int64) × Int64 × Int64 × Int32 × Int32 × Int32 × Int64 × Int32 × Int32 × Int32 × Int32) :=
  Rf_does_298 c_m c_code c_lineParts c_lengths c_fractions c_pulseMany c_times c_energies c_far c_near c_echoes c_left c_dropped c_merged c_drops c_contributions c_packet c_peelResult c_peelTime c_peelSum s0
set_option maxRecDepth 100000 in
set_option maxHeartbeats 4000000 in
theorem Rb_does_147 (C : Cx X G T cX10_does RX10 (some .boolean) 6 8 184) {s0 : Int32} {o_m : Nat → Int64} {o_code : Int32} {o_lineParts : Int32} {o_lengths : Nat → Int32} {o_fractions : Nat → Int32} {o_pulseMany : Int32} {o_times : Nat → Int32} {o_energies : Nat → Int64} {o_far : Nat → Int64} {o_near : Nat → Int64} {o_echoes : Nat → Int64} {o_left : Int64} {o_dropped : Int64} {o_merged : Int32} {o_drops : Int32} {o_contributions : Int32} {o_packet : Int64} {o_peelResult : Int32} {o_peelTime : Int32} {o_peelSum : Int32} {r : Int32} (hret : RetOK X 0 0 (some (.int r)) (wR a T o_m c_saved c_savedCount c_script c_scriptLength o_code o_lineParts o_lengths o_fractions o_pulseMany o_times o_energies o_far o_near o_echoes o_left o_dropped o_merged o_drops o_contributions o_packet o_peelResult o_peelTime o_peelSum c_at c_commands c_draft c_hash)) (hf : Rf_does_147 c_m c_code c_lineParts c_lengths c_fractions c_pulseMany c_times c_energies c_far c_near c_echoes c_left c_dropped c_merged c_drops c_contributions c_packet c_peelResult c_peelTime c_peelSum s0 = some (o_m, o_code, o_lineParts, o_lengths, o_fractions, o_pulseMany, o_times, o_energies, o_far, o_near, o_echoes, o_left, o_dropped, o_merged, o_drops, o_contributions, o_packet, o_peelResult, o_peelTime, o_peelSum, r)) : V X 0 0 (wR a T c_m c_saved c_savedCount c_script c_scriptLength c_code c_lineParts c_lengths c_fractions c_pulseMany c_times c_energies c_far c_near c_echoes c_left c_dropped c_merged c_drops c_contributions c_packet c_peelResult c_peelTime c_peelSum c_at c_commands c_draft c_hash) [(0, .ref (a 0))] 147 [.int s0] := by
  unfold Rf_does_147 at hf
  refine v_istore [(0, .ref (a 0)), (5, .int s0)] [1, 0] C dX10_does_147 (by decide) rfl ?_
  refine v_goto 298 C dX10_does_149 (by decide) ?_
  exact Rb_does_298 C hret hf
def Rf_does_179 (c_m : Nat → Int64) (c_code : Int32) (c_lineParts : Int32) (c_lengths : Nat → Int32) (c_fractions : Nat → Int32) (c_pulseMany : Int32) (c_times : Nat → Int32) (c_energies : Nat → Int64) (c_far : Nat → Int64) (c_near : Nat → Int64) (c_echoes : Nat → Int64) (c_left : Int64) (c_dropped : Int64) (c_merged : Int32) (c_drops : Int32) (c_contributions : Int32) (c_packet : Int64) (c_peelResult : Int32) (c_peelTime : Int32) (c_peelSum : Int32) (s0 : Int32) : Option ((Nat → Int64) × Int32 × Int32 × (Nat → Int32) × (Nat → Int32) × Int32 × (Nat → Int32) × (Nat → Int64) × (Nat → Int64) × (Nat → Int64) × (Nat → Int64) × Int64 × Int64 × Int32 × Int32 × Int32 × Int64 × Int32 × Int32 × Int32 × Int32) :=
  Rf_does_298 c_m c_code c_lineParts c_lengths c_fractions c_pulseMany c_times c_energies c_far c_near c_echoes c_left c_dropped c_merged c_drops c_contributions c_packet c_peelResult c_peelTime c_peelSum s0
set_option maxRecDepth 100000 in
set_option maxHeartbeats 4000000 in
theorem Rb_does_179 (C : Cx X G T cX10_does RX10 (some .boolean) 6 8 184) {s0 : Int32} {o_m : Nat → Int64} {o_code : Int32} {o_lineParts : Int32} {o_lengths : Nat → Int32} {o_fractions : Nat → Int32} {o_pulseMany : Int32} {o_times : Nat → Int32} {o_energies : Nat → Int64} {o_far : Nat → Int64} {o_near : Nat → Int64} {o_echoes : Nat → Int64} {o_left : Int64} {o_dropped : Int64} {o_merged : Int32} {o_drops : Int32} {o_contributions : Int32} {o_packet : Int64} {o_peelResult : Int32} {o_peelTime : Int32} {o_peelSum : Int32} {r : Int32} (hret : RetOK X 0 0 (some (.int r)) (wR a T o_m c_saved c_savedCount c_script c_scriptLength o_code o_lineParts o_lengths o_fractions o_pulseMany o_times o_energies o_far o_near o_echoes o_left o_dropped o_merged o_drops o_contributions o_packet o_peelResult o_peelTime o_peelSum c_at c_commands c_draft c_hash)) (hf : Rf_does_179 c_m c_code c_lineParts c_lengths c_fractions c_pulseMany c_times c_energies c_far c_near c_echoes c_left c_dropped c_merged c_drops c_contributions c_packet c_peelResult c_peelTime c_peelSum s0 = some (o_m, o_code, o_lineParts, o_lengths, o_fractions, o_pulseMany, o_times, o_energies, o_far, o_near, o_echoes, o_left, o_dropped, o_merged, o_drops, o_contributions, o_packet, o_peelResult, o_peelTime, o_peelSum, r)) : V X 0 0 (wR a T c_m c_saved c_savedCount c_script c_scriptLength c_code c_lineParts c_lengths c_fractions c_pulseMany c_times c_energies c_far c_near c_echoes c_left c_dropped c_merged c_drops c_contributions c_packet c_peelResult c_peelTime c_peelSum c_at c_commands c_draft c_hash) [(0, .ref (a 0))] 179 [.int s0] := by
  unfold Rf_does_179 at hf
  refine v_istore [(0, .ref (a 0)), (5, .int s0)] [1, 0] C dX10_does_179 (by decide) rfl ?_
  refine v_goto 298 C dX10_does_181 (by decide) ?_
  exact Rb_does_298 C hret hf
def Rf_does_211 (c_m : Nat → Int64) (c_code : Int32) (c_lineParts : Int32) (c_lengths : Nat → Int32) (c_fractions : Nat → Int32) (c_pulseMany : Int32) (c_times : Nat → Int32) (c_energies : Nat → Int64) (c_far : Nat → Int64) (c_near : Nat → Int64) (c_echoes : Nat → Int64) (c_left : Int64) (c_dropped : Int64) (c_merged : Int32) (c_drops : Int32) (c_contributions : Int32) (c_packet : Int64) (c_peelResult : Int32) (c_peelTime : Int32) (c_peelSum : Int32) (s0 : Int32) : Option ((Nat → Int64) × Int32 × Int32 × (Nat → Int32) × (Nat → Int32) × Int32 × (Nat → Int32) × (Nat → Int64) × (Nat → Int64) × (Nat → Int64) × (Nat → Int64) × Int64 × Int64 × Int32 × Int32 × Int32 × Int64 × Int32 × Int32 × Int32 × Int32) :=
  Rf_does_298 c_m c_code c_lineParts c_lengths c_fractions c_pulseMany c_times c_energies c_far c_near c_echoes c_left c_dropped c_merged c_drops c_contributions c_packet c_peelResult c_peelTime c_peelSum s0
set_option maxRecDepth 100000 in
set_option maxHeartbeats 4000000 in
theorem Rb_does_211 (C : Cx X G T cX10_does RX10 (some .boolean) 6 8 184) {s0 : Int32} {o_m : Nat → Int64} {o_code : Int32} {o_lineParts : Int32} {o_lengths : Nat → Int32} {o_fractions : Nat → Int32} {o_pulseMany : Int32} {o_times : Nat → Int32} {o_energies : Nat → Int64} {o_far : Nat → Int64} {o_near : Nat → Int64} {o_echoes : Nat → Int64} {o_left : Int64} {o_dropped : Int64} {o_merged : Int32} {o_drops : Int32} {o_contributions : Int32} {o_packet : Int64} {o_peelResult : Int32} {o_peelTime : Int32} {o_peelSum : Int32} {r : Int32} (hret : RetOK X 0 0 (some (.int r)) (wR a T o_m c_saved c_savedCount c_script c_scriptLength o_code o_lineParts o_lengths o_fractions o_pulseMany o_times o_energies o_far o_near o_echoes o_left o_dropped o_merged o_drops o_contributions o_packet o_peelResult o_peelTime o_peelSum c_at c_commands c_draft c_hash)) (hf : Rf_does_211 c_m c_code c_lineParts c_lengths c_fractions c_pulseMany c_times c_energies c_far c_near c_echoes c_left c_dropped c_merged c_drops c_contributions c_packet c_peelResult c_peelTime c_peelSum s0 = some (o_m, o_code, o_lineParts, o_lengths, o_fractions, o_pulseMany, o_times, o_energies, o_far, o_near, o_echoes, o_left, o_dropped, o_merged, o_drops, o_contributions, o_packet, o_peelResult, o_peelTime, o_peelSum, r)) : V X 0 0 (wR a T c_m c_saved c_savedCount c_script c_scriptLength c_code c_lineParts c_lengths c_fractions c_pulseMany c_times c_energies c_far c_near c_echoes c_left c_dropped c_merged c_drops c_contributions c_packet c_peelResult c_peelTime c_peelSum c_at c_commands c_draft c_hash) [(0, .ref (a 0))] 211 [.int s0] := by
  unfold Rf_does_211 at hf
  refine v_istore [(0, .ref (a 0)), (5, .int s0)] [1, 0] C dX10_does_211 (by decide) rfl ?_
  refine v_goto 298 C dX10_does_213 (by decide) ?_
  exact Rb_does_298 C hret hf
def Rf_does_249 (c_m : Nat → Int64) (c_code : Int32) (c_lineParts : Int32) (c_lengths : Nat → Int32) (c_fractions : Nat → Int32) (c_pulseMany : Int32) (c_times : Nat → Int32) (c_energies : Nat → Int64) (c_far : Nat → Int64) (c_near : Nat → Int64) (c_echoes : Nat → Int64) (c_left : Int64) (c_dropped : Int64) (c_merged : Int32) (c_drops : Int32) (c_contributions : Int32) (c_packet : Int64) (c_peelResult : Int32) (c_peelTime : Int32) (c_peelSum : Int32) (s0 : Int32) : Option ((Nat → Int64) × Int32 × Int32 × (Nat → Int32) × (Nat → Int32) × Int32 × (Nat → Int32) × (Nat → Int64) × (Nat → Int64) × (Nat → Int64) × (Nat → Int64) × Int64 × Int64 × Int32 × Int32 × Int32 × Int64 × Int32 × Int32 × Int32 × Int32) :=
  Rf_does_298 c_m c_code c_lineParts c_lengths c_fractions c_pulseMany c_times c_energies c_far c_near c_echoes c_left c_dropped c_merged c_drops c_contributions c_packet c_peelResult c_peelTime c_peelSum s0
set_option maxRecDepth 100000 in
set_option maxHeartbeats 4000000 in
theorem Rb_does_249 (C : Cx X G T cX10_does RX10 (some .boolean) 6 8 184) {s0 : Int32} {o_m : Nat → Int64} {o_code : Int32} {o_lineParts : Int32} {o_lengths : Nat → Int32} {o_fractions : Nat → Int32} {o_pulseMany : Int32} {o_times : Nat → Int32} {o_energies : Nat → Int64} {o_far : Nat → Int64} {o_near : Nat → Int64} {o_echoes : Nat → Int64} {o_left : Int64} {o_dropped : Int64} {o_merged : Int32} {o_drops : Int32} {o_contributions : Int32} {o_packet : Int64} {o_peelResult : Int32} {o_peelTime : Int32} {o_peelSum : Int32} {r : Int32} (hret : RetOK X 0 0 (some (.int r)) (wR a T o_m c_saved c_savedCount c_script c_scriptLength o_code o_lineParts o_lengths o_fractions o_pulseMany o_times o_energies o_far o_near o_echoes o_left o_dropped o_merged o_drops o_contributions o_packet o_peelResult o_peelTime o_peelSum c_at c_commands c_draft c_hash)) (hf : Rf_does_249 c_m c_code c_lineParts c_lengths c_fractions c_pulseMany c_times c_energies c_far c_near c_echoes c_left c_dropped c_merged c_drops c_contributions c_packet c_peelResult c_peelTime c_peelSum s0 = some (o_m, o_code, o_lineParts, o_lengths, o_fractions, o_pulseMany, o_times, o_energies, o_far, o_near, o_echoes, o_left, o_dropped, o_merged, o_drops, o_contributions, o_packet, o_peelResult, o_peelTime, o_peelSum, r)) : V X 0 0 (wR a T c_m c_saved c_savedCount c_script c_scriptLength c_code c_lineParts c_lengths c_fractions c_pulseMany c_times c_energies c_far c_near c_echoes c_left c_dropped c_merged c_drops c_contributions c_packet c_peelResult c_peelTime c_peelSum c_at c_commands c_draft c_hash) [(0, .ref (a 0))] 249 [.int s0] := by
  unfold Rf_does_249 at hf
  refine v_istore [(0, .ref (a 0)), (5, .int s0)] [1, 0] C dX10_does_249 (by decide) rfl ?_
  refine v_goto 298 C dX10_does_251 (by decide) ?_
  exact Rb_does_298 C hret hf
def Rf_does_230 (c_m : Nat → Int64) (c_code : Int32) (c_lineParts : Int32) (c_lengths : Nat → Int32) (c_fractions : Nat → Int32) (c_pulseMany : Int32) (c_times : Nat → Int32) (c_energies : Nat → Int64) (c_far : Nat → Int64) (c_near : Nat → Int64) (c_echoes : Nat → Int64) (c_left : Int64) (c_dropped : Int64) (c_merged : Int32) (c_drops : Int32) (c_contributions : Int32) (c_packet : Int64) (c_peelResult : Int32) (c_peelTime : Int32) (c_peelSum : Int32) (x2 : Int32) (s1 : Int32) : Option ((Nat → Int64) × Int32 × Int32 × (Nat → Int32) × (Nat → Int32) × Int32 × (Nat → Int32) × (Nat → Int64) × (Nat → Int64) × (Nat → Int64) × (Nat → Int64) × Int64 × Int64 × Int32 × Int32 × Int32 × Int64 × Int32 × Int32 × Int32 × Int32) :=
  if s1 = 0 then
    bd (Rf_removesPart c_m x2) fun (m_242, r242) =>
    Rf_does_249 m_242 s1 c_lineParts c_lengths c_fractions c_pulseMany c_times c_energies c_far c_near c_echoes c_left c_dropped c_merged c_drops c_contributions c_packet c_peelResult c_peelTime c_peelSum r242
  else
    Rf_does_249 c_m s1 c_lineParts c_lengths c_fractions c_pulseMany c_times c_energies c_far c_near c_echoes c_left c_dropped c_merged c_drops c_contributions c_packet c_peelResult c_peelTime c_peelSum (0 : Int32)
set_option maxRecDepth 100000 in
set_option maxHeartbeats 4000000 in
theorem Rb_does_230 (C : Cx X G T cX10_does RX10 (some .boolean) 6 8 184) {x2 : Int32} {s1 : Int32} {o_m : Nat → Int64} {o_code : Int32} {o_lineParts : Int32} {o_lengths : Nat → Int32} {o_fractions : Nat → Int32} {o_pulseMany : Int32} {o_times : Nat → Int32} {o_energies : Nat → Int64} {o_far : Nat → Int64} {o_near : Nat → Int64} {o_echoes : Nat → Int64} {o_left : Int64} {o_dropped : Int64} {o_merged : Int32} {o_drops : Int32} {o_contributions : Int32} {o_packet : Int64} {o_peelResult : Int32} {o_peelTime : Int32} {o_peelSum : Int32} {r : Int32} (hret : RetOK X 0 0 (some (.int r)) (wR a T o_m c_saved c_savedCount c_script c_scriptLength o_code o_lineParts o_lengths o_fractions o_pulseMany o_times o_energies o_far o_near o_echoes o_left o_dropped o_merged o_drops o_contributions o_packet o_peelResult o_peelTime o_peelSum c_at c_commands c_draft c_hash)) (hf : Rf_does_230 c_m c_code c_lineParts c_lengths c_fractions c_pulseMany c_times c_energies c_far c_near c_echoes c_left c_dropped c_merged c_drops c_contributions c_packet c_peelResult c_peelTime c_peelSum x2 s1 = some (o_m, o_code, o_lineParts, o_lengths, o_fractions, o_pulseMany, o_times, o_energies, o_far, o_near, o_echoes, o_left, o_dropped, o_merged, o_drops, o_contributions, o_packet, o_peelResult, o_peelTime, o_peelSum, r)) : V X 0 0 (wR a T c_m c_saved c_savedCount c_script c_scriptLength c_code c_lineParts c_lengths c_fractions c_pulseMany c_times c_energies c_far c_near c_echoes c_left c_dropped c_merged c_drops c_contributions c_packet c_peelResult c_peelTime c_peelSum c_at c_commands c_draft c_hash) [(0, .ref (a 0)), (2, .int x2)] 230 [.int s1, .ref (a 0)] := by
  unfold Rf_does_230 at hf
  refine Rp_code C dX10_does_230 ?_
  refine v_aload_n 0 C dX10_does_233 rfl rfl ?_
  refine Rg_code C dX10_does_234 ?_
  refine v_if_ne 248 C dX10_does_237 (by decide) hf (fun c hf => ?_) (fun c hf => ?_)
  · refine v_aload_n 0 C dX10_does_240 rfl rfl ?_
    refine v_iload_n 1 C dX10_does_241 rfl rfl ?_
    refine Rc_removesPart C dX10_does_242 (by decide) (Nat.le_of_ble_eq_true rfl) hf (fun m_242 r242 hf => ?_)
    refine v_goto 249 C dX10_does_245 (by decide) ?_
    refine v_lv [(0, .ref (a 0))] [0] rfl ?_
    exact Rb_does_249 C hret hf
  · refine v_iconst (v := 0) C dX10_does_248 (by decide) ?_
    refine v_lv [(0, .ref (a 0))] [0] rfl ?_
    exact Rb_does_249 C hret hf
def Rf_does (c_m : Nat → Int64) (c_code : Int32) (c_lineParts : Int32) (c_lengths : Nat → Int32) (c_fractions : Nat → Int32) (c_pulseMany : Int32) (c_times : Nat → Int32) (c_energies : Nat → Int64) (c_far : Nat → Int64) (c_near : Nat → Int64) (c_echoes : Nat → Int64) (c_left : Int64) (c_dropped : Int64) (c_merged : Int32) (c_drops : Int32) (c_contributions : Int32) (c_packet : Int64) (c_peelResult : Int32) (c_peelTime : Int32) (c_peelSum : Int32) (c_draft : Nat → Int32) (x1 : Int32) : Option ((Nat → Int64) × Int32 × Int32 × (Nat → Int32) × (Nat → Int32) × Int32 × (Nat → Int32) × (Nat → Int64) × (Nat → Int64) × (Nat → Int64) × (Nat → Int64) × Int64 × Int64 × Int32 × Int32 × Int32 × Int64 × Int32 × Int32 × Int32 × Int32) :=
  nm (x1 + (1 : Int32)) fun z6 =>
  chk (inb z6 120) <| nm (c_draft z6.toNatClampNeg) fun z7 =>
  nm (x1 + (2 : Int32)) fun z15 =>
  chk (inb z15 120) <| nm (c_draft z15.toNatClampNeg) fun z16 =>
  nm (x1 + (3 : Int32)) fun z24 =>
  chk (inb z24 120) <| nm (c_draft z24.toNatClampNeg) fun z25 =>
  chk (inb x1 120) <| nm (c_draft x1.toNatClampNeg) fun z36 =>
  if z36 = 0 then
    bd (Rf_whyNotSet c_m z7 z16 z25) fun r86 =>
    if r86 = 0 then
      bd (Rf_setsPart c_m z7 z16 z25) fun (m_104, r104) =>
      Rf_does_111 m_104 r86 c_lineParts c_lengths c_fractions c_pulseMany c_times c_energies c_far c_near c_echoes c_left c_dropped c_merged c_drops c_contributions c_packet c_peelResult c_peelTime c_peelSum r104
    else
      Rf_does_111 c_m r86 c_lineParts c_lengths c_fractions c_pulseMany c_times c_energies c_far c_near c_echoes c_left c_dropped c_merged c_drops c_contributions c_packet c_peelResult c_peelTime c_peelSum (0 : Int32)
  else
    if z36 = 1 then
      bd (Rf_whyNotSplit c_m z7 z16 z25) fun r122 =>
      if r122 = 0 then
        bd (Rf_splitsPart c_m z7 z16 z25) fun (m_140, r140) =>
        Rf_does_147 m_140 r122 c_lineParts c_lengths c_fractions c_pulseMany c_times c_energies c_far c_near c_echoes c_left c_dropped c_merged c_drops c_contributions c_packet c_peelResult c_peelTime c_peelSum r140
      else
        Rf_does_147 c_m r122 c_lineParts c_lengths c_fractions c_pulseMany c_times c_energies c_far c_near c_echoes c_left c_dropped c_merged c_drops c_contributions c_packet c_peelResult c_peelTime c_peelSum (0 : Int32)
    else
      if z36 = 2 then
        bd (Rf_whyNoPart c_m z7 z16) fun r156 =>
        if r156 = 0 then
          bd (Rf_addsPart c_m z7 z16) fun (m_172, r172) =>
          Rf_does_179 m_172 r156 c_lineParts c_lengths c_fractions c_pulseMany c_times c_energies c_far c_near c_echoes c_left c_dropped c_merged c_drops c_contributions c_packet c_peelResult c_peelTime c_peelSum r172
        else
          Rf_does_179 c_m r156 c_lineParts c_lengths c_fractions c_pulseMany c_times c_energies c_far c_near c_echoes c_left c_dropped c_merged c_drops c_contributions c_packet c_peelResult c_peelTime c_peelSum (0 : Int32)
      else
        if z36 = 3 then
          bd (Rf_whyNoPulse c_m z7 z16) fun r188 =>
          if r188 = 0 then
            bd (Rf_addsPulse c_m z7 z16) fun (m_204, r204) =>
            Rf_does_211 m_204 r188 c_lineParts c_lengths c_fractions c_pulseMany c_times c_energies c_far c_near c_echoes c_left c_dropped c_merged c_drops c_contributions c_packet c_peelResult c_peelTime c_peelSum r204
          else
            Rf_does_211 c_m r188 c_lineParts c_lengths c_fractions c_pulseMany c_times c_energies c_far c_near c_echoes c_left c_dropped c_merged c_drops c_contributions c_packet c_peelResult c_peelTime c_peelSum (0 : Int32)
        else
          if z36 = 4 then
            bd (Rf_isPart c_m z7) fun r219 =>
            if r219 = 0 then
              Rf_does_230 c_m c_code c_lineParts c_lengths c_fractions c_pulseMany c_times c_energies c_far c_near c_echoes c_left c_dropped c_merged c_drops c_contributions c_packet c_peelResult c_peelTime c_peelSum z7 (1 : Int32)
            else
              Rf_does_230 c_m c_code c_lineParts c_lengths c_fractions c_pulseMany c_times c_energies c_far c_near c_echoes c_left c_dropped c_merged c_drops c_contributions c_packet c_peelResult c_peelTime c_peelSum z7 (0 : Int32)
          else
            if z36 = 5 then
              bd (Rf_copies c_m c_lineParts c_lengths c_fractions c_pulseMany c_times c_energies c_far c_near c_echoes c_left c_dropped c_merged c_drops c_contributions c_packet (29 : Int32)) fun (m_262, lineParts_262, lengths_262, fractions_262, pulseMany_262, times_262, energies_262, far_262, near_262, echoes_262, left_262, dropped_262, merged_262, drops_262, contributions_262, packet_262, r262) =>
              Rf_does_298 m_262 (0 : Int32) lineParts_262 lengths_262 fractions_262 pulseMany_262 times_262 energies_262 far_262 near_262 echoes_262 left_262 dropped_262 merged_262 drops_262 contributions_262 packet_262 c_peelResult c_peelTime c_peelSum r262
            else
              if z36 = 6 then
                bd (Rf_copies c_m c_lineParts c_lengths c_fractions c_pulseMany c_times c_energies c_far c_near c_echoes c_left c_dropped c_merged c_drops c_contributions c_packet (230 : Int32)) fun (m_279, lineParts_279, lengths_279, fractions_279, pulseMany_279, times_279, energies_279, far_279, near_279, echoes_279, left_279, dropped_279, merged_279, drops_279, contributions_279, packet_279, r279) =>
                Rf_does_298 m_279 (0 : Int32) lineParts_279 lengths_279 fractions_279 pulseMany_279 times_279 energies_279 far_279 near_279 echoes_279 left_279 dropped_279 merged_279 drops_279 contributions_279 packet_279 c_peelResult c_peelTime c_peelSum r279
              else
                bd (Rf_adopts c_m c_lineParts c_lengths c_fractions c_pulseMany c_times c_energies c_far c_near c_echoes c_left c_dropped c_merged c_drops c_contributions c_packet c_peelResult c_peelTime c_peelSum) fun (m_293, lineParts_293, lengths_293, fractions_293, pulseMany_293, times_293, energies_293, far_293, near_293, echoes_293, left_293, dropped_293, merged_293, drops_293, contributions_293, packet_293, peelResult_293, peelTime_293, peelSum_293, r293) =>
                Rf_does_298 m_293 (0 : Int32) lineParts_293 lengths_293 fractions_293 pulseMany_293 times_293 energies_293 far_293 near_293 echoes_293 left_293 dropped_293 merged_293 drops_293 contributions_293 packet_293 peelResult_293 peelTime_293 peelSum_293 r293
set_option maxRecDepth 100000 in
set_option maxHeartbeats 4000000 in
theorem Rb_does (C : Cx X G T cX10_does RX10 (some .boolean) 6 8 184) {x1 : Int32} {o_m : Nat → Int64} {o_code : Int32} {o_lineParts : Int32} {o_lengths : Nat → Int32} {o_fractions : Nat → Int32} {o_pulseMany : Int32} {o_times : Nat → Int32} {o_energies : Nat → Int64} {o_far : Nat → Int64} {o_near : Nat → Int64} {o_echoes : Nat → Int64} {o_left : Int64} {o_dropped : Int64} {o_merged : Int32} {o_drops : Int32} {o_contributions : Int32} {o_packet : Int64} {o_peelResult : Int32} {o_peelTime : Int32} {o_peelSum : Int32} {r : Int32} (hret : RetOK X 0 0 (some (.int r)) (wR a T o_m c_saved c_savedCount c_script c_scriptLength o_code o_lineParts o_lengths o_fractions o_pulseMany o_times o_energies o_far o_near o_echoes o_left o_dropped o_merged o_drops o_contributions o_packet o_peelResult o_peelTime o_peelSum c_at c_commands c_draft c_hash)) (hf : Rf_does c_m c_code c_lineParts c_lengths c_fractions c_pulseMany c_times c_energies c_far c_near c_echoes c_left c_dropped c_merged c_drops c_contributions c_packet c_peelResult c_peelTime c_peelSum c_draft x1 = some (o_m, o_code, o_lineParts, o_lengths, o_fractions, o_pulseMany, o_times, o_energies, o_far, o_near, o_echoes, o_left, o_dropped, o_merged, o_drops, o_contributions, o_packet, o_peelResult, o_peelTime, o_peelSum, r)) : V X 0 0 (wR a T c_m c_saved c_savedCount c_script c_scriptLength c_code c_lineParts c_lengths c_fractions c_pulseMany c_times c_energies c_far c_near c_echoes c_left c_dropped c_merged c_drops c_contributions c_packet c_peelResult c_peelTime c_peelSum c_at c_commands c_draft c_hash) [(0, .ref (a 0)), (1, .int x1)] 0 [] := by
  unfold Rf_does at hf
  refine v_aload_n 0 C dX10_does_0 rfl rfl ?_
  refine Rg_draft C dX10_does_1 ?_
  refine v_iload_n 1 C dX10_does_4 rfl rfl ?_
  refine v_iconst (v := 1) C dX10_does_5 (by decide) ?_
  refine v_iadd C dX10_does_6 hf (fun z6 hf => ?_)
  refine Ral_draft C dX10_does_7 hf (fun z7 hf => ?_)
  refine v_istore_n [(0, .ref (a 0)), (1, .int x1), (2, .int z7)] [1, 2, 0] C dX10_does_8 rfl (by decide) rfl ?_
  refine v_aload_n 0 C dX10_does_9 rfl rfl ?_
  refine Rg_draft C dX10_does_10 ?_
  refine v_iload_n 1 C dX10_does_13 rfl rfl ?_
  refine v_iconst (v := 2) C dX10_does_14 (by decide) ?_
  refine v_iadd C dX10_does_15 hf (fun z15 hf => ?_)
  refine Ral_draft C dX10_does_16 hf (fun z16 hf => ?_)
  refine v_istore_n [(0, .ref (a 0)), (1, .int x1), (2, .int z7), (3, .int z16)] [1, 2, 3, 0] C dX10_does_17 rfl (by decide) rfl ?_
  refine v_aload_n 0 C dX10_does_18 rfl rfl ?_
  refine Rg_draft C dX10_does_19 ?_
  refine v_iload_n 1 C dX10_does_22 rfl rfl ?_
  refine v_iconst (v := 3) C dX10_does_23 (by decide) ?_
  refine v_iadd C dX10_does_24 hf (fun z24 hf => ?_)
  refine Ral_draft C dX10_does_25 hf (fun z25 hf => ?_)
  refine v_istore [(0, .ref (a 0)), (1, .int x1), (2, .int z7), (3, .int z16), (4, .int z25)] [1, 2, 3, 4, 0] C dX10_does_26 (by decide) rfl ?_
  refine v_iconst (v := 0) C dX10_does_28 (by decide) ?_
  refine v_istore [(0, .ref (a 0)), (1, .int x1), (2, .int z7), (3, .int z16), (4, .int z25)] [1, 2, 3, 4, 5] C dX10_does_29 (by decide) rfl ?_
  refine v_aload_n 0 C dX10_does_31 rfl rfl ?_
  refine Rg_draft C dX10_does_32 ?_
  refine v_iload_n 1 C dX10_does_35 rfl rfl ?_
  refine Ral_draft C dX10_does_36 hf (fun z36 hf => ?_)
  by_cases c0 : z36 = 0
  · replace hf := ite_t c0 hf
    refine v_tableIn (off := 43) 80 C dX10_does_37 (by rw [c0]; decide) (by rw [c0]; decide) (by rw [c0]; try rfl) (by decide) ?_
    refine v_aload_n 0 C dX10_does_80 rfl rfl ?_
    refine v_aload_n 0 C dX10_does_81 rfl rfl ?_
    refine v_iload_n 2 C dX10_does_82 rfl rfl ?_
    refine v_iload_n 3 C dX10_does_83 rfl rfl ?_
    refine v_iload 4 C dX10_does_84 rfl ?_
    refine Rc_whyNotSet C dX10_does_86 (by decide) (Nat.le_of_ble_eq_true rfl) hf (fun r86 hf => ?_)
    refine Rp_code C dX10_does_89 ?_
    refine v_aload_n 0 C dX10_does_92 rfl rfl ?_
    refine Rg_code C dX10_does_93 ?_
    refine v_if_ne 110 C dX10_does_96 (by decide) hf (fun c hf => ?_) (fun c hf => ?_)
    · refine v_aload_n 0 C dX10_does_99 rfl rfl ?_
      refine v_iload_n 2 C dX10_does_100 rfl rfl ?_
      refine v_iload_n 3 C dX10_does_101 rfl rfl ?_
      refine v_iload 4 C dX10_does_102 rfl ?_
      refine Rc_setsPart C dX10_does_104 (by decide) (Nat.le_of_ble_eq_true rfl) hf (fun m_104 r104 hf => ?_)
      refine v_goto 111 C dX10_does_107 (by decide) ?_
      refine v_lv [(0, .ref (a 0))] [0] rfl ?_
      exact Rb_does_111 C hret hf
    · refine v_iconst (v := 0) C dX10_does_110 (by decide) ?_
      refine v_lv [(0, .ref (a 0))] [0] rfl ?_
      exact Rb_does_111 C hret hf
  · replace hf := ite_f c0 hf
    by_cases c1 : z36 = 1
    · replace hf := ite_t c1 hf
      refine v_tableIn (off := 79) 116 C dX10_does_37 (by rw [c1]; decide) (by rw [c1]; decide) (by rw [c1]; try rfl) (by decide) ?_
      refine v_aload_n 0 C dX10_does_116 rfl rfl ?_
      refine v_aload_n 0 C dX10_does_117 rfl rfl ?_
      refine v_iload_n 2 C dX10_does_118 rfl rfl ?_
      refine v_iload_n 3 C dX10_does_119 rfl rfl ?_
      refine v_iload 4 C dX10_does_120 rfl ?_
      refine Rc_whyNotSplit C dX10_does_122 (by decide) (Nat.le_of_ble_eq_true rfl) hf (fun r122 hf => ?_)
      refine Rp_code C dX10_does_125 ?_
      refine v_aload_n 0 C dX10_does_128 rfl rfl ?_
      refine Rg_code C dX10_does_129 ?_
      refine v_if_ne 146 C dX10_does_132 (by decide) hf (fun c hf => ?_) (fun c hf => ?_)
      · refine v_aload_n 0 C dX10_does_135 rfl rfl ?_
        refine v_iload_n 2 C dX10_does_136 rfl rfl ?_
        refine v_iload_n 3 C dX10_does_137 rfl rfl ?_
        refine v_iload 4 C dX10_does_138 rfl ?_
        refine Rc_splitsPart C dX10_does_140 (by decide) (Nat.le_of_ble_eq_true rfl) hf (fun m_140 r140 hf => ?_)
        refine v_goto 147 C dX10_does_143 (by decide) ?_
        refine v_lv [(0, .ref (a 0))] [0] rfl ?_
        exact Rb_does_147 C hret hf
      · refine v_iconst (v := 0) C dX10_does_146 (by decide) ?_
        refine v_lv [(0, .ref (a 0))] [0] rfl ?_
        exact Rb_does_147 C hret hf
    · replace hf := ite_f c1 hf
      by_cases c2 : z36 = 2
      · replace hf := ite_t c2 hf
        refine v_tableIn (off := 115) 152 C dX10_does_37 (by rw [c2]; decide) (by rw [c2]; decide) (by rw [c2]; try rfl) (by decide) ?_
        refine v_aload_n 0 C dX10_does_152 rfl rfl ?_
        refine v_aload_n 0 C dX10_does_153 rfl rfl ?_
        refine v_iload_n 2 C dX10_does_154 rfl rfl ?_
        refine v_iload_n 3 C dX10_does_155 rfl rfl ?_
        refine Rc_whyNoPart C dX10_does_156 (by decide) (Nat.le_of_ble_eq_true rfl) hf (fun r156 hf => ?_)
        refine Rp_code C dX10_does_159 ?_
        refine v_aload_n 0 C dX10_does_162 rfl rfl ?_
        refine Rg_code C dX10_does_163 ?_
        refine v_if_ne 178 C dX10_does_166 (by decide) hf (fun c hf => ?_) (fun c hf => ?_)
        · refine v_aload_n 0 C dX10_does_169 rfl rfl ?_
          refine v_iload_n 2 C dX10_does_170 rfl rfl ?_
          refine v_iload_n 3 C dX10_does_171 rfl rfl ?_
          refine Rc_addsPart C dX10_does_172 (by decide) (Nat.le_of_ble_eq_true rfl) hf (fun m_172 r172 hf => ?_)
          refine v_goto 179 C dX10_does_175 (by decide) ?_
          refine v_lv [(0, .ref (a 0))] [0] rfl ?_
          exact Rb_does_179 C hret hf
        · refine v_iconst (v := 0) C dX10_does_178 (by decide) ?_
          refine v_lv [(0, .ref (a 0))] [0] rfl ?_
          exact Rb_does_179 C hret hf
      · replace hf := ite_f c2 hf
        by_cases c3 : z36 = 3
        · replace hf := ite_t c3 hf
          refine v_tableIn (off := 147) 184 C dX10_does_37 (by rw [c3]; decide) (by rw [c3]; decide) (by rw [c3]; try rfl) (by decide) ?_
          refine v_aload_n 0 C dX10_does_184 rfl rfl ?_
          refine v_aload_n 0 C dX10_does_185 rfl rfl ?_
          refine v_iload_n 2 C dX10_does_186 rfl rfl ?_
          refine v_iload_n 3 C dX10_does_187 rfl rfl ?_
          refine Rc_whyNoPulse C dX10_does_188 (by decide) (Nat.le_of_ble_eq_true rfl) hf (fun r188 hf => ?_)
          refine Rp_code C dX10_does_191 ?_
          refine v_aload_n 0 C dX10_does_194 rfl rfl ?_
          refine Rg_code C dX10_does_195 ?_
          refine v_if_ne 210 C dX10_does_198 (by decide) hf (fun c hf => ?_) (fun c hf => ?_)
          · refine v_aload_n 0 C dX10_does_201 rfl rfl ?_
            refine v_iload_n 2 C dX10_does_202 rfl rfl ?_
            refine v_iload_n 3 C dX10_does_203 rfl rfl ?_
            refine Rc_addsPulse C dX10_does_204 (by decide) (Nat.le_of_ble_eq_true rfl) hf (fun m_204 r204 hf => ?_)
            refine v_goto 211 C dX10_does_207 (by decide) ?_
            refine v_lv [(0, .ref (a 0))] [0] rfl ?_
            exact Rb_does_211 C hret hf
          · refine v_iconst (v := 0) C dX10_does_210 (by decide) ?_
            refine v_lv [(0, .ref (a 0))] [0] rfl ?_
            exact Rb_does_211 C hret hf
        · replace hf := ite_f c3 hf
          by_cases c4 : z36 = 4
          · replace hf := ite_t c4 hf
            refine v_tableIn (off := 179) 216 C dX10_does_37 (by rw [c4]; decide) (by rw [c4]; decide) (by rw [c4]; try rfl) (by decide) ?_
            refine v_aload_n 0 C dX10_does_216 rfl rfl ?_
            refine v_aload_n 0 C dX10_does_217 rfl rfl ?_
            refine v_iload_n 2 C dX10_does_218 rfl rfl ?_
            refine Rc_isPart C dX10_does_219 (by decide) (Nat.le_of_ble_eq_true rfl) hf (fun r219 hf => ?_)
            refine v_if_eq 229 C dX10_does_222 (by decide) hf (fun c hf => ?_) (fun c hf => ?_)
            · refine v_iconst (v := 1) C dX10_does_229 (by decide) ?_
              refine v_lv [(0, .ref (a 0)), (2, .int z7)] [0, 2] rfl ?_
              exact Rb_does_230 C hret hf
            · refine v_iconst (v := 0) C dX10_does_225 (by decide) ?_
              refine v_goto 230 C dX10_does_226 (by decide) ?_
              refine v_lv [(0, .ref (a 0)), (2, .int z7)] [0, 2] rfl ?_
              exact Rb_does_230 C hret hf
          · replace hf := ite_f c4 hf
            by_cases c5 : z36 = 5
            · replace hf := ite_t c5 hf
              refine v_tableIn (off := 217) 254 C dX10_does_37 (by rw [c5]; decide) (by rw [c5]; decide) (by rw [c5]; try rfl) (by decide) ?_
              refine v_aload_n 0 C dX10_does_254 rfl rfl ?_
              refine v_iconst (v := 0) C dX10_does_255 (by decide) ?_
              refine Rp_code C dX10_does_256 ?_
              refine v_aload_n 0 C dX10_does_259 rfl rfl ?_
              refine v_bipush (v := 29) C dX10_does_260 (by decide) ?_
              refine Rc_copies C dX10_does_262 (by decide) (Nat.le_of_ble_eq_true rfl) hf (fun m_262 lineParts_262 lengths_262 fractions_262 pulseMany_262 times_262 energies_262 far_262 near_262 echoes_262 left_262 dropped_262 merged_262 drops_262 contributions_262 packet_262 r262 hf => ?_)
              refine v_istore [(0, .ref (a 0)), (5, .int r262)] [1, 0] C dX10_does_265 (by decide) rfl ?_
              refine v_goto 298 C dX10_does_267 (by decide) ?_
              exact Rb_does_298 C hret hf
            · replace hf := ite_f c5 hf
              by_cases c6 : z36 = 6
              · replace hf := ite_t c6 hf
                refine v_tableIn (off := 233) 270 C dX10_does_37 (by rw [c6]; decide) (by rw [c6]; decide) (by rw [c6]; try rfl) (by decide) ?_
                refine v_aload_n 0 C dX10_does_270 rfl rfl ?_
                refine v_iconst (v := 0) C dX10_does_271 (by decide) ?_
                refine Rp_code C dX10_does_272 ?_
                refine v_aload_n 0 C dX10_does_275 rfl rfl ?_
                refine v_sipush (v := 230) C dX10_does_276 (by decide) ?_
                refine Rc_copies C dX10_does_279 (by decide) (Nat.le_of_ble_eq_true rfl) hf (fun m_279 lineParts_279 lengths_279 fractions_279 pulseMany_279 times_279 energies_279 far_279 near_279 echoes_279 left_279 dropped_279 merged_279 drops_279 contributions_279 packet_279 r279 hf => ?_)
                refine v_istore [(0, .ref (a 0)), (5, .int r279)] [1, 0] C dX10_does_282 (by decide) rfl ?_
                refine v_goto 298 C dX10_does_284 (by decide) ?_
                exact Rb_does_298 C hret hf
              · replace hf := ite_f c6 hf
                refine v_tableD 287 C dX10_does_37 (by decide) (fun h1 h2 => by
                    have e0 : z36.toInt ≠ 0 := fun q => c0 (Int32.toInt_inj.mp q)
                    have e1 : z36.toInt ≠ 1 := fun q => c1 (Int32.toInt_inj.mp q)
                    have e2 : z36.toInt ≠ 2 := fun q => c2 (Int32.toInt_inj.mp q)
                    have e3 : z36.toInt ≠ 3 := fun q => c3 (Int32.toInt_inj.mp q)
                    have e4 : z36.toInt ≠ 4 := fun q => c4 (Int32.toInt_inj.mp q)
                    have e5 : z36.toInt ≠ 5 := fun q => c5 (Int32.toInt_inj.mp q)
                    have e6 : z36.toInt ≠ 6 := fun q => c6 (Int32.toInt_inj.mp q)
                    exact absurd h1 (by omega)) ?_
                refine v_aload_n 0 C dX10_does_287 rfl rfl ?_
                refine v_iconst (v := 0) C dX10_does_288 (by decide) ?_
                refine Rp_code C dX10_does_289 ?_
                refine v_aload_n 0 C dX10_does_292 rfl rfl ?_
                refine Rc_adopts C dX10_does_293 (by decide) (Nat.le_of_ble_eq_true rfl) hf (fun m_293 lineParts_293 lengths_293 fractions_293 pulseMany_293 times_293 energies_293 far_293 near_293 echoes_293 left_293 dropped_293 merged_293 drops_293 contributions_293 packet_293 peelResult_293 peelTime_293 peelSum_293 r293 hf => ?_)
                refine v_istore [(0, .ref (a 0)), (5, .int r293)] [1, 0] C dX10_does_296 (by decide) rfl ?_
                exact Rb_does_298 C hret hf
set_option maxRecDepth 100000 in
set_option maxHeartbeats 4000000 in
theorem Rm_does {D : va_G} {x1 : Int32} {o_m : Nat → Int64} {o_code : Int32} {o_lineParts : Int32} {o_lengths : Nat → Int32} {o_fractions : Nat → Int32} {o_pulseMany : Int32} {o_times : Nat → Int32} {o_energies : Nat → Int64} {o_far : Nat → Int64} {o_near : Nat → Int64} {o_echoes : Nat → Int64} {o_left : Int64} {o_dropped : Int64} {o_merged : Int32} {o_drops : Int32} {o_contributions : Int32} {o_packet : Int64} {o_peelResult : Int32} {o_peelTime : Int32} {o_peelSum : Int32} {r : Int32} (hf : Rf_does c_m c_code c_lineParts c_lengths c_fractions c_pulseMany c_times c_energies c_far c_near c_echoes c_left c_dropped c_merged c_drops c_contributions c_packet c_peelResult c_peelTime c_peelSum c_draft x1 = some (o_m, o_code, o_lineParts, o_lengths, o_fractions, o_pulseMany, o_times, o_energies, o_far, o_near, o_echoes, o_left, o_dropped, o_merged, o_drops, o_contributions, o_packet, o_peelResult, o_peelTime, o_peelSum, r)) : MetM G yX10_does cX10_does 6 (some .boolean) { frames := 8, cells := 0, slots := 0, locals := 184 } D T [.ref (a 0), .int x1] (wR a T c_m c_saved c_savedCount c_script c_scriptLength c_code c_lineParts c_lengths c_fractions c_pulseMany c_times c_energies c_far c_near c_echoes c_left c_dropped c_merged c_drops c_contributions c_packet c_peelResult c_peelTime c_peelSum c_at c_commands c_draft c_hash) (some (.int r)) (wR a T o_m c_saved c_savedCount c_script c_scriptLength o_code o_lineParts o_lengths o_fractions o_pulseMany o_times o_energies o_far o_near o_echoes o_left o_dropped o_merged o_drops o_contributions o_packet o_peelResult o_peelTime o_peelSum c_at c_commands c_draft c_hash) :=
  MetM.of [(0, .ref (a 0)), (1, .int x1)] (by decide) (Nat.le_of_ble_eq_true rfl) rfl (fun X C hret => Rb_does C hret hf)
set_option maxRecDepth 100000 in
theorem Rc_does {x1 : Int32} {cc : ByteArray} {ret : Option FieldType} {nl fr lo pc : Nat} {lv : List (Nat × Value)} {rest : List Value} {β : Type} {K : ((Nat → Int64) × Int32 × Int32 × (Nat → Int32) × (Nat → Int32) × Int32 × (Nat → Int32) × (Nat → Int64) × (Nat → Int64) × (Nat → Int64) × (Nat → Int64) × Int64 × Int64 × Int32 × Int32 × Int32 × Int64 × Int32 × Int32 × Int32 × Int32) → Option β} {oo : β} (C : Cx X G T cc RX10 ret nl fr lo) (hdg : decode cc pc = .ok (.invokevirtual 319, 3)) (hroom : 8 + 1 ≤ fr ∧ 8 + (6 + 11) + 184 ≤ lo) (hst : (rest.map fun v => v.category).sum ≤ 8) (hf : bd (Rf_does c_m c_code c_lineParts c_lengths c_fractions c_pulseMany c_times c_energies c_far c_near c_echoes c_left c_dropped c_merged c_drops c_contributions c_packet c_peelResult c_peelTime c_peelSum c_draft x1) K = some oo) (kk : ∀ (o_m : Nat → Int64) (o_code : Int32) (o_lineParts : Int32) (o_lengths : Nat → Int32) (o_fractions : Nat → Int32) (o_pulseMany : Int32) (o_times : Nat → Int32) (o_energies : Nat → Int64) (o_far : Nat → Int64) (o_near : Nat → Int64) (o_echoes : Nat → Int64) (o_left : Int64) (o_dropped : Int64) (o_merged : Int32) (o_drops : Int32) (o_contributions : Int32) (o_packet : Int64) (o_peelResult : Int32) (o_peelTime : Int32) (o_peelSum : Int32) (r : Int32), K (o_m, o_code, o_lineParts, o_lengths, o_fractions, o_pulseMany, o_times, o_energies, o_far, o_near, o_echoes, o_left, o_dropped, o_merged, o_drops, o_contributions, o_packet, o_peelResult, o_peelTime, o_peelSum, r) = some oo → V X 0 0 (wR a T o_m c_saved c_savedCount c_script c_scriptLength o_code o_lineParts o_lengths o_fractions o_pulseMany o_times o_energies o_far o_near o_echoes o_left o_dropped o_merged o_drops o_contributions o_packet o_peelResult o_peelTime o_peelSum c_at c_commands c_draft c_hash) lv (pc + 3) (.int r :: rest)) : V X 0 0 (wR a T c_m c_saved c_savedCount c_script c_scriptLength c_code c_lineParts c_lengths c_fractions c_pulseMany c_times c_energies c_far c_near c_echoes c_left c_dropped c_merged c_drops c_contributions c_packet c_peelResult c_peelTime c_peelSum c_at c_commands c_draft c_hash) lv pc (.int x1 :: .ref (a 0) :: rest) := by
  obtain ⟨⟨o_m, o_code, o_lineParts, o_lengths, o_fractions, o_pulseMany, o_times, o_energies, o_far, o_near, o_echoes, o_left, o_dropped, o_merged, o_drops, o_contributions, o_packet, o_peelResult, o_peelTime, o_peelSum, r⟩, hc, hk⟩ := bd_some hf
  exact v_callV (As := [.int x1]) (rest := rest) (q0 := 0) 1 C (CapOK.z X) (fun D => Rm_does hc) (goodV wmethodLink_RX10_319_yX10_does winstanceMethod_yX10_does wselects_RX10_yX10_does_yX10_does winitialized_RX10 wcode_yX10_does_cX10_does_6_some_boolean) (by decide +kernel) hroom ⟨rfl, rfl⟩ rfl rfl rfl hst hdg (kk o_m o_code o_lineParts o_lengths o_fractions o_pulseMany o_times o_energies o_far o_near o_echoes o_left o_dropped o_merged o_drops o_contributions o_packet o_peelResult o_peelTime o_peelSum r hk)
end RM5
