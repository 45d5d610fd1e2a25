section CM0
variable {X : CxT} {G : SG} {T : Nat → ClassId} {E : Nat → Nat → Nat} {a : Nat → Nat} {w : va_W} {c_waveIsFresh : Int32} {c_peelingIsFresh : Int32} {c_n_count : Int32} {c_n_front : Int32} {c_n_least : Int32} {c_n_window : Int32} {c_n_pulses : Int32} {c_n_lengths : Nat → Int32} {c_n_fractions : Nat → Int32} {c_n_pulseTimes : Nat → Int32} {c_n_pulseEnergies : Nat → Int32} {c_n_sound : Nat → Int64} {c_n_seen : Nat → Int64} {c_hcount : Int32} {c_hp : Nat → Nat} {c_h0_count : Int32} {c_h0_front : Int32} {c_h0_least : Int32} {c_h0_window : Int32} {c_h0_pulses : Int32} {c_h0_lengths : Nat → Int32} {c_h0_fractions : Nat → Int32} {c_h0_pulseTimes : Nat → Int32} {c_h0_pulseEnergies : Nat → Int32} {c_h0_sound : Nat → Int64} {c_h0_seen : Nat → Int64} {c_h1_count : Int32} {c_h1_front : Int32} {c_h1_least : Int32} {c_h1_window : Int32} {c_h1_pulses : Int32} {c_h1_lengths : Nat → Int32} {c_h1_fractions : Nat → Int32} {c_h1_pulseTimes : Nat → Int32} {c_h1_pulseEnergies : Nat → Int32} {c_h1_sound : Nat → Int64} {c_h1_seen : Nat → Int64} {c_h2_count : Int32} {c_h2_front : Int32} {c_h2_least : Int32} {c_h2_window : Int32} {c_h2_pulses : Int32} {c_h2_lengths : Nat → Int32} {c_h2_fractions : Nat → Int32} {c_h2_pulseTimes : Nat → Int32} {c_h2_pulseEnergies : Nat → Int32} {c_h2_sound : Nat → Int64} {c_h2_seen : Nat → Int64} {c_s_length : Int32} {c_s_command : Nat} {c_s_position : Int32} {c_s_fault : Int32} {c_s_bytes : Nat → Int32} {c_s_numbers : Nat → Int32} {c_w_near : Nat → Nat → Int64} {c_w_far : Nat → Nat → Int64} {c_w_echoes : Nat → Int64} {c_w_totals : Nat → Int64} {c_p_result : Int32} {c_p_endTime : Int32} {c_q_count : Int32} {c_q_front : Int32} {c_q_least : Int32} {c_q_window : Int32} {c_q_pulses : Int32} {c_q_lengths : Nat → Int32} {c_q_fractions : Nat → Int32} {c_q_pulseTimes : Nat → Int32} {c_q_pulseEnergies : Nat → Int32} {c_t_near : Nat → Nat → Int64} {c_t_far : Nat → Nat → Int64} {c_t_echoes : Nat → Int64} {c_t_totals : Nat → Int64}
def Cf_B_append_n_39 (c_n_count : Int32) (c_n_lengths : Nat → Int32) (c_n_fractions : Nat → Int32) : Option (Int32 × (Nat → Int32) × (Nat → Int32) × Int32) :=
  some (c_n_count, c_n_lengths, c_n_fractions, c_n_count)
set_option maxRecDepth 100000 in
set_option maxHeartbeats 4000000 in
theorem Cb_B_append_n_39 (C : Cx X (SFG E) T cX1_append RX1 (some .int) 3 0 0)  {o_n_count : Int32} {o_n_lengths : Nat → Int32} {o_n_fractions : Nat → Int32} {r : Int32} (hret : RetOK X 0 0 (some (.int r)) (wL E a T c_waveIsFresh c_peelingIsFresh o_n_count c_n_front c_n_least c_n_window c_n_pulses o_n_lengths o_n_fractions c_n_pulseTimes c_n_pulseEnergies c_n_sound c_n_seen c_hcount c_hp c_h0_count c_h0_front c_h0_least c_h0_window c_h0_pulses c_h0_lengths c_h0_fractions c_h0_pulseTimes c_h0_pulseEnergies c_h0_sound c_h0_seen c_h1_count c_h1_front c_h1_least c_h1_window c_h1_pulses c_h1_lengths c_h1_fractions c_h1_pulseTimes c_h1_pulseEnergies c_h1_sound c_h1_seen c_h2_count c_h2_front c_h2_least c_h2_window c_h2_pulses c_h2_lengths c_h2_fractions c_h2_pulseTimes c_h2_pulseEnergies c_h2_sound c_h2_seen c_s_length c_s_command c_s_position c_s_fault c_s_bytes c_s_numbers c_w_near c_w_far c_w_echoes c_w_totals c_p_result c_p_endTime c_q_count c_q_front c_q_least c_q_window c_q_pulses c_q_lengths c_q_fractions c_q_pulseTimes c_q_pulseEnergies c_t_near c_t_far c_t_echoes c_t_totals)) (hf : Cf_B_append_n_39 c_n_count c_n_lengths c_n_fractions = some (o_n_count, o_n_lengths, o_n_fractions, r)) : V X 0 0 (wL E a T c_waveIsFresh c_peelingIsFresh c_n_count c_n_front c_n_least c_n_window c_n_pulses c_n_lengths c_n_fractions c_n_pulseTimes c_n_pulseEnergies c_n_sound c_n_seen c_hcount c_hp c_h0_count c_h0_front c_h0_least c_h0_window c_h0_pulses c_h0_lengths c_h0_fractions c_h0_pulseTimes c_h0_pulseEnergies c_h0_sound c_h0_seen c_h1_count c_h1_front c_h1_least c_h1_window c_h1_pulses c_h1_lengths c_h1_fractions c_h1_pulseTimes c_h1_pulseEnergies c_h1_sound c_h1_seen c_h2_count c_h2_front c_h2_least c_h2_window c_h2_pulses c_h2_lengths c_h2_fractions c_h2_pulseTimes c_h2_pulseEnergies c_h2_sound c_h2_seen c_s_length c_s_command c_s_position c_s_fault c_s_bytes c_s_numbers c_w_near c_w_far c_w_echoes c_w_totals c_p_result c_p_endTime c_q_count c_q_front c_q_least c_q_window c_q_pulses c_q_lengths c_q_fractions c_q_pulseTimes c_q_pulseEnergies c_t_near c_t_far c_t_echoes c_t_totals) [(0, .ref (a 2))] 39 [] := by
  unfold Cf_B_append_n_39 at hf
  refine v_aload_n 0 C dX1_append_39 rfl rfl ?_
  refine Cg_2_count wfieldLink_RX1_9_LineEchoes_Bench_count_I C dX1_append_40 ?_
  cases hf
  exact v_iret C hret dX1_append_43
def Cf_B_append_n (c_n_count : Int32) (c_n_lengths : Nat → Int32) (c_n_fractions : Nat → Int32) (x1 : Int32) (x2 : Int32) : Option (Int32 × (Nat → Int32) × (Nat → Int32) × Int32) :=
  if (8 : Int32) ≤ c_n_count then
    Cf_B_append_n_39 c_n_count c_n_lengths c_n_fractions
  else
    chk (inb c_n_count 8) <| nm (upd c_n_lengths c_n_count.toNatClampNeg x1) fun n_lengths_18 =>
    chk (inb c_n_count 8) <| nm (upd c_n_fractions c_n_count.toNatClampNeg x2) fun n_fractions_28 =>
    nm (c_n_count + (1 : Int32)) fun z35 =>
    Cf_B_append_n_39 z35 n_lengths_18 n_fractions_28
set_option maxRecDepth 100000 in
set_option maxHeartbeats 4000000 in
theorem Cb_B_append_n (C : Cx X (SFG E) T cX1_append RX1 (some .int) 3 0 0) {x1 : Int32} {x2 : Int32} {o_n_count : Int32} {o_n_lengths : Nat → Int32} {o_n_fractions : Nat → Int32} {r : Int32} (hret : RetOK X 0 0 (some (.int r)) (wL E a T c_waveIsFresh c_peelingIsFresh o_n_count c_n_front c_n_least c_n_window c_n_pulses o_n_lengths o_n_fractions c_n_pulseTimes c_n_pulseEnergies c_n_sound c_n_seen c_hcount c_hp c_h0_count c_h0_front c_h0_least c_h0_window c_h0_pulses c_h0_lengths c_h0_fractions c_h0_pulseTimes c_h0_pulseEnergies c_h0_sound c_h0_seen c_h1_count c_h1_front c_h1_least c_h1_window c_h1_pulses c_h1_lengths c_h1_fractions c_h1_pulseTimes c_h1_pulseEnergies c_h1_sound c_h1_seen c_h2_count c_h2_front c_h2_least c_h2_window c_h2_pulses c_h2_lengths c_h2_fractions c_h2_pulseTimes c_h2_pulseEnergies c_h2_sound c_h2_seen c_s_length c_s_command c_s_position c_s_fault c_s_bytes c_s_numbers c_w_near c_w_far c_w_echoes c_w_totals c_p_result c_p_endTime c_q_count c_q_front c_q_least c_q_window c_q_pulses c_q_lengths c_q_fractions c_q_pulseTimes c_q_pulseEnergies c_t_near c_t_far c_t_echoes c_t_totals)) (hf : Cf_B_append_n c_n_count c_n_lengths c_n_fractions x1 x2 = some (o_n_count, o_n_lengths, o_n_fractions, r)) : V X 0 0 (wL E a T c_waveIsFresh c_peelingIsFresh c_n_count c_n_front c_n_least c_n_window c_n_pulses c_n_lengths c_n_fractions c_n_pulseTimes c_n_pulseEnergies c_n_sound c_n_seen c_hcount c_hp c_h0_count c_h0_front c_h0_least c_h0_window c_h0_pulses c_h0_lengths c_h0_fractions c_h0_pulseTimes c_h0_pulseEnergies c_h0_sound c_h0_seen c_h1_count c_h1_front c_h1_least c_h1_window c_h1_pulses c_h1_lengths c_h1_fractions c_h1_pulseTimes c_h1_pulseEnergies c_h1_sound c_h1_seen c_h2_count c_h2_front c_h2_least c_h2_window c_h2_pulses c_h2_lengths c_h2_fractions c_h2_pulseTimes c_h2_pulseEnergies c_h2_sound c_h2_seen c_s_length c_s_command c_s_position c_s_fault c_s_bytes c_s_numbers c_w_near c_w_far c_w_echoes c_w_totals c_p_result c_p_endTime c_q_count c_q_front c_q_least c_q_window c_q_pulses c_q_lengths c_q_fractions c_q_pulseTimes c_q_pulseEnergies c_t_near c_t_far c_t_echoes c_t_totals) [(0, .ref (a 2)), (1, .int x1), (2, .int x2)] 0 [] := by
  unfold Cf_B_append_n at hf
  refine v_aload_n 0 C dX1_append_0 rfl rfl ?_
  refine Cg_2_count wfieldLink_RX1_9_LineEchoes_Bench_count_I C dX1_append_1 ?_
  refine v_bipush (v := 8) C dX1_append_4 (by decide) ?_
  refine v_icmp_ge 39 C dX1_append_6 (by decide) hf (fun c hf => ?_) (fun c hf => ?_)
  · refine v_lv [(0, .ref (a 2))] [0] rfl ?_
    exact Cb_B_append_n_39 C hret hf
  · refine v_aload_n 0 C dX1_append_9 rfl rfl ?_
    refine Cg_2_lengths wfieldLink_RX1_15_LineEchoes_Bench_lengths_I C dX1_append_10 ?_
    refine v_aload_n 0 C dX1_append_13 rfl rfl ?_
    refine Cg_2_count wfieldLink_RX1_9_LineEchoes_Bench_count_I C dX1_append_14 ?_
    refine v_iload_n 1 C dX1_append_17 rfl rfl ?_
    refine Cas_3 C dX1_append_18 hf (fun n_lengths_18 hf => ?_)
    refine v_aload_n 0 C dX1_append_19 rfl rfl ?_
    refine Cg_2_fractions wfieldLink_RX1_19_LineEchoes_Bench_fractions_I C dX1_append_20 ?_
    refine v_aload_n 0 C dX1_append_23 rfl rfl ?_
    refine Cg_2_count wfieldLink_RX1_9_LineEchoes_Bench_count_I C dX1_append_24 ?_
    refine v_iload_n 2 C dX1_append_27 rfl rfl ?_
    refine Cas_4 C dX1_append_28 hf (fun n_fractions_28 hf => ?_)
    refine v_aload_n 0 C dX1_append_29 rfl rfl ?_
    refine v_dup C dX1_append_30 rfl ?_
    refine Cg_2_count wfieldLink_RX1_9_LineEchoes_Bench_count_I C dX1_append_31 ?_
    refine v_iconst (v := 1) C dX1_append_34 (by decide) ?_
    refine v_iadd C dX1_append_35 hf (fun z35 hf => ?_)
    refine Cp_2_count wfieldLink_RX1_9_LineEchoes_Bench_count_I C dX1_append_36 ?_
    refine v_lv [(0, .ref (a 2))] [0] rfl ?_
    exact Cb_B_append_n_39 C hret hf
set_option maxRecDepth 100000 in
set_option maxHeartbeats 4000000 in
theorem Cm_B_append_n {D : va_G} {x1 : Int32} {x2 : Int32} {o_n_count : Int32} {o_n_lengths : Nat → Int32} {o_n_fractions : Nat → Int32} {r : Int32} (hf : Cf_B_append_n c_n_count c_n_lengths c_n_fractions x1 x2 = some (o_n_count, o_n_lengths, o_n_fractions, r)) : MetM (SFG E) yX1_append cX1_append 3 (some .int) { frames := 0, cells := 0, slots := 0, locals := 0 } D T [.ref (a 2), .int x1, .int x2] (wL E a T c_waveIsFresh c_peelingIsFresh c_n_count c_n_front c_n_least c_n_window c_n_pulses c_n_lengths c_n_fractions c_n_pulseTimes c_n_pulseEnergies c_n_sound c_n_seen c_hcount c_hp c_h0_count c_h0_front c_h0_least c_h0_window c_h0_pulses c_h0_lengths c_h0_fractions c_h0_pulseTimes c_h0_pulseEnergies c_h0_sound c_h0_seen c_h1_count c_h1_front c_h1_least c_h1_window c_h1_pulses c_h1_lengths c_h1_fractions c_h1_pulseTimes c_h1_pulseEnergies c_h1_sound c_h1_seen c_h2_count c_h2_front c_h2_least c_h2_window c_h2_pulses c_h2_lengths c_h2_fractions c_h2_pulseTimes c_h2_pulseEnergies c_h2_sound c_h2_seen c_s_length c_s_command c_s_position c_s_fault c_s_bytes c_s_numbers c_w_near c_w_far c_w_echoes c_w_totals c_p_result c_p_endTime c_q_count c_q_front c_q_least c_q_window c_q_pulses c_q_lengths c_q_fractions c_q_pulseTimes c_q_pulseEnergies c_t_near c_t_far c_t_echoes c_t_totals) (some (.int r)) (wL E a T c_waveIsFresh c_peelingIsFresh o_n_count c_n_front c_n_least c_n_window c_n_pulses o_n_lengths o_n_fractions c_n_pulseTimes c_n_pulseEnergies c_n_sound c_n_seen c_hcount c_hp c_h0_count c_h0_front c_h0_least c_h0_window c_h0_pulses c_h0_lengths c_h0_fractions c_h0_pulseTimes c_h0_pulseEnergies c_h0_sound c_h0_seen c_h1_count c_h1_front c_h1_least c_h1_window c_h1_pulses c_h1_lengths c_h1_fractions c_h1_pulseTimes c_h1_pulseEnergies c_h1_sound c_h1_seen c_h2_count c_h2_front c_h2_least c_h2_window c_h2_pulses c_h2_lengths c_h2_fractions c_h2_pulseTimes c_h2_pulseEnergies c_h2_sound c_h2_seen c_s_length c_s_command c_s_position c_s_fault c_s_bytes c_s_numbers c_w_near c_w_far c_w_echoes c_w_totals c_p_result c_p_endTime c_q_count c_q_front c_q_least c_q_window c_q_pulses c_q_lengths c_q_fractions c_q_pulseTimes c_q_pulseEnergies c_t_near c_t_far c_t_echoes c_t_totals) :=
  MetM.of [(0, .ref (a 2)), (1, .int x1), (2, .int x2)] (by decide) (Nat.le_of_ble_eq_true rfl) rfl (fun X C hret => Cb_B_append_n C hret hf)
def Cf_B_replace_n (c_n_lengths : Nat → Int32) (c_n_fractions : Nat → Int32) (x1 : Int32) (x2 : Int32) (x3 : Int32) : Option ((Nat → Int32) × (Nat → Int32) × Int32) :=
  chk (inb x1 8) <| nm (c_n_fractions x1.toNatClampNeg) fun z5 =>
  chk (inb x1 8) <| nm (upd c_n_lengths x1.toNatClampNeg x2) fun n_lengths_14 =>
  chk (inb x1 8) <| nm (upd c_n_fractions x1.toNatClampNeg x3) fun n_fractions_21 =>
  some (n_lengths_14, n_fractions_21, z5)
set_option maxRecDepth 100000 in
set_option maxHeartbeats 4000000 in
theorem Cb_B_replace_n (C : Cx X (SFG E) T cX1_replace RX1 (some .int) 5 0 0) {x1 : Int32} {x2 : Int32} {x3 : Int32} {o_n_lengths : Nat → Int32} {o_n_fractions : Nat → Int32} {r : Int32} (hret : RetOK X 0 0 (some (.int r)) (wL E a T c_waveIsFresh c_peelingIsFresh c_n_count c_n_front c_n_least c_n_window c_n_pulses o_n_lengths o_n_fractions c_n_pulseTimes c_n_pulseEnergies c_n_sound c_n_seen c_hcount c_hp c_h0_count c_h0_front c_h0_least c_h0_window c_h0_pulses c_h0_lengths c_h0_fractions c_h0_pulseTimes c_h0_pulseEnergies c_h0_sound c_h0_seen c_h1_count c_h1_front c_h1_least c_h1_window c_h1_pulses c_h1_lengths c_h1_fractions c_h1_pulseTimes c_h1_pulseEnergies c_h1_sound c_h1_seen c_h2_count c_h2_front c_h2_least c_h2_window c_h2_pulses c_h2_lengths c_h2_fractions c_h2_pulseTimes c_h2_pulseEnergies c_h2_sound c_h2_seen c_s_length c_s_command c_s_position c_s_fault c_s_bytes c_s_numbers c_w_near c_w_far c_w_echoes c_w_totals c_p_result c_p_endTime c_q_count c_q_front c_q_least c_q_window c_q_pulses c_q_lengths c_q_fractions c_q_pulseTimes c_q_pulseEnergies c_t_near c_t_far c_t_echoes c_t_totals)) (hf : Cf_B_replace_n c_n_lengths c_n_fractions x1 x2 x3 = some (o_n_lengths, o_n_fractions, r)) : V X 0 0 (wL E a T c_waveIsFresh c_peelingIsFresh c_n_count c_n_front c_n_least c_n_window c_n_pulses c_n_lengths c_n_fractions c_n_pulseTimes c_n_pulseEnergies c_n_sound c_n_seen c_hcount c_hp c_h0_count c_h0_front c_h0_least c_h0_window c_h0_pulses c_h0_lengths c_h0_fractions c_h0_pulseTimes c_h0_pulseEnergies c_h0_sound c_h0_seen c_h1_count c_h1_front c_h1_least c_h1_window c_h1_pulses c_h1_lengths c_h1_fractions c_h1_pulseTimes c_h1_pulseEnergies c_h1_sound c_h1_seen c_h2_count c_h2_front c_h2_least c_h2_window c_h2_pulses c_h2_lengths c_h2_fractions c_h2_pulseTimes c_h2_pulseEnergies c_h2_sound c_h2_seen c_s_length c_s_command c_s_position c_s_fault c_s_bytes c_s_numbers c_w_near c_w_far c_w_echoes c_w_totals c_p_result c_p_endTime c_q_count c_q_front c_q_least c_q_window c_q_pulses c_q_lengths c_q_fractions c_q_pulseTimes c_q_pulseEnergies c_t_near c_t_far c_t_echoes c_t_totals) [(0, .ref (a 2)), (1, .int x1), (2, .int x2), (3, .int x3)] 0 [] := by
  unfold Cf_B_replace_n at hf
  refine v_aload_n 0 C dX1_replace_0 rfl rfl ?_
  refine Cg_2_fractions wfieldLink_RX1_19_LineEchoes_Bench_fractions_I C dX1_replace_1 ?_
  refine v_iload_n 1 C dX1_replace_4 rfl rfl ?_
  refine Cal_4 C dX1_replace_5 hf (fun z5 hf => ?_)
  refine v_istore [(0, .ref (a 2)), (1, .int x1), (2, .int x2), (3, .int x3), (4, .int z5)] [1, 2, 3, 4, 0] C dX1_replace_6 (by decide) rfl ?_
  refine v_aload_n 0 C dX1_replace_8 rfl rfl ?_
  refine Cg_2_lengths wfieldLink_RX1_15_LineEchoes_Bench_lengths_I C dX1_replace_9 ?_
  refine v_iload_n 1 C dX1_replace_12 rfl rfl ?_
  refine v_iload_n 2 C dX1_replace_13 rfl rfl ?_
  refine Cas_3 C dX1_replace_14 hf (fun n_lengths_14 hf => ?_)
  refine v_aload_n 0 C dX1_replace_15 rfl rfl ?_
  refine Cg_2_fractions wfieldLink_RX1_19_LineEchoes_Bench_fractions_I C dX1_replace_16 ?_
  refine v_iload_n 1 C dX1_replace_19 rfl rfl ?_
  refine v_iload_n 3 C dX1_replace_20 rfl rfl ?_
  refine Cas_4 C dX1_replace_21 hf (fun n_fractions_21 hf => ?_)
  refine v_iload 4 C dX1_replace_22 rfl ?_
  cases hf
  exact v_iret C hret dX1_replace_24
set_option maxRecDepth 100000 in
set_option maxHeartbeats 4000000 in
theorem Cm_B_replace_n {D : va_G} {x1 : Int32} {x2 : Int32} {x3 : Int32} {o_n_lengths : Nat → Int32} {o_n_fractions : Nat → Int32} {r : Int32} (hf : Cf_B_replace_n c_n_lengths c_n_fractions x1 x2 x3 = some (o_n_lengths, o_n_fractions, r)) : MetM (SFG E) yX1_replace cX1_replace 5 (some .int) { frames := 0, cells := 0, slots := 0, locals := 0 } D T [.ref (a 2), .int x1, .int x2, .int x3] (wL E a T c_waveIsFresh c_peelingIsFresh c_n_count c_n_front c_n_least c_n_window c_n_pulses c_n_lengths c_n_fractions c_n_pulseTimes c_n_pulseEnergies c_n_sound c_n_seen c_hcount c_hp c_h0_count c_h0_front c_h0_least c_h0_window c_h0_pulses c_h0_lengths c_h0_fractions c_h0_pulseTimes c_h0_pulseEnergies c_h0_sound c_h0_seen c_h1_count c_h1_front c_h1_least c_h1_window c_h1_pulses c_h1_lengths c_h1_fractions c_h1_pulseTimes c_h1_pulseEnergies c_h1_sound c_h1_seen c_h2_count c_h2_front c_h2_least c_h2_window c_h2_pulses c_h2_lengths c_h2_fractions c_h2_pulseTimes c_h2_pulseEnergies c_h2_sound c_h2_seen c_s_length c_s_command c_s_position c_s_fault c_s_bytes c_s_numbers c_w_near c_w_far c_w_echoes c_w_totals c_p_result c_p_endTime c_q_count c_q_front c_q_least c_q_window c_q_pulses c_q_lengths c_q_fractions c_q_pulseTimes c_q_pulseEnergies c_t_near c_t_far c_t_echoes c_t_totals) (some (.int r)) (wL E a T c_waveIsFresh c_peelingIsFresh c_n_count c_n_front c_n_least c_n_window c_n_pulses o_n_lengths o_n_fractions c_n_pulseTimes c_n_pulseEnergies c_n_sound c_n_seen c_hcount c_hp c_h0_count c_h0_front c_h0_least c_h0_window c_h0_pulses c_h0_lengths c_h0_fractions c_h0_pulseTimes c_h0_pulseEnergies c_h0_sound c_h0_seen c_h1_count c_h1_front c_h1_least c_h1_window c_h1_pulses c_h1_lengths c_h1_fractions c_h1_pulseTimes c_h1_pulseEnergies c_h1_sound c_h1_seen c_h2_count c_h2_front c_h2_least c_h2_window c_h2_pulses c_h2_lengths c_h2_fractions c_h2_pulseTimes c_h2_pulseEnergies c_h2_sound c_h2_seen c_s_length c_s_command c_s_position c_s_fault c_s_bytes c_s_numbers c_w_near c_w_far c_w_echoes c_w_totals c_p_result c_p_endTime c_q_count c_q_front c_q_least c_q_window c_q_pulses c_q_lengths c_q_fractions c_q_pulseTimes c_q_pulseEnergies c_t_near c_t_far c_t_echoes c_t_totals) :=
  MetM.of [(0, .ref (a 2)), (1, .int x1), (2, .int x2), (3, .int x3)] (by decide) (Nat.le_of_ble_eq_true rfl) rfl (fun X C hret => Cb_B_replace_n C hret hf)
def Cl_B_cut_n_2 (c_n_count : Int32) : Nat → (Nat → Int32) → (Nat → Int32) → Int32 → Option ((Nat → Int32) × (Nat → Int32))
  | 0, _, _, _ => none
  | n + 1, c_n_lengths, c_n_fractions, x2 =>
    nm (c_n_count - (1 : Int32)) fun z8 =>
    if z8 ≤ x2 then
      some (c_n_lengths, c_n_fractions)
    else
      nm (x2 + (1 : Int32)) fun z23 =>
      chk (inb z23 8) <| nm (c_n_lengths z23.toNatClampNeg) fun z24 =>
      chk (inb x2 8) <| nm (upd c_n_lengths x2.toNatClampNeg z24) fun n_lengths_25 =>
      nm (x2 + (1 : Int32)) fun z37 =>
      chk (inb z37 8) <| nm (c_n_fractions z37.toNatClampNeg) fun z38 =>
      chk (inb x2 8) <| nm (upd c_n_fractions x2.toNatClampNeg z38) fun n_fractions_39 =>
      nm (x2 + (1 : Int32)) fun x2_40 =>
      Cl_B_cut_n_2 c_n_count n n_lengths_25 n_fractions_39 x2_40
set_option maxRecDepth 100000 in
set_option maxHeartbeats 4000000 in
theorem Ck_B_cut_n_2 (C : Cx X (SFG E) T cX1_cut RX1 (some .int) 3 0 0)  {o_n_lengths : Nat → Int32} {o_n_fractions : Nat → Int32} (hk : V X 0 0 (wL E a T c_waveIsFresh c_peelingIsFresh c_n_count c_n_front c_n_least c_n_window c_n_pulses o_n_lengths o_n_fractions c_n_pulseTimes c_n_pulseEnergies c_n_sound c_n_seen c_hcount c_hp c_h0_count c_h0_front c_h0_least c_h0_window c_h0_pulses c_h0_lengths c_h0_fractions c_h0_pulseTimes c_h0_pulseEnergies c_h0_sound c_h0_seen c_h1_count c_h1_front c_h1_least c_h1_window c_h1_pulses c_h1_lengths c_h1_fractions c_h1_pulseTimes c_h1_pulseEnergies c_h1_sound c_h1_seen c_h2_count c_h2_front c_h2_least c_h2_window c_h2_pulses c_h2_lengths c_h2_fractions c_h2_pulseTimes c_h2_pulseEnergies c_h2_sound c_h2_seen c_s_length c_s_command c_s_position c_s_fault c_s_bytes c_s_numbers c_w_near c_w_far c_w_echoes c_w_totals c_p_result c_p_endTime c_q_count c_q_front c_q_least c_q_window c_q_pulses c_q_lengths c_q_fractions c_q_pulseTimes c_q_pulseEnergies c_t_near c_t_far c_t_echoes c_t_totals) [(0, .ref (a 2))] 46 []) : ∀ (n : Nat) (c_n_lengths : Nat → Int32) (c_n_fractions : Nat → Int32) (x2 : Int32), Cl_B_cut_n_2 c_n_count n c_n_lengths c_n_fractions x2 = some (o_n_lengths, o_n_fractions) → V X 0 0 (wL E a T c_waveIsFresh c_peelingIsFresh c_n_count c_n_front c_n_least c_n_window c_n_pulses c_n_lengths c_n_fractions c_n_pulseTimes c_n_pulseEnergies c_n_sound c_n_seen c_hcount c_hp c_h0_count c_h0_front c_h0_least c_h0_window c_h0_pulses c_h0_lengths c_h0_fractions c_h0_pulseTimes c_h0_pulseEnergies c_h0_sound c_h0_seen c_h1_count c_h1_front c_h1_least c_h1_window c_h1_pulses c_h1_lengths c_h1_fractions c_h1_pulseTimes c_h1_pulseEnergies c_h1_sound c_h1_seen c_h2_count c_h2_front c_h2_least c_h2_window c_h2_pulses c_h2_lengths c_h2_fractions c_h2_pulseTimes c_h2_pulseEnergies c_h2_sound c_h2_seen c_s_length c_s_command c_s_position c_s_fault c_s_bytes c_s_numbers c_w_near c_w_far c_w_echoes c_w_totals c_p_result c_p_endTime c_q_count c_q_front c_q_least c_q_window c_q_pulses c_q_lengths c_q_fractions c_q_pulseTimes c_q_pulseEnergies c_t_near c_t_far c_t_echoes c_t_totals) [(0, .ref (a 2)), (2, .int x2)] 2 [] := by
  intro n
  induction n with
  | zero =>
    intro _ _ _ hf
    cases hf
  | succ n hrec =>
    intro c_n_lengths c_n_fractions x2 hf
    rw [Cl_B_cut_n_2] at hf
    refine v_iload_n 1 C dX1_cut_2 rfl rfl ?_
    refine v_aload_n 0 C dX1_cut_3 rfl rfl ?_
    refine Cg_2_count wfieldLink_RX1_9_LineEchoes_Bench_count_I C dX1_cut_4 ?_
    refine v_iconst (v := 1) C dX1_cut_7 (by decide) ?_
    refine v_isub C dX1_cut_8 hf (fun z8 hf => ?_)
    refine v_icmp_ge 46 C dX1_cut_9 (by decide) hf (fun c hf => ?_) (fun c hf => ?_)
    · refine v_lv [(0, .ref (a 2))] [0] rfl ?_
      cases hf
      exact hk
    · refine v_aload_n 0 C dX1_cut_12 rfl rfl ?_
      refine Cg_2_lengths wfieldLink_RX1_15_LineEchoes_Bench_lengths_I C dX1_cut_13 ?_
      refine v_iload_n 1 C dX1_cut_16 rfl rfl ?_
      refine v_aload_n 0 C dX1_cut_17 rfl rfl ?_
      refine Cg_2_lengths wfieldLink_RX1_15_LineEchoes_Bench_lengths_I C dX1_cut_18 ?_
      refine v_iload_n 1 C dX1_cut_21 rfl rfl ?_
      refine v_iconst (v := 1) C dX1_cut_22 (by decide) ?_
      refine v_iadd C dX1_cut_23 hf (fun z23 hf => ?_)
      refine Cal_3 C dX1_cut_24 hf (fun z24 hf => ?_)
      refine Cas_3 C dX1_cut_25 hf (fun n_lengths_25 hf => ?_)
      refine v_aload_n 0 C dX1_cut_26 rfl rfl ?_
      refine Cg_2_fractions wfieldLink_RX1_19_LineEchoes_Bench_fractions_I C dX1_cut_27 ?_
      refine v_iload_n 1 C dX1_cut_30 rfl rfl ?_
      refine v_aload_n 0 C dX1_cut_31 rfl rfl ?_
      refine Cg_2_fractions wfieldLink_RX1_19_LineEchoes_Bench_fractions_I C dX1_cut_32 ?_
      refine v_iload_n 1 C dX1_cut_35 rfl rfl ?_
      refine v_iconst (v := 1) C dX1_cut_36 (by decide) ?_
      refine v_iadd C dX1_cut_37 hf (fun z37 hf => ?_)
      refine Cal_4 C dX1_cut_38 hf (fun z38 hf => ?_)
      refine Cas_4 C dX1_cut_39 hf (fun n_fractions_39 hf => ?_)
      refine v_iinc (fun x2_40 => [(0, .ref (a 2)), (2, .int x2_40)]) [1, 0] C dX1_cut_40 (j := 1) rfl (dv := 1) (by decide) (by decide) (fun _ => rfl) hf (fun x2_40 hf => ?_)
      refine v_goto 2 C dX1_cut_43 (by decide) ?_
      exact hrec _ _ _ hf
def Cf_B_cut_n (c_n_count : Int32) (c_n_lengths : Nat → Int32) (c_n_fractions : Nat → Int32) (x1 : Int32) : Option (Int32 × (Nat → Int32) × (Nat → Int32) × Int32) :=
  bd (Cl_B_cut_n_2 c_n_count FUEL c_n_lengths c_n_fractions x1) fun (o_n_lengths_2, o_n_fractions_2) =>
  nm (c_n_count - (1 : Int32)) fun z52 =>
  some (z52, o_n_lengths_2, o_n_fractions_2, z52)
set_option maxRecDepth 100000 in
set_option maxHeartbeats 4000000 in
theorem Cb_B_cut_n (C : Cx X (SFG E) T cX1_cut RX1 (some .int) 3 0 0) {x1 : Int32} {o_n_count : Int32} {o_n_lengths : Nat → Int32} {o_n_fractions : Nat → Int32} {r : Int32} (hret : RetOK X 0 0 (some (.int r)) (wL E a T c_waveIsFresh c_peelingIsFresh o_n_count c_n_front c_n_least c_n_window c_n_pulses o_n_lengths o_n_fractions c_n_pulseTimes c_n_pulseEnergies c_n_sound c_n_seen c_hcount c_hp c_h0_count c_h0_front c_h0_least c_h0_window c_h0_pulses c_h0_lengths c_h0_fractions c_h0_pulseTimes c_h0_pulseEnergies c_h0_sound c_h0_seen c_h1_count c_h1_front c_h1_least c_h1_window c_h1_pulses c_h1_lengths c_h1_fractions c_h1_pulseTimes c_h1_pulseEnergies c_h1_sound c_h1_seen c_h2_count c_h2_front c_h2_least c_h2_window c_h2_pulses c_h2_lengths c_h2_fractions c_h2_pulseTimes c_h2_pulseEnergies c_h2_sound c_h2_seen c_s_length c_s_command c_s_position c_s_fault c_s_bytes c_s_numbers c_w_near c_w_far c_w_echoes c_w_totals c_p_result c_p_endTime c_q_count c_q_front c_q_least c_q_window c_q_pulses c_q_lengths c_q_fractions c_q_pulseTimes c_q_pulseEnergies c_t_near c_t_far c_t_echoes c_t_totals)) (hf : Cf_B_cut_n c_n_count c_n_lengths c_n_fractions x1 = some (o_n_count, o_n_lengths, o_n_fractions, r)) : V X 0 0 (wL E a T c_waveIsFresh c_peelingIsFresh c_n_count c_n_front c_n_least c_n_window c_n_pulses c_n_lengths c_n_fractions c_n_pulseTimes c_n_pulseEnergies c_n_sound c_n_seen c_hcount c_hp c_h0_count c_h0_front c_h0_least c_h0_window c_h0_pulses c_h0_lengths c_h0_fractions c_h0_pulseTimes c_h0_pulseEnergies c_h0_sound c_h0_seen c_h1_count c_h1_front c_h1_least c_h1_window c_h1_pulses c_h1_lengths c_h1_fractions c_h1_pulseTimes c_h1_pulseEnergies c_h1_sound c_h1_seen c_h2_count c_h2_front c_h2_least c_h2_window c_h2_pulses c_h2_lengths c_h2_fractions c_h2_pulseTimes c_h2_pulseEnergies c_h2_sound c_h2_seen c_s_length c_s_command c_s_position c_s_fault c_s_bytes c_s_numbers c_w_near c_w_far c_w_echoes c_w_totals c_p_result c_p_endTime c_q_count c_q_front c_q_least c_q_window c_q_pulses c_q_lengths c_q_fractions c_q_pulseTimes c_q_pulseEnergies c_t_near c_t_far c_t_echoes c_t_totals) [(0, .ref (a 2)), (1, .int x1)] 0 [] := by
  unfold Cf_B_cut_n at hf
  refine v_iload_n 1 C dX1_cut_0 rfl rfl ?_
  refine v_istore_n [(0, .ref (a 2)), (2, .int x1)] [1, 0] C dX1_cut_1 rfl (by decide) rfl ?_
  obtain ⟨⟨o_n_lengths_2, o_n_fractions_2⟩, hc, hf⟩ := bd_some hf
  refine Ck_B_cut_n_2 C ?_ _ _ _ _ hc
  refine v_aload_n 0 C dX1_cut_46 rfl rfl ?_
  refine v_dup C dX1_cut_47 rfl ?_
  refine Cg_2_count wfieldLink_RX1_9_LineEchoes_Bench_count_I C dX1_cut_48 ?_
  refine v_iconst (v := 1) C dX1_cut_51 (by decide) ?_
  refine v_isub C dX1_cut_52 hf (fun z52 hf => ?_)
  refine Cp_2_count wfieldLink_RX1_9_LineEchoes_Bench_count_I C dX1_cut_53 ?_
  refine v_aload_n 0 C dX1_cut_56 rfl rfl ?_
  refine Cg_2_count wfieldLink_RX1_9_LineEchoes_Bench_count_I C dX1_cut_57 ?_
  cases hf
  exact v_iret C hret dX1_cut_60
set_option maxRecDepth 100000 in
set_option maxHeartbeats 4000000 in
theorem Cm_B_cut_n {D : va_G} {x1 : Int32} {o_n_count : Int32} {o_n_lengths : Nat → Int32} {o_n_fractions : Nat → Int32} {r : Int32} (hf : Cf_B_cut_n c_n_count c_n_lengths c_n_fractions x1 = some (o_n_count, o_n_lengths, o_n_fractions, r)) : MetM (SFG E) yX1_cut cX1_cut 3 (some .int) { frames := 0, cells := 0, slots := 0, locals := 0 } D T [.ref (a 2), .int x1] (wL E a T c_waveIsFresh c_peelingIsFresh c_n_count c_n_front c_n_least c_n_window c_n_pulses c_n_lengths c_n_fractions c_n_pulseTimes c_n_pulseEnergies c_n_sound c_n_seen c_hcount c_hp c_h0_count c_h0_front c_h0_least c_h0_window c_h0_pulses c_h0_lengths c_h0_fractions c_h0_pulseTimes c_h0_pulseEnergies c_h0_sound c_h0_seen c_h1_count c_h1_front c_h1_least c_h1_window c_h1_pulses c_h1_lengths c_h1_fractions c_h1_pulseTimes c_h1_pulseEnergies c_h1_sound c_h1_seen c_h2_count c_h2_front c_h2_least c_h2_window c_h2_pulses c_h2_lengths c_h2_fractions c_h2_pulseTimes c_h2_pulseEnergies c_h2_sound c_h2_seen c_s_length c_s_command c_s_position c_s_fault c_s_bytes c_s_numbers c_w_near c_w_far c_w_echoes c_w_totals c_p_result c_p_endTime c_q_count c_q_front c_q_least c_q_window c_q_pulses c_q_lengths c_q_fractions c_q_pulseTimes c_q_pulseEnergies c_t_near c_t_far c_t_echoes c_t_totals) (some (.int r)) (wL E a T c_waveIsFresh c_peelingIsFresh o_n_count c_n_front c_n_least c_n_window c_n_pulses o_n_lengths o_n_fractions c_n_pulseTimes c_n_pulseEnergies c_n_sound c_n_seen c_hcount c_hp c_h0_count c_h0_front c_h0_least c_h0_window c_h0_pulses c_h0_lengths c_h0_fractions c_h0_pulseTimes c_h0_pulseEnergies c_h0_sound c_h0_seen c_h1_count c_h1_front c_h1_least c_h1_window c_h1_pulses c_h1_lengths c_h1_fractions c_h1_pulseTimes c_h1_pulseEnergies c_h1_sound c_h1_seen c_h2_count c_h2_front c_h2_least c_h2_window c_h2_pulses c_h2_lengths c_h2_fractions c_h2_pulseTimes c_h2_pulseEnergies c_h2_sound c_h2_seen c_s_length c_s_command c_s_position c_s_fault c_s_bytes c_s_numbers c_w_near c_w_far c_w_echoes c_w_totals c_p_result c_p_endTime c_q_count c_q_front c_q_least c_q_window c_q_pulses c_q_lengths c_q_fractions c_q_pulseTimes c_q_pulseEnergies c_t_near c_t_far c_t_echoes c_t_totals) :=
  MetM.of [(0, .ref (a 2)), (1, .int x1)] (by decide) (Nat.le_of_ble_eq_true rfl) rfl (fun X C hret => Cb_B_cut_n C hret hf)
def Cl_B_divide_n_15 (x1 : Int32) (x2 : Int32) (x3 : Int32) : Nat → (Nat → Int32) → (Nat → Int32) → Int32 → Option ((Nat → Int32) × (Nat → Int32))
  | 0, _, _, _ => none
  | n + 1, c_n_lengths, c_n_fractions, x4 =>
    if x4 ≤ x1 then
      some (c_n_lengths, c_n_fractions)
    else
      nm (x4 - (1 : Int32)) fun z34 =>
      chk (inb z34 8) <| nm (c_n_lengths z34.toNatClampNeg) fun z35 =>
      chk (inb x4 8) <| nm (upd c_n_lengths x4.toNatClampNeg z35) fun n_lengths_36 =>
      nm (x4 - (1 : Int32)) fun z50 =>
      chk (inb z50 8) <| nm (c_n_fractions z50.toNatClampNeg) fun z51 =>
      chk (inb x4 8) <| nm (upd c_n_fractions x4.toNatClampNeg z51) fun n_fractions_52 =>
      nm (x4 + (-1 : Int32)) fun x4_53 =>
      Cl_B_divide_n_15 x1 x2 x3 n n_lengths_36 n_fractions_52 x4_53
set_option maxRecDepth 100000 in
set_option maxHeartbeats 4000000 in
theorem Ck_B_divide_n_15 (C : Cx X (SFG E) T cX1_divide RX1 (some .int) 5 0 0) {x1 : Int32} {x2 : Int32} {x3 : Int32} {o_n_lengths : Nat → Int32} {o_n_fractions : Nat → Int32} (hk : V X 0 0 (wL E a T c_waveIsFresh c_peelingIsFresh c_n_count c_n_front c_n_least c_n_window c_n_pulses o_n_lengths o_n_fractions c_n_pulseTimes c_n_pulseEnergies c_n_sound c_n_seen c_hcount c_hp c_h0_count c_h0_front c_h0_least c_h0_window c_h0_pulses c_h0_lengths c_h0_fractions c_h0_pulseTimes c_h0_pulseEnergies c_h0_sound c_h0_seen c_h1_count c_h1_front c_h1_least c_h1_window c_h1_pulses c_h1_lengths c_h1_fractions c_h1_pulseTimes c_h1_pulseEnergies c_h1_sound c_h1_seen c_h2_count c_h2_front c_h2_least c_h2_window c_h2_pulses c_h2_lengths c_h2_fractions c_h2_pulseTimes c_h2_pulseEnergies c_h2_sound c_h2_seen c_s_length c_s_command c_s_position c_s_fault c_s_bytes c_s_numbers c_w_near c_w_far c_w_echoes c_w_totals c_p_result c_p_endTime c_q_count c_q_front c_q_least c_q_window c_q_pulses c_q_lengths c_q_fractions c_q_pulseTimes c_q_pulseEnergies c_t_near c_t_far c_t_echoes c_t_totals) [(0, .ref (a 2)), (1, .int x1), (2, .int x2), (3, .int x3)] 59 []) : ∀ (n : Nat) (c_n_lengths : Nat → Int32) (c_n_fractions : Nat → Int32) (x4 : Int32), Cl_B_divide_n_15 x1 x2 x3 n c_n_lengths c_n_fractions x4 = some (o_n_lengths, o_n_fractions) → V X 0 0 (wL E a T c_waveIsFresh c_peelingIsFresh c_n_count c_n_front c_n_least c_n_window c_n_pulses c_n_lengths c_n_fractions c_n_pulseTimes c_n_pulseEnergies c_n_sound c_n_seen c_hcount c_hp c_h0_count c_h0_front c_h0_least c_h0_window c_h0_pulses c_h0_lengths c_h0_fractions c_h0_pulseTimes c_h0_pulseEnergies c_h0_sound c_h0_seen c_h1_count c_h1_front c_h1_least c_h1_window c_h1_pulses c_h1_lengths c_h1_fractions c_h1_pulseTimes c_h1_pulseEnergies c_h1_sound c_h1_seen c_h2_count c_h2_front c_h2_least c_h2_window c_h2_pulses c_h2_lengths c_h2_fractions c_h2_pulseTimes c_h2_pulseEnergies c_h2_sound c_h2_seen c_s_length c_s_command c_s_position c_s_fault c_s_bytes c_s_numbers c_w_near c_w_far c_w_echoes c_w_totals c_p_result c_p_endTime c_q_count c_q_front c_q_least c_q_window c_q_pulses c_q_lengths c_q_fractions c_q_pulseTimes c_q_pulseEnergies c_t_near c_t_far c_t_echoes c_t_totals) [(0, .ref (a 2)), (1, .int x1), (2, .int x2), (3, .int x3), (4, .int x4)] 15 [] := by
  intro n
  induction n with
  | zero =>
    intro _ _ _ hf
    cases hf
  | succ n hrec =>
    intro c_n_lengths c_n_fractions x4 hf
    rw [Cl_B_divide_n_15] at hf
    refine v_iload 4 C dX1_divide_15 rfl ?_
    refine v_iload_n 1 C dX1_divide_17 rfl rfl ?_
    refine v_icmp_le 59 C dX1_divide_18 (by decide) hf (fun c hf => ?_) (fun c hf => ?_)
    · refine v_lv [(0, .ref (a 2)), (1, .int x1), (2, .int x2), (3, .int x3)] [0, 1, 2, 3] rfl ?_
      cases hf
      exact hk
    · refine v_aload_n 0 C dX1_divide_21 rfl rfl ?_
      refine Cg_2_lengths wfieldLink_RX1_15_LineEchoes_Bench_lengths_I C dX1_divide_22 ?_
      refine v_iload 4 C dX1_divide_25 rfl ?_
      refine v_aload_n 0 C dX1_divide_27 rfl rfl ?_
      refine Cg_2_lengths wfieldLink_RX1_15_LineEchoes_Bench_lengths_I C dX1_divide_28 ?_
      refine v_iload 4 C dX1_divide_31 rfl ?_
      refine v_iconst (v := 1) C dX1_divide_33 (by decide) ?_
      refine v_isub C dX1_divide_34 hf (fun z34 hf => ?_)
      refine Cal_3 C dX1_divide_35 hf (fun z35 hf => ?_)
      refine Cas_3 C dX1_divide_36 hf (fun n_lengths_36 hf => ?_)
      refine v_aload_n 0 C dX1_divide_37 rfl rfl ?_
      refine Cg_2_fractions wfieldLink_RX1_19_LineEchoes_Bench_fractions_I C dX1_divide_38 ?_
      refine v_iload 4 C dX1_divide_41 rfl ?_
      refine v_aload_n 0 C dX1_divide_43 rfl rfl ?_
      refine Cg_2_fractions wfieldLink_RX1_19_LineEchoes_Bench_fractions_I C dX1_divide_44 ?_
      refine v_iload 4 C dX1_divide_47 rfl ?_
      refine v_iconst (v := 1) C dX1_divide_49 (by decide) ?_
      refine v_isub C dX1_divide_50 hf (fun z50 hf => ?_)
      refine Cal_4 C dX1_divide_51 hf (fun z51 hf => ?_)
      refine Cas_4 C dX1_divide_52 hf (fun n_fractions_52 hf => ?_)
      refine v_iinc (fun x4_53 => [(0, .ref (a 2)), (1, .int x1), (2, .int x2), (3, .int x3), (4, .int x4_53)]) [1, 2, 3, 4, 0] C dX1_divide_53 (j := 4) rfl (dv := -1) (by decide) (by decide) (fun _ => rfl) hf (fun x4_53 hf => ?_)
      refine v_goto 15 C dX1_divide_56 (by decide) ?_
      exact hrec _ _ _ hf
def Cf_B_divide_n_95 (c_n_count : Int32) (c_n_lengths : Nat → Int32) (c_n_fractions : Nat → Int32) : Option (Int32 × (Nat → Int32) × (Nat → Int32) × Int32) :=
  some (c_n_count, c_n_lengths, c_n_fractions, c_n_count)
set_option maxRecDepth 100000 in
set_option maxHeartbeats 4000000 in
theorem Cb_B_divide_n_95 (C : Cx X (SFG E) T cX1_divide RX1 (some .int) 5 0 0)  {o_n_count : Int32} {o_n_lengths : Nat → Int32} {o_n_fractions : Nat → Int32} {r : Int32} (hret : RetOK X 0 0 (some (.int r)) (wL E a T c_waveIsFresh c_peelingIsFresh o_n_count c_n_front c_n_least c_n_window c_n_pulses o_n_lengths o_n_fractions c_n_pulseTimes c_n_pulseEnergies c_n_sound c_n_seen c_hcount c_hp c_h0_count c_h0_front c_h0_least c_h0_window c_h0_pulses c_h0_lengths c_h0_fractions c_h0_pulseTimes c_h0_pulseEnergies c_h0_sound c_h0_seen c_h1_count c_h1_front c_h1_least c_h1_window c_h1_pulses c_h1_lengths c_h1_fractions c_h1_pulseTimes c_h1_pulseEnergies c_h1_sound c_h1_seen c_h2_count c_h2_front c_h2_least c_h2_window c_h2_pulses c_h2_lengths c_h2_fractions c_h2_pulseTimes c_h2_pulseEnergies c_h2_sound c_h2_seen c_s_length c_s_command c_s_position c_s_fault c_s_bytes c_s_numbers c_w_near c_w_far c_w_echoes c_w_totals c_p_result c_p_endTime c_q_count c_q_front c_q_least c_q_window c_q_pulses c_q_lengths c_q_fractions c_q_pulseTimes c_q_pulseEnergies c_t_near c_t_far c_t_echoes c_t_totals)) (hf : Cf_B_divide_n_95 c_n_count c_n_lengths c_n_fractions = some (o_n_count, o_n_lengths, o_n_fractions, r)) : V X 0 0 (wL E a T c_waveIsFresh c_peelingIsFresh c_n_count c_n_front c_n_least c_n_window c_n_pulses c_n_lengths c_n_fractions c_n_pulseTimes c_n_pulseEnergies c_n_sound c_n_seen c_hcount c_hp c_h0_count c_h0_front c_h0_least c_h0_window c_h0_pulses c_h0_lengths c_h0_fractions c_h0_pulseTimes c_h0_pulseEnergies c_h0_sound c_h0_seen c_h1_count c_h1_front c_h1_least c_h1_window c_h1_pulses c_h1_lengths c_h1_fractions c_h1_pulseTimes c_h1_pulseEnergies c_h1_sound c_h1_seen c_h2_count c_h2_front c_h2_least c_h2_window c_h2_pulses c_h2_lengths c_h2_fractions c_h2_pulseTimes c_h2_pulseEnergies c_h2_sound c_h2_seen c_s_length c_s_command c_s_position c_s_fault c_s_bytes c_s_numbers c_w_near c_w_far c_w_echoes c_w_totals c_p_result c_p_endTime c_q_count c_q_front c_q_least c_q_window c_q_pulses c_q_lengths c_q_fractions c_q_pulseTimes c_q_pulseEnergies c_t_near c_t_far c_t_echoes c_t_totals) [(0, .ref (a 2))] 95 [] := by
  unfold Cf_B_divide_n_95 at hf
  refine v_aload_n 0 C dX1_divide_95 rfl rfl ?_
  refine Cg_2_count wfieldLink_RX1_9_LineEchoes_Bench_count_I C dX1_divide_96 ?_
  cases hf
  exact v_iret C hret dX1_divide_99
def Cf_B_divide_n (c_n_count : Int32) (c_n_lengths : Nat → Int32) (c_n_fractions : Nat → Int32) (x1 : Int32) (x2 : Int32) (x3 : Int32) : Option (Int32 × (Nat → Int32) × (Nat → Int32) × Int32) :=
  if (8 : Int32) ≤ c_n_count then
    Cf_B_divide_n_95 c_n_count c_n_lengths c_n_fractions
  else
    bd (Cl_B_divide_n_15 x1 x2 x3 FUEL c_n_lengths c_n_fractions c_n_count) fun (o_n_lengths_15, o_n_fractions_15) =>
    nm (c_n_count + (1 : Int32)) fun z65 =>
    chk (inb x1 8) <| nm (upd o_n_lengths_15 x1.toNatClampNeg x2) fun n_lengths_75 =>
    chk (inb x1 8) <| nm (upd o_n_fractions_15 x1.toNatClampNeg x3) fun n_fractions_82 =>
    nm (x1 + (1 : Int32)) fun z89 =>
    chk (inb z89 8) <| nm (n_lengths_75 z89.toNatClampNeg) fun z91 =>
    nm (z91 - x2) fun z93 =>
    chk (inb z89 8) <| nm (upd n_lengths_75 z89.toNatClampNeg z93) fun n_lengths_94 =>
    Cf_B_divide_n_95 z65 n_lengths_94 n_fractions_82
set_option maxRecDepth 100000 in
set_option maxHeartbeats 4000000 in
theorem Cb_B_divide_n (C : Cx X (SFG E) T cX1_divide RX1 (some .int) 5 0 0) {x1 : Int32} {x2 : Int32} {x3 : Int32} {o_n_count : Int32} {o_n_lengths : Nat → Int32} {o_n_fractions : Nat → Int32} {r : Int32} (hret : RetOK X 0 0 (some (.int r)) (wL E a T c_waveIsFresh c_peelingIsFresh o_n_count c_n_front c_n_least c_n_window c_n_pulses o_n_lengths o_n_fractions c_n_pulseTimes c_n_pulseEnergies c_n_sound c_n_seen c_hcount c_hp c_h0_count c_h0_front c_h0_least c_h0_window c_h0_pulses c_h0_lengths c_h0_fractions c_h0_pulseTimes c_h0_pulseEnergies c_h0_sound c_h0_seen c_h1_count c_h1_front c_h1_least c_h1_window c_h1_pulses c_h1_lengths c_h1_fractions c_h1_pulseTimes c_h1_pulseEnergies c_h1_sound c_h1_seen c_h2_count c_h2_front c_h2_least c_h2_window c_h2_pulses c_h2_lengths c_h2_fractions c_h2_pulseTimes c_h2_pulseEnergies c_h2_sound c_h2_seen c_s_length c_s_command c_s_position c_s_fault c_s_bytes c_s_numbers c_w_near c_w_far c_w_echoes c_w_totals c_p_result c_p_endTime c_q_count c_q_front c_q_least c_q_window c_q_pulses c_q_lengths c_q_fractions c_q_pulseTimes c_q_pulseEnergies c_t_near c_t_far c_t_echoes c_t_totals)) (hf : Cf_B_divide_n c_n_count c_n_lengths c_n_fractions x1 x2 x3 = some (o_n_count, o_n_lengths, o_n_fractions, r)) : V X 0 0 (wL E a T c_waveIsFresh c_peelingIsFresh c_n_count c_n_front c_n_least c_n_window c_n_pulses c_n_lengths c_n_fractions c_n_pulseTimes c_n_pulseEnergies c_n_sound c_n_seen c_hcount c_hp c_h0_count c_h0_front c_h0_least c_h0_window c_h0_pulses c_h0_lengths c_h0_fractions c_h0_pulseTimes c_h0_pulseEnergies c_h0_sound c_h0_seen c_h1_count c_h1_front c_h1_least c_h1_window c_h1_pulses c_h1_lengths c_h1_fractions c_h1_pulseTimes c_h1_pulseEnergies c_h1_sound c_h1_seen c_h2_count c_h2_front c_h2_least c_h2_window c_h2_pulses c_h2_lengths c_h2_fractions c_h2_pulseTimes c_h2_pulseEnergies c_h2_sound c_h2_seen c_s_length c_s_command c_s_position c_s_fault c_s_bytes c_s_numbers c_w_near c_w_far c_w_echoes c_w_totals c_p_result c_p_endTime c_q_count c_q_front c_q_least c_q_window c_q_pulses c_q_lengths c_q_fractions c_q_pulseTimes c_q_pulseEnergies c_t_near c_t_far c_t_echoes c_t_totals) [(0, .ref (a 2)), (1, .int x1), (2, .int x2), (3, .int x3)] 0 [] := by
  unfold Cf_B_divide_n at hf
  refine v_aload_n 0 C dX1_divide_0 rfl rfl ?_
  refine Cg_2_count wfieldLink_RX1_9_LineEchoes_Bench_count_I C dX1_divide_1 ?_
  refine v_bipush (v := 8) C dX1_divide_4 (by decide) ?_
  refine v_icmp_ge 95 C dX1_divide_6 (by decide) hf (fun c hf => ?_) (fun c hf => ?_)
  · refine v_lv [(0, .ref (a 2))] [0] rfl ?_
    exact Cb_B_divide_n_95 C hret hf
  · refine v_aload_n 0 C dX1_divide_9 rfl rfl ?_
    refine Cg_2_count wfieldLink_RX1_9_LineEchoes_Bench_count_I C dX1_divide_10 ?_
    refine v_istore [(0, .ref (a 2)), (1, .int x1), (2, .int x2), (3, .int x3), (4, .int c_n_count)] [1, 2, 3, 4, 0] C dX1_divide_13 (by decide) rfl ?_
    obtain ⟨⟨o_n_lengths_15, o_n_fractions_15⟩, hc, hf⟩ := bd_some hf
    refine Ck_B_divide_n_15 C ?_ _ _ _ _ hc
    refine v_aload_n 0 C dX1_divide_59 rfl rfl ?_
    refine v_dup C dX1_divide_60 rfl ?_
    refine Cg_2_count wfieldLink_RX1_9_LineEchoes_Bench_count_I C dX1_divide_61 ?_
    refine v_iconst (v := 1) C dX1_divide_64 (by decide) ?_
    refine v_iadd C dX1_divide_65 hf (fun z65 hf => ?_)
    refine Cp_2_count wfieldLink_RX1_9_LineEchoes_Bench_count_I C dX1_divide_66 ?_
    refine v_aload_n 0 C dX1_divide_69 rfl rfl ?_
    refine Cg_2_lengths wfieldLink_RX1_15_LineEchoes_Bench_lengths_I C dX1_divide_70 ?_
    refine v_iload_n 1 C dX1_divide_73 rfl rfl ?_
    refine v_iload_n 2 C dX1_divide_74 rfl rfl ?_
    refine Cas_3 C dX1_divide_75 hf (fun n_lengths_75 hf => ?_)
    refine v_aload_n 0 C dX1_divide_76 rfl rfl ?_
    refine Cg_2_fractions wfieldLink_RX1_19_LineEchoes_Bench_fractions_I C dX1_divide_77 ?_
    refine v_iload_n 1 C dX1_divide_80 rfl rfl ?_
    refine v_iload_n 3 C dX1_divide_81 rfl rfl ?_
    refine Cas_4 C dX1_divide_82 hf (fun n_fractions_82 hf => ?_)
    refine v_aload_n 0 C dX1_divide_83 rfl rfl ?_
    refine Cg_2_lengths wfieldLink_RX1_15_LineEchoes_Bench_lengths_I C dX1_divide_84 ?_
    refine v_iload_n 1 C dX1_divide_87 rfl rfl ?_
    refine v_iconst (v := 1) C dX1_divide_88 (by decide) ?_
    refine v_iadd C dX1_divide_89 hf (fun z89 hf => ?_)
    refine v_dup2_11 C dX1_divide_90 rfl rfl ?_
    refine Cal_3 C dX1_divide_91 hf (fun z91 hf => ?_)
    refine v_iload_n 2 C dX1_divide_92 rfl rfl ?_
    refine v_isub C dX1_divide_93 hf (fun z93 hf => ?_)
    refine Cas_3 C dX1_divide_94 hf (fun n_lengths_94 hf => ?_)
    refine v_lv [(0, .ref (a 2))] [0] rfl ?_
    exact Cb_B_divide_n_95 C hret hf
set_option maxRecDepth 100000 in
set_option maxHeartbeats 4000000 in
theorem Cm_B_divide_n {D : va_G} {x1 : Int32} {x2 : Int32} {x3 : Int32} {o_n_count : Int32} {o_n_lengths : Nat → Int32} {o_n_fractions : Nat → Int32} {r : Int32} (hf : Cf_B_divide_n c_n_count c_n_lengths c_n_fractions x1 x2 x3 = some (o_n_count, o_n_lengths, o_n_fractions, r)) : MetM (SFG E) yX1_divide cX1_divide 5 (some .int) { frames := 0, cells := 0, slots := 0, locals := 0 } D T [.ref (a 2), .int x1, .int x2, .int x3] (wL E a T c_waveIsFresh c_peelingIsFresh c_n_count c_n_front c_n_least c_n_window c_n_pulses c_n_lengths c_n_fractions c_n_pulseTimes c_n_pulseEnergies c_n_sound c_n_seen c_hcount c_hp c_h0_count c_h0_front c_h0_least c_h0_window c_h0_pulses c_h0_lengths c_h0_fractions c_h0_pulseTimes c_h0_pulseEnergies c_h0_sound c_h0_seen c_h1_count c_h1_front c_h1_least c_h1_window c_h1_pulses c_h1_lengths c_h1_fractions c_h1_pulseTimes c_h1_pulseEnergies c_h1_sound c_h1_seen c_h2_count c_h2_front c_h2_least c_h2_window c_h2_pulses c_h2_lengths c_h2_fractions c_h2_pulseTimes c_h2_pulseEnergies c_h2_sound c_h2_seen c_s_length c_s_command c_s_position c_s_fault c_s_bytes c_s_numbers c_w_near c_w_far c_w_echoes c_w_totals c_p_result c_p_endTime c_q_count c_q_front c_q_least c_q_window c_q_pulses c_q_lengths c_q_fractions c_q_pulseTimes c_q_pulseEnergies c_t_near c_t_far c_t_echoes c_t_totals) (some (.int r)) (wL E a T c_waveIsFresh c_peelingIsFresh o_n_count c_n_front c_n_least c_n_window c_n_pulses o_n_lengths o_n_fractions c_n_pulseTimes c_n_pulseEnergies c_n_sound c_n_seen c_hcount c_hp c_h0_count c_h0_front c_h0_least c_h0_window c_h0_pulses c_h0_lengths c_h0_fractions c_h0_pulseTimes c_h0_pulseEnergies c_h0_sound c_h0_seen c_h1_count c_h1_front c_h1_least c_h1_window c_h1_pulses c_h1_lengths c_h1_fractions c_h1_pulseTimes c_h1_pulseEnergies c_h1_sound c_h1_seen c_h2_count c_h2_front c_h2_least c_h2_window c_h2_pulses c_h2_lengths c_h2_fractions c_h2_pulseTimes c_h2_pulseEnergies c_h2_sound c_h2_seen c_s_length c_s_command c_s_position c_s_fault c_s_bytes c_s_numbers c_w_near c_w_far c_w_echoes c_w_totals c_p_result c_p_endTime c_q_count c_q_front c_q_least c_q_window c_q_pulses c_q_lengths c_q_fractions c_q_pulseTimes c_q_pulseEnergies c_t_near c_t_far c_t_echoes c_t_totals) :=
  MetM.of [(0, .ref (a 2)), (1, .int x1), (2, .int x2), (3, .int x3)] (by decide) (Nat.le_of_ble_eq_true rfl) rfl (fun X C hret => Cb_B_divide_n C hret hf)
def Cl_B_swapEnds_n_lengths_6  : Nat → (Nat → Int32) → Int32 → Int32 → Option (Nat → Int32)
  | 0, _, _, _ => none
  | n + 1, c_n_lengths, x2, x3 =>
    if x3 ≤ x2 then
      some c_n_lengths
    else
      chk (inb x2 8) <| nm (c_n_lengths x2.toNatClampNeg) fun z13 =>
      chk (inb x3 8) <| nm (c_n_lengths x3.toNatClampNeg) fun z20 =>
      chk (inb x2 8) <| nm (upd c_n_lengths x2.toNatClampNeg z20) fun n_lengths_21 =>
      chk (inb x3 8) <| nm (upd n_lengths_21 x3.toNatClampNeg z13) fun n_lengths_26 =>
      nm (x2 + (1 : Int32)) fun x2_27 =>
      nm (x3 + (-1 : Int32)) fun x3_30 =>
      Cl_B_swapEnds_n_lengths_6 n n_lengths_26 x2_27 x3_30
set_option maxRecDepth 100000 in
set_option maxHeartbeats 4000000 in
theorem Ck_B_swapEnds_n_lengths_6 (C : Cx X (SFG E) T cX1_swapEnds RX1 none 5 0 0)  {o_n_lengths : Nat → Int32} (hk : V X 0 0 (wL E a T c_waveIsFresh c_peelingIsFresh c_n_count c_n_front c_n_least c_n_window c_n_pulses o_n_lengths c_n_fractions c_n_pulseTimes c_n_pulseEnergies c_n_sound c_n_seen c_hcount c_hp c_h0_count c_h0_front c_h0_least c_h0_window c_h0_pulses c_h0_lengths c_h0_fractions c_h0_pulseTimes c_h0_pulseEnergies c_h0_sound c_h0_seen c_h1_count c_h1_front c_h1_least c_h1_window c_h1_pulses c_h1_lengths c_h1_fractions c_h1_pulseTimes c_h1_pulseEnergies c_h1_sound c_h1_seen c_h2_count c_h2_front c_h2_least c_h2_window c_h2_pulses c_h2_lengths c_h2_fractions c_h2_pulseTimes c_h2_pulseEnergies c_h2_sound c_h2_seen c_s_length c_s_command c_s_position c_s_fault c_s_bytes c_s_numbers c_w_near c_w_far c_w_echoes c_w_totals c_p_result c_p_endTime c_q_count c_q_front c_q_least c_q_window c_q_pulses c_q_lengths c_q_fractions c_q_pulseTimes c_q_pulseEnergies c_t_near c_t_far c_t_echoes c_t_totals) [] 36 []) : ∀ (n : Nat) (c_n_lengths : Nat → Int32) (x2 : Int32) (x3 : Int32), Cl_B_swapEnds_n_lengths_6  n c_n_lengths x2 x3 = some o_n_lengths → V X 0 0 (wL E a T c_waveIsFresh c_peelingIsFresh c_n_count c_n_front c_n_least c_n_window c_n_pulses c_n_lengths c_n_fractions c_n_pulseTimes c_n_pulseEnergies c_n_sound c_n_seen c_hcount c_hp c_h0_count c_h0_front c_h0_least c_h0_window c_h0_pulses c_h0_lengths c_h0_fractions c_h0_pulseTimes c_h0_pulseEnergies c_h0_sound c_h0_seen c_h1_count c_h1_front c_h1_least c_h1_window c_h1_pulses c_h1_lengths c_h1_fractions c_h1_pulseTimes c_h1_pulseEnergies c_h1_sound c_h1_seen c_h2_count c_h2_front c_h2_least c_h2_window c_h2_pulses c_h2_lengths c_h2_fractions c_h2_pulseTimes c_h2_pulseEnergies c_h2_sound c_h2_seen c_s_length c_s_command c_s_position c_s_fault c_s_bytes c_s_numbers c_w_near c_w_far c_w_echoes c_w_totals c_p_result c_p_endTime c_q_count c_q_front c_q_least c_q_window c_q_pulses c_q_lengths c_q_fractions c_q_pulseTimes c_q_pulseEnergies c_t_near c_t_far c_t_echoes c_t_totals) [(0, .ref (a 3)), (2, .int x2), (3, .int x3)] 6 [] := by
  intro n
  induction n with
  | zero =>
    intro _ _ _ hf
    cases hf
  | succ n hrec =>
    intro c_n_lengths x2 x3 hf
    rw [Cl_B_swapEnds_n_lengths_6] at hf
    refine v_iload_n 1 C dX1_swapEnds_6 rfl rfl ?_
    refine v_iload_n 2 C dX1_swapEnds_7 rfl rfl ?_
    refine v_icmp_ge 36 C dX1_swapEnds_8 (by decide) hf (fun c hf => ?_) (fun c hf => ?_)
    · refine v_lv [] [] rfl ?_
      cases hf
      exact hk
    · refine v_aload_n 0 C dX1_swapEnds_11 rfl rfl ?_
      refine v_iload_n 1 C dX1_swapEnds_12 rfl rfl ?_
      refine Cal_3 C dX1_swapEnds_13 hf (fun z13 hf => ?_)
      refine v_istore [(0, .ref (a 3)), (2, .int x2), (3, .int x3), (4, .int z13)] [1, 2, 3, 0] C dX1_swapEnds_14 (by decide) rfl ?_
      refine v_aload_n 0 C dX1_swapEnds_16 rfl rfl ?_
      refine v_iload_n 1 C dX1_swapEnds_17 rfl rfl ?_
      refine v_aload_n 0 C dX1_swapEnds_18 rfl rfl ?_
      refine v_iload_n 2 C dX1_swapEnds_19 rfl rfl ?_
      refine Cal_3 C dX1_swapEnds_20 hf (fun z20 hf => ?_)
      refine Cas_3 C dX1_swapEnds_21 hf (fun n_lengths_21 hf => ?_)
      refine v_aload_n 0 C dX1_swapEnds_22 rfl rfl ?_
      refine v_iload_n 2 C dX1_swapEnds_23 rfl rfl ?_
      refine v_iload 3 C dX1_swapEnds_24 rfl ?_
      refine Cas_3 C dX1_swapEnds_26 hf (fun n_lengths_26 hf => ?_)
      refine v_iinc (fun x2_27 => [(0, .ref (a 3)), (2, .int x2_27), (3, .int x3)]) [1, 0, 2] C dX1_swapEnds_27 (j := 1) rfl (dv := 1) (by decide) (by decide) (fun _ => rfl) hf (fun x2_27 hf => ?_)
      refine v_iinc (fun x3_30 => [(0, .ref (a 3)), (2, .int x2_27), (3, .int x3_30)]) [1, 2, 0] C dX1_swapEnds_30 (j := 2) rfl (dv := -1) (by decide) (by decide) (fun _ => rfl) hf (fun x3_30 hf => ?_)
      refine v_goto 6 C dX1_swapEnds_33 (by decide) ?_
      exact hrec _ _ _ hf
def Cf_B_swapEnds_n_lengths (c_n_lengths : Nat → Int32) (x1 : Int32) : Option (Nat → Int32) :=
  nm (x1 - (1 : Int32)) fun z4 =>
  bd (Cl_B_swapEnds_n_lengths_6 FUEL c_n_lengths (0 : Int32) z4) fun o_n_lengths_6 =>
  some o_n_lengths_6
set_option maxRecDepth 100000 in
set_option maxHeartbeats 4000000 in
theorem Cb_B_swapEnds_n_lengths (C : Cx X (SFG E) T cX1_swapEnds RX1 none 5 0 0) {x1 : Int32} {o_n_lengths : Nat → Int32} (hret : RetOK X 0 0 none (wL E a T c_waveIsFresh c_peelingIsFresh c_n_count c_n_front c_n_least c_n_window c_n_pulses o_n_lengths c_n_fractions c_n_pulseTimes c_n_pulseEnergies c_n_sound c_n_seen c_hcount c_hp c_h0_count c_h0_front c_h0_least c_h0_window c_h0_pulses c_h0_lengths c_h0_fractions c_h0_pulseTimes c_h0_pulseEnergies c_h0_sound c_h0_seen c_h1_count c_h1_front c_h1_least c_h1_window c_h1_pulses c_h1_lengths c_h1_fractions c_h1_pulseTimes c_h1_pulseEnergies c_h1_sound c_h1_seen c_h2_count c_h2_front c_h2_least c_h2_window c_h2_pulses c_h2_lengths c_h2_fractions c_h2_pulseTimes c_h2_pulseEnergies c_h2_sound c_h2_seen c_s_length c_s_command c_s_position c_s_fault c_s_bytes c_s_numbers c_w_near c_w_far c_w_echoes c_w_totals c_p_result c_p_endTime c_q_count c_q_front c_q_least c_q_window c_q_pulses c_q_lengths c_q_fractions c_q_pulseTimes c_q_pulseEnergies c_t_near c_t_far c_t_echoes c_t_totals)) (hf : Cf_B_swapEnds_n_lengths c_n_lengths x1 = some o_n_lengths) : V X 0 0 (wL E a T c_waveIsFresh c_peelingIsFresh c_n_count c_n_front c_n_least c_n_window c_n_pulses c_n_lengths c_n_fractions c_n_pulseTimes c_n_pulseEnergies c_n_sound c_n_seen c_hcount c_hp c_h0_count c_h0_front c_h0_least c_h0_window c_h0_pulses c_h0_lengths c_h0_fractions c_h0_pulseTimes c_h0_pulseEnergies c_h0_sound c_h0_seen c_h1_count c_h1_front c_h1_least c_h1_window c_h1_pulses c_h1_lengths c_h1_fractions c_h1_pulseTimes c_h1_pulseEnergies c_h1_sound c_h1_seen c_h2_count c_h2_front c_h2_least c_h2_window c_h2_pulses c_h2_lengths c_h2_fractions c_h2_pulseTimes c_h2_pulseEnergies c_h2_sound c_h2_seen c_s_length c_s_command c_s_position c_s_fault c_s_bytes c_s_numbers c_w_near c_w_far c_w_echoes c_w_totals c_p_result c_p_endTime c_q_count c_q_front c_q_least c_q_window c_q_pulses c_q_lengths c_q_fractions c_q_pulseTimes c_q_pulseEnergies c_t_near c_t_far c_t_echoes c_t_totals) [(0, .ref (a 3)), (1, .int x1)] 0 [] := by
  unfold Cf_B_swapEnds_n_lengths at hf
  refine v_iconst (v := 0) C dX1_swapEnds_0 (by decide) ?_
  refine v_istore_n [(0, .ref (a 3)), (1, .int x1), (2, .int (0 : Int32))] [1, 2, 0] C dX1_swapEnds_1 rfl (by decide) rfl ?_
  refine v_iload_n 1 C dX1_swapEnds_2 rfl rfl ?_
  refine v_iconst (v := 1) C dX1_swapEnds_3 (by decide) ?_
  refine v_isub C dX1_swapEnds_4 hf (fun z4 hf => ?_)
  refine v_istore_n [(0, .ref (a 3)), (2, .int (0 : Int32)), (3, .int z4)] [1, 3, 0] C dX1_swapEnds_5 rfl (by decide) rfl ?_
  obtain ⟨o_n_lengths_6, hc, hf⟩ := bd_some hf
  refine Ck_B_swapEnds_n_lengths_6 C ?_ _ _ _ _ hc
  cases hf
  exact v_vret C hret dX1_swapEnds_36
set_option maxRecDepth 100000 in
set_option maxHeartbeats 4000000 in
theorem Cm_B_swapEnds_n_lengths {D : va_G} {x1 : Int32} {o_n_lengths : Nat → Int32} (hf : Cf_B_swapEnds_n_lengths c_n_lengths x1 = some o_n_lengths) : MetM (SFG E) yX1_swapEnds cX1_swapEnds 5 none { frames := 0, cells := 0, slots := 0, locals := 0 } D T [.ref (a 3), .int x1] (wL E a T c_waveIsFresh c_peelingIsFresh c_n_count c_n_front c_n_least c_n_window c_n_pulses c_n_lengths c_n_fractions c_n_pulseTimes c_n_pulseEnergies c_n_sound c_n_seen c_hcount c_hp c_h0_count c_h0_front c_h0_least c_h0_window c_h0_pulses c_h0_lengths c_h0_fractions c_h0_pulseTimes c_h0_pulseEnergies c_h0_sound c_h0_seen c_h1_count c_h1_front c_h1_least c_h1_window c_h1_pulses c_h1_lengths c_h1_fractions c_h1_pulseTimes c_h1_pulseEnergies c_h1_sound c_h1_seen c_h2_count c_h2_front c_h2_least c_h2_window c_h2_pulses c_h2_lengths c_h2_fractions c_h2_pulseTimes c_h2_pulseEnergies c_h2_sound c_h2_seen c_s_length c_s_command c_s_position c_s_fault c_s_bytes c_s_numbers c_w_near c_w_far c_w_echoes c_w_totals c_p_result c_p_endTime c_q_count c_q_front c_q_least c_q_window c_q_pulses c_q_lengths c_q_fractions c_q_pulseTimes c_q_pulseEnergies c_t_near c_t_far c_t_echoes c_t_totals) none (wL E a T c_waveIsFresh c_peelingIsFresh c_n_count c_n_front c_n_least c_n_window c_n_pulses o_n_lengths c_n_fractions c_n_pulseTimes c_n_pulseEnergies c_n_sound c_n_seen c_hcount c_hp c_h0_count c_h0_front c_h0_least c_h0_window c_h0_pulses c_h0_lengths c_h0_fractions c_h0_pulseTimes c_h0_pulseEnergies c_h0_sound c_h0_seen c_h1_count c_h1_front c_h1_least c_h1_window c_h1_pulses c_h1_lengths c_h1_fractions c_h1_pulseTimes c_h1_pulseEnergies c_h1_sound c_h1_seen c_h2_count c_h2_front c_h2_least c_h2_window c_h2_pulses c_h2_lengths c_h2_fractions c_h2_pulseTimes c_h2_pulseEnergies c_h2_sound c_h2_seen c_s_length c_s_command c_s_position c_s_fault c_s_bytes c_s_numbers c_w_near c_w_far c_w_echoes c_w_totals c_p_result c_p_endTime c_q_count c_q_front c_q_least c_q_window c_q_pulses c_q_lengths c_q_fractions c_q_pulseTimes c_q_pulseEnergies c_t_near c_t_far c_t_echoes c_t_totals) :=
  MetM.of [(0, .ref (a 3)), (1, .int x1)] (by decide) (Nat.le_of_ble_eq_true rfl) rfl (fun X C hret => Cb_B_swapEnds_n_lengths C hret hf)
def Cl_B_swapEnds_n_fractions_6  : Nat → (Nat → Int32) → Int32 → Int32 → Option (Nat → Int32)
  | 0, _, _, _ => none
  | n + 1, c_n_fractions, x2, x3 =>
    if x3 ≤ x2 then
      some c_n_fractions
    else
      chk (inb x2 8) <| nm (c_n_fractions x2.toNatClampNeg) fun z13 =>
      chk (inb x3 8) <| nm (c_n_fractions x3.toNatClampNeg) fun z20 =>
      chk (inb x2 8) <| nm (upd c_n_fractions x2.toNatClampNeg z20) fun n_fractions_21 =>
      chk (inb x3 8) <| nm (upd n_fractions_21 x3.toNatClampNeg z13) fun n_fractions_26 =>
      nm (x2 + (1 : Int32)) fun x2_27 =>
      nm (x3 + (-1 : Int32)) fun x3_30 =>
      Cl_B_swapEnds_n_fractions_6 n n_fractions_26 x2_27 x3_30
set_option maxRecDepth 100000 in
set_option maxHeartbeats 4000000 in
theorem Ck_B_swapEnds_n_fractions_6 (C : Cx X (SFG E) T cX1_swapEnds RX1 none 5 0 0)  {o_n_fractions : Nat → Int32} (hk : V X 0 0 (wL E a T c_waveIsFresh c_peelingIsFresh c_n_count c_n_front c_n_least c_n_window c_n_pulses c_n_lengths o_n_fractions c_n_pulseTimes c_n_pulseEnergies c_n_sound c_n_seen c_hcount c_hp c_h0_count c_h0_front c_h0_least c_h0_window c_h0_pulses c_h0_lengths c_h0_fractions c_h0_pulseTimes c_h0_pulseEnergies c_h0_sound c_h0_seen c_h1_count c_h1_front c_h1_least c_h1_window c_h1_pulses c_h1_lengths c_h1_fractions c_h1_pulseTimes c_h1_pulseEnergies c_h1_sound c_h1_seen c_h2_count c_h2_front c_h2_least c_h2_window c_h2_pulses c_h2_lengths c_h2_fractions c_h2_pulseTimes c_h2_pulseEnergies c_h2_sound c_h2_seen c_s_length c_s_command c_s_position c_s_fault c_s_bytes c_s_numbers c_w_near c_w_far c_w_echoes c_w_totals c_p_result c_p_endTime c_q_count c_q_front c_q_least c_q_window c_q_pulses c_q_lengths c_q_fractions c_q_pulseTimes c_q_pulseEnergies c_t_near c_t_far c_t_echoes c_t_totals) [] 36 []) : ∀ (n : Nat) (c_n_fractions : Nat → Int32) (x2 : Int32) (x3 : Int32), Cl_B_swapEnds_n_fractions_6  n c_n_fractions x2 x3 = some o_n_fractions → V X 0 0 (wL E a T c_waveIsFresh c_peelingIsFresh c_n_count c_n_front c_n_least c_n_window c_n_pulses c_n_lengths c_n_fractions c_n_pulseTimes c_n_pulseEnergies c_n_sound c_n_seen c_hcount c_hp c_h0_count c_h0_front c_h0_least c_h0_window c_h0_pulses c_h0_lengths c_h0_fractions c_h0_pulseTimes c_h0_pulseEnergies c_h0_sound c_h0_seen c_h1_count c_h1_front c_h1_least c_h1_window c_h1_pulses c_h1_lengths c_h1_fractions c_h1_pulseTimes c_h1_pulseEnergies c_h1_sound c_h1_seen c_h2_count c_h2_front c_h2_least c_h2_window c_h2_pulses c_h2_lengths c_h2_fractions c_h2_pulseTimes c_h2_pulseEnergies c_h2_sound c_h2_seen c_s_length c_s_command c_s_position c_s_fault c_s_bytes c_s_numbers c_w_near c_w_far c_w_echoes c_w_totals c_p_result c_p_endTime c_q_count c_q_front c_q_least c_q_window c_q_pulses c_q_lengths c_q_fractions c_q_pulseTimes c_q_pulseEnergies c_t_near c_t_far c_t_echoes c_t_totals) [(0, .ref (a 4)), (2, .int x2), (3, .int x3)] 6 [] := by
  intro n
  induction n with
  | zero =>
    intro _ _ _ hf
    cases hf
  | succ n hrec =>
    intro c_n_fractions x2 x3 hf
    rw [Cl_B_swapEnds_n_fractions_6] at hf
    refine v_iload_n 1 C dX1_swapEnds_6 rfl rfl ?_
    refine v_iload_n 2 C dX1_swapEnds_7 rfl rfl ?_
    refine v_icmp_ge 36 C dX1_swapEnds_8 (by decide) hf (fun c hf => ?_) (fun c hf => ?_)
    · refine v_lv [] [] rfl ?_
      cases hf
      exact hk
    · refine v_aload_n 0 C dX1_swapEnds_11 rfl rfl ?_
      refine v_iload_n 1 C dX1_swapEnds_12 rfl rfl ?_
      refine Cal_4 C dX1_swapEnds_13 hf (fun z13 hf => ?_)
      refine v_istore [(0, .ref (a 4)), (2, .int x2), (3, .int x3), (4, .int z13)] [1, 2, 3, 0] C dX1_swapEnds_14 (by decide) rfl ?_
      refine v_aload_n 0 C dX1_swapEnds_16 rfl rfl ?_
      refine v_iload_n 1 C dX1_swapEnds_17 rfl rfl ?_
      refine v_aload_n 0 C dX1_swapEnds_18 rfl rfl ?_
      refine v_iload_n 2 C dX1_swapEnds_19 rfl rfl ?_
      refine Cal_4 C dX1_swapEnds_20 hf (fun z20 hf => ?_)
      refine Cas_4 C dX1_swapEnds_21 hf (fun n_fractions_21 hf => ?_)
      refine v_aload_n 0 C dX1_swapEnds_22 rfl rfl ?_
      refine v_iload_n 2 C dX1_swapEnds_23 rfl rfl ?_
      refine v_iload 3 C dX1_swapEnds_24 rfl ?_
      refine Cas_4 C dX1_swapEnds_26 hf (fun n_fractions_26 hf => ?_)
      refine v_iinc (fun x2_27 => [(0, .ref (a 4)), (2, .int x2_27), (3, .int x3)]) [1, 0, 2] C dX1_swapEnds_27 (j := 1) rfl (dv := 1) (by decide) (by decide) (fun _ => rfl) hf (fun x2_27 hf => ?_)
      refine v_iinc (fun x3_30 => [(0, .ref (a 4)), (2, .int x2_27), (3, .int x3_30)]) [1, 2, 0] C dX1_swapEnds_30 (j := 2) rfl (dv := -1) (by decide) (by decide) (fun _ => rfl) hf (fun x3_30 hf => ?_)
      refine v_goto 6 C dX1_swapEnds_33 (by decide) ?_
      exact hrec _ _ _ hf
def Cf_B_swapEnds_n_fractions (c_n_fractions : Nat → Int32) (x1 : Int32) : Option (Nat → Int32) :=
  nm (x1 - (1 : Int32)) fun z4 =>
  bd (Cl_B_swapEnds_n_fractions_6 FUEL c_n_fractions (0 : Int32) z4) fun o_n_fractions_6 =>
  some o_n_fractions_6
set_option maxRecDepth 100000 in
set_option maxHeartbeats 4000000 in
theorem Cb_B_swapEnds_n_fractions (C : Cx X (SFG E) T cX1_swapEnds RX1 none 5 0 0) {x1 : Int32} {o_n_fractions : Nat → Int32} (hret : RetOK X 0 0 none (wL E a T c_waveIsFresh c_peelingIsFresh c_n_count c_n_front c_n_least c_n_window c_n_pulses c_n_lengths o_n_fractions c_n_pulseTimes c_n_pulseEnergies c_n_sound c_n_seen c_hcount c_hp c_h0_count c_h0_front c_h0_least c_h0_window c_h0_pulses c_h0_lengths c_h0_fractions c_h0_pulseTimes c_h0_pulseEnergies c_h0_sound c_h0_seen c_h1_count c_h1_front c_h1_least c_h1_window c_h1_pulses c_h1_lengths c_h1_fractions c_h1_pulseTimes c_h1_pulseEnergies c_h1_sound c_h1_seen c_h2_count c_h2_front c_h2_least c_h2_window c_h2_pulses c_h2_lengths c_h2_fractions c_h2_pulseTimes c_h2_pulseEnergies c_h2_sound c_h2_seen c_s_length c_s_command c_s_position c_s_fault c_s_bytes c_s_numbers c_w_near c_w_far c_w_echoes c_w_totals c_p_result c_p_endTime c_q_count c_q_front c_q_least c_q_window c_q_pulses c_q_lengths c_q_fractions c_q_pulseTimes c_q_pulseEnergies c_t_near c_t_far c_t_echoes c_t_totals)) (hf : Cf_B_swapEnds_n_fractions c_n_fractions x1 = some o_n_fractions) : V X 0 0 (wL E a T c_waveIsFresh c_peelingIsFresh c_n_count c_n_front c_n_least c_n_window c_n_pulses c_n_lengths c_n_fractions c_n_pulseTimes c_n_pulseEnergies c_n_sound c_n_seen c_hcount c_hp c_h0_count c_h0_front c_h0_least c_h0_window c_h0_pulses c_h0_lengths c_h0_fractions c_h0_pulseTimes c_h0_pulseEnergies c_h0_sound c_h0_seen c_h1_count c_h1_front c_h1_least c_h1_window c_h1_pulses c_h1_lengths c_h1_fractions c_h1_pulseTimes c_h1_pulseEnergies c_h1_sound c_h1_seen c_h2_count c_h2_front c_h2_least c_h2_window c_h2_pulses c_h2_lengths c_h2_fractions c_h2_pulseTimes c_h2_pulseEnergies c_h2_sound c_h2_seen c_s_length c_s_command c_s_position c_s_fault c_s_bytes c_s_numbers c_w_near c_w_far c_w_echoes c_w_totals c_p_result c_p_endTime c_q_count c_q_front c_q_least c_q_window c_q_pulses c_q_lengths c_q_fractions c_q_pulseTimes c_q_pulseEnergies c_t_near c_t_far c_t_echoes c_t_totals) [(0, .ref (a 4)), (1, .int x1)] 0 [] := by
  unfold Cf_B_swapEnds_n_fractions at hf
  refine v_iconst (v := 0) C dX1_swapEnds_0 (by decide) ?_
  refine v_istore_n [(0, .ref (a 4)), (1, .int x1), (2, .int (0 : Int32))] [1, 2, 0] C dX1_swapEnds_1 rfl (by decide) rfl ?_
  refine v_iload_n 1 C dX1_swapEnds_2 rfl rfl ?_
  refine v_iconst (v := 1) C dX1_swapEnds_3 (by decide) ?_
  refine v_isub C dX1_swapEnds_4 hf (fun z4 hf => ?_)
  refine v_istore_n [(0, .ref (a 4)), (2, .int (0 : Int32)), (3, .int z4)] [1, 3, 0] C dX1_swapEnds_5 rfl (by decide) rfl ?_
  obtain ⟨o_n_fractions_6, hc, hf⟩ := bd_some hf
  refine Ck_B_swapEnds_n_fractions_6 C ?_ _ _ _ _ hc
  cases hf
  exact v_vret C hret dX1_swapEnds_36
set_option maxRecDepth 100000 in
set_option maxHeartbeats 4000000 in
theorem Cm_B_swapEnds_n_fractions {D : va_G} {x1 : Int32} {o_n_fractions : Nat → Int32} (hf : Cf_B_swapEnds_n_fractions c_n_fractions x1 = some o_n_fractions) : MetM (SFG E) yX1_swapEnds cX1_swapEnds 5 none { frames := 0, cells := 0, slots := 0, locals := 0 } D T [.ref (a 4), .int x1] (wL E a T c_waveIsFresh c_peelingIsFresh c_n_count c_n_front c_n_least c_n_window c_n_pulses c_n_lengths c_n_fractions c_n_pulseTimes c_n_pulseEnergies c_n_sound c_n_seen c_hcount c_hp c_h0_count c_h0_front c_h0_least c_h0_window c_h0_pulses c_h0_lengths c_h0_fractions c_h0_pulseTimes c_h0_pulseEnergies c_h0_sound c_h0_seen c_h1_count c_h1_front c_h1_least c_h1_window c_h1_pulses c_h1_lengths c_h1_fractions c_h1_pulseTimes c_h1_pulseEnergies c_h1_sound c_h1_seen c_h2_count c_h2_front c_h2_least c_h2_window c_h2_pulses c_h2_lengths c_h2_fractions c_h2_pulseTimes c_h2_pulseEnergies c_h2_sound c_h2_seen c_s_length c_s_command c_s_position c_s_fault c_s_bytes c_s_numbers c_w_near c_w_far c_w_echoes c_w_totals c_p_result c_p_endTime c_q_count c_q_front c_q_least c_q_window c_q_pulses c_q_lengths c_q_fractions c_q_pulseTimes c_q_pulseEnergies c_t_near c_t_far c_t_echoes c_t_totals) none (wL E a T c_waveIsFresh c_peelingIsFresh c_n_count c_n_front c_n_least c_n_window c_n_pulses c_n_lengths o_n_fractions c_n_pulseTimes c_n_pulseEnergies c_n_sound c_n_seen c_hcount c_hp c_h0_count c_h0_front c_h0_least c_h0_window c_h0_pulses c_h0_lengths c_h0_fractions c_h0_pulseTimes c_h0_pulseEnergies c_h0_sound c_h0_seen c_h1_count c_h1_front c_h1_least c_h1_window c_h1_pulses c_h1_lengths c_h1_fractions c_h1_pulseTimes c_h1_pulseEnergies c_h1_sound c_h1_seen c_h2_count c_h2_front c_h2_least c_h2_window c_h2_pulses c_h2_lengths c_h2_fractions c_h2_pulseTimes c_h2_pulseEnergies c_h2_sound c_h2_seen c_s_length c_s_command c_s_position c_s_fault c_s_bytes c_s_numbers c_w_near c_w_far c_w_echoes c_w_totals c_p_result c_p_endTime c_q_count c_q_front c_q_least c_q_window c_q_pulses c_q_lengths c_q_fractions c_q_pulseTimes c_q_pulseEnergies c_t_near c_t_far c_t_echoes c_t_totals) :=
  MetM.of [(0, .ref (a 4)), (1, .int x1)] (by decide) (Nat.le_of_ble_eq_true rfl) rfl (fun X C hret => Cb_B_swapEnds_n_fractions C hret hf)
set_option maxRecDepth 100000 in
theorem Cc_B_swapEnds_n_lengths {x1 : Int32} {cc : ByteArray} {own : String} {ret : Option FieldType} {nl fr lo pc ix : Nat} {lv : List (Nat × Value)} {rest : List Value} {β : Type} {K : (Nat → Int32) → Option β} {oo : β} (hl : Cond.methodLink own ix yX1_swapEnds ∈ wsG) (C : Cx X (SFG E) T cc own ret nl fr lo) (hdg : decode cc pc = .ok (.invokestatic ix, 3)) (hroom : 0 + 1 ≤ fr ∧ 8 + (5 + 11) + 0 ≤ lo) (hst : (rest.map fun v => v.category).sum ≤ 8) (hf : bd (Cf_B_swapEnds_n_lengths c_n_lengths x1) K = some oo) (kk : ∀ (o_n_lengths : Nat → Int32), K o_n_lengths = some oo → V X 0 0 (wL E a T c_waveIsFresh c_peelingIsFresh c_n_count c_n_front c_n_least c_n_window c_n_pulses o_n_lengths c_n_fractions c_n_pulseTimes c_n_pulseEnergies c_n_sound c_n_seen c_hcount c_hp c_h0_count c_h0_front c_h0_least c_h0_window c_h0_pulses c_h0_lengths c_h0_fractions c_h0_pulseTimes c_h0_pulseEnergies c_h0_sound c_h0_seen c_h1_count c_h1_front c_h1_least c_h1_window c_h1_pulses c_h1_lengths c_h1_fractions c_h1_pulseTimes c_h1_pulseEnergies c_h1_sound c_h1_seen c_h2_count c_h2_front c_h2_least c_h2_window c_h2_pulses c_h2_lengths c_h2_fractions c_h2_pulseTimes c_h2_pulseEnergies c_h2_sound c_h2_seen c_s_length c_s_command c_s_position c_s_fault c_s_bytes c_s_numbers c_w_near c_w_far c_w_echoes c_w_totals c_p_result c_p_endTime c_q_count c_q_front c_q_least c_q_window c_q_pulses c_q_lengths c_q_fractions c_q_pulseTimes c_q_pulseEnergies c_t_near c_t_far c_t_echoes c_t_totals) lv (pc + 3) rest) : V X 0 0 (wL E a T c_waveIsFresh c_peelingIsFresh c_n_count c_n_front c_n_least c_n_window c_n_pulses c_n_lengths c_n_fractions c_n_pulseTimes c_n_pulseEnergies c_n_sound c_n_seen c_hcount c_hp c_h0_count c_h0_front c_h0_least c_h0_window c_h0_pulses c_h0_lengths c_h0_fractions c_h0_pulseTimes c_h0_pulseEnergies c_h0_sound c_h0_seen c_h1_count c_h1_front c_h1_least c_h1_window c_h1_pulses c_h1_lengths c_h1_fractions c_h1_pulseTimes c_h1_pulseEnergies c_h1_sound c_h1_seen c_h2_count c_h2_front c_h2_least c_h2_window c_h2_pulses c_h2_lengths c_h2_fractions c_h2_pulseTimes c_h2_pulseEnergies c_h2_sound c_h2_seen c_s_length c_s_command c_s_position c_s_fault c_s_bytes c_s_numbers c_w_near c_w_far c_w_echoes c_w_totals c_p_result c_p_endTime c_q_count c_q_front c_q_least c_q_window c_q_pulses c_q_lengths c_q_fractions c_q_pulseTimes c_q_pulseEnergies c_t_near c_t_far c_t_echoes c_t_totals) lv pc (.int x1 :: .ref (a 3) :: rest) := by
  obtain ⟨o_n_lengths, hc, hk⟩ := bd_some hf
  exact v_callS2 (As := [.ref (a 3), .int x1]) (rest := rest) 2 C (CapOK.z X) (fun D => Cm_B_swapEnds_n_lengths hc) hl wcode_yX1_swapEnds_cX1_swapEnds_5_none wstatic_yX1_swapEnds winitialized_RX1 (by decide +kernel) hroom ⟨rfl, rfl⟩ rfl hst hdg (kk o_n_lengths hk)
set_option maxRecDepth 100000 in
theorem Cc_B_swapEnds_n_fractions {x1 : Int32} {cc : ByteArray} {own : String} {ret : Option FieldType} {nl fr lo pc ix : Nat} {lv : List (Nat × Value)} {rest : List Value} {β : Type} {K : (Nat → Int32) → Option β} {oo : β} (hl : Cond.methodLink own ix yX1_swapEnds ∈ wsG) (C : Cx X (SFG E) T cc own ret nl fr lo) (hdg : decode cc pc = .ok (.invokestatic ix, 3)) (hroom : 0 + 1 ≤ fr ∧ 8 + (5 + 11) + 0 ≤ lo) (hst : (rest.map fun v => v.category).sum ≤ 8) (hf : bd (Cf_B_swapEnds_n_fractions c_n_fractions x1) K = some oo) (kk : ∀ (o_n_fractions : Nat → Int32), K o_n_fractions = some oo → V X 0 0 (wL E a T c_waveIsFresh c_peelingIsFresh c_n_count c_n_front c_n_least c_n_window c_n_pulses c_n_lengths o_n_fractions c_n_pulseTimes c_n_pulseEnergies c_n_sound c_n_seen c_hcount c_hp c_h0_count c_h0_front c_h0_least c_h0_window c_h0_pulses c_h0_lengths c_h0_fractions c_h0_pulseTimes c_h0_pulseEnergies c_h0_sound c_h0_seen c_h1_count c_h1_front c_h1_least c_h1_window c_h1_pulses c_h1_lengths c_h1_fractions c_h1_pulseTimes c_h1_pulseEnergies c_h1_sound c_h1_seen c_h2_count c_h2_front c_h2_least c_h2_window c_h2_pulses c_h2_lengths c_h2_fractions c_h2_pulseTimes c_h2_pulseEnergies c_h2_sound c_h2_seen c_s_length c_s_command c_s_position c_s_fault c_s_bytes c_s_numbers c_w_near c_w_far c_w_echoes c_w_totals c_p_result c_p_endTime c_q_count c_q_front c_q_least c_q_window c_q_pulses c_q_lengths c_q_fractions c_q_pulseTimes c_q_pulseEnergies c_t_near c_t_far c_t_echoes c_t_totals) lv (pc + 3) rest) : V X 0 0 (wL E a T c_waveIsFresh c_peelingIsFresh c_n_count c_n_front c_n_least c_n_window c_n_pulses c_n_lengths c_n_fractions c_n_pulseTimes c_n_pulseEnergies c_n_sound c_n_seen c_hcount c_hp c_h0_count c_h0_front c_h0_least c_h0_window c_h0_pulses c_h0_lengths c_h0_fractions c_h0_pulseTimes c_h0_pulseEnergies c_h0_sound c_h0_seen c_h1_count c_h1_front c_h1_least c_h1_window c_h1_pulses c_h1_lengths c_h1_fractions c_h1_pulseTimes c_h1_pulseEnergies c_h1_sound c_h1_seen c_h2_count c_h2_front c_h2_least c_h2_window c_h2_pulses c_h2_lengths c_h2_fractions c_h2_pulseTimes c_h2_pulseEnergies c_h2_sound c_h2_seen c_s_length c_s_command c_s_position c_s_fault c_s_bytes c_s_numbers c_w_near c_w_far c_w_echoes c_w_totals c_p_result c_p_endTime c_q_count c_q_front c_q_least c_q_window c_q_pulses c_q_lengths c_q_fractions c_q_pulseTimes c_q_pulseEnergies c_t_near c_t_far c_t_echoes c_t_totals) lv pc (.int x1 :: .ref (a 4) :: rest) := by
  obtain ⟨o_n_fractions, hc, hk⟩ := bd_some hf
  exact v_callS2 (As := [.ref (a 4), .int x1]) (rest := rest) 2 C (CapOK.z X) (fun D => Cm_B_swapEnds_n_fractions hc) hl wcode_yX1_swapEnds_cX1_swapEnds_5_none wstatic_yX1_swapEnds winitialized_RX1 (by decide +kernel) hroom ⟨rfl, rfl⟩ rfl hst hdg (kk o_n_fractions hk)
def Cf_B_turnRound_n (c_n_count : Int32) (c_n_lengths : Nat → Int32) (c_n_fractions : Nat → Int32) : Option ((Nat → Int32) × (Nat → Int32)) :=
  bd (Cf_B_swapEnds_n_lengths c_n_lengths c_n_count) fun n_lengths_8 =>
  nm (c_n_count - (1 : Int32)) fun z20 =>
  bd (Cf_B_swapEnds_n_fractions c_n_fractions z20) fun n_fractions_21 =>
  some (n_lengths_8, n_fractions_21)
set_option maxRecDepth 100000 in
set_option maxHeartbeats 4000000 in
theorem Cb_B_turnRound_n (C : Cx X (SFG E) T cX1_turnRound RX1 none 1 1 24)  {o_n_lengths : Nat → Int32} {o_n_fractions : Nat → Int32} (hret : RetOK X 0 0 none (wL E a T c_waveIsFresh c_peelingIsFresh c_n_count c_n_front c_n_least c_n_window c_n_pulses o_n_lengths o_n_fractions c_n_pulseTimes c_n_pulseEnergies c_n_sound c_n_seen c_hcount c_hp c_h0_count c_h0_front c_h0_least c_h0_window c_h0_pulses c_h0_lengths c_h0_fractions c_h0_pulseTimes c_h0_pulseEnergies c_h0_sound c_h0_seen c_h1_count c_h1_front c_h1_least c_h1_window c_h1_pulses c_h1_lengths c_h1_fractions c_h1_pulseTimes c_h1_pulseEnergies c_h1_sound c_h1_seen c_h2_count c_h2_front c_h2_least c_h2_window c_h2_pulses c_h2_lengths c_h2_fractions c_h2_pulseTimes c_h2_pulseEnergies c_h2_sound c_h2_seen c_s_length c_s_command c_s_position c_s_fault c_s_bytes c_s_numbers c_w_near c_w_far c_w_echoes c_w_totals c_p_result c_p_endTime c_q_count c_q_front c_q_least c_q_window c_q_pulses c_q_lengths c_q_fractions c_q_pulseTimes c_q_pulseEnergies c_t_near c_t_far c_t_echoes c_t_totals)) (hf : Cf_B_turnRound_n c_n_count c_n_lengths c_n_fractions = some (o_n_lengths, o_n_fractions)) : V X 0 0 (wL E a T c_waveIsFresh c_peelingIsFresh c_n_count c_n_front c_n_least c_n_window c_n_pulses c_n_lengths c_n_fractions c_n_pulseTimes c_n_pulseEnergies c_n_sound c_n_seen c_hcount c_hp c_h0_count c_h0_front c_h0_least c_h0_window c_h0_pulses c_h0_lengths c_h0_fractions c_h0_pulseTimes c_h0_pulseEnergies c_h0_sound c_h0_seen c_h1_count c_h1_front c_h1_least c_h1_window c_h1_pulses c_h1_lengths c_h1_fractions c_h1_pulseTimes c_h1_pulseEnergies c_h1_sound c_h1_seen c_h2_count c_h2_front c_h2_least c_h2_window c_h2_pulses c_h2_lengths c_h2_fractions c_h2_pulseTimes c_h2_pulseEnergies c_h2_sound c_h2_seen c_s_length c_s_command c_s_position c_s_fault c_s_bytes c_s_numbers c_w_near c_w_far c_w_echoes c_w_totals c_p_result c_p_endTime c_q_count c_q_front c_q_least c_q_window c_q_pulses c_q_lengths c_q_fractions c_q_pulseTimes c_q_pulseEnergies c_t_near c_t_far c_t_echoes c_t_totals) [(0, .ref (a 2))] 0 [] := by
  unfold Cf_B_turnRound_n at hf
  refine v_aload_n 0 C dX1_turnRound_0 rfl rfl ?_
  refine Cg_2_lengths wfieldLink_RX1_15_LineEchoes_Bench_lengths_I C dX1_turnRound_1 ?_
  refine v_aload_n 0 C dX1_turnRound_4 rfl rfl ?_
  refine Cg_2_count wfieldLink_RX1_9_LineEchoes_Bench_count_I C dX1_turnRound_5 ?_
  refine Cc_B_swapEnds_n_lengths wmethodLink_RX1_81_yX1_swapEnds C dX1_turnRound_8 (by decide) (Nat.le_of_ble_eq_true rfl) hf (fun n_lengths_8 hf => ?_)
  refine v_aload_n 0 C dX1_turnRound_11 rfl rfl ?_
  refine Cg_2_fractions wfieldLink_RX1_19_LineEchoes_Bench_fractions_I C dX1_turnRound_12 ?_
  refine v_aload_n 0 C dX1_turnRound_15 rfl rfl ?_
  refine Cg_2_count wfieldLink_RX1_9_LineEchoes_Bench_count_I C dX1_turnRound_16 ?_
  refine v_iconst (v := 1) C dX1_turnRound_19 (by decide) ?_
  refine v_isub C dX1_turnRound_20 hf (fun z20 hf => ?_)
  refine Cc_B_swapEnds_n_fractions wmethodLink_RX1_81_yX1_swapEnds C dX1_turnRound_21 (by decide) (Nat.le_of_ble_eq_true rfl) hf (fun n_fractions_21 hf => ?_)
  cases hf
  exact v_vret C hret dX1_turnRound_24
set_option maxRecDepth 100000 in
set_option maxHeartbeats 4000000 in
theorem Cm_B_turnRound_n {D : va_G}  {o_n_lengths : Nat → Int32} {o_n_fractions : Nat → Int32} (hf : Cf_B_turnRound_n c_n_count c_n_lengths c_n_fractions = some (o_n_lengths, o_n_fractions)) : MetM (SFG E) yX1_turnRound cX1_turnRound 1 none { frames := 1, cells := 0, slots := 0, locals := 24 } D T [.ref (a 2)] (wL E a T c_waveIsFresh c_peelingIsFresh c_n_count c_n_front c_n_least c_n_window c_n_pulses c_n_lengths c_n_fractions c_n_pulseTimes c_n_pulseEnergies c_n_sound c_n_seen c_hcount c_hp c_h0_count c_h0_front c_h0_least c_h0_window c_h0_pulses c_h0_lengths c_h0_fractions c_h0_pulseTimes c_h0_pulseEnergies c_h0_sound c_h0_seen c_h1_count c_h1_front c_h1_least c_h1_window c_h1_pulses c_h1_lengths c_h1_fractions c_h1_pulseTimes c_h1_pulseEnergies c_h1_sound c_h1_seen c_h2_count c_h2_front c_h2_least c_h2_window c_h2_pulses c_h2_lengths c_h2_fractions c_h2_pulseTimes c_h2_pulseEnergies c_h2_sound c_h2_seen c_s_length c_s_command c_s_position c_s_fault c_s_bytes c_s_numbers c_w_near c_w_far c_w_echoes c_w_totals c_p_result c_p_endTime c_q_count c_q_front c_q_least c_q_window c_q_pulses c_q_lengths c_q_fractions c_q_pulseTimes c_q_pulseEnergies c_t_near c_t_far c_t_echoes c_t_totals) none (wL E a T c_waveIsFresh c_peelingIsFresh c_n_count c_n_front c_n_least c_n_window c_n_pulses o_n_lengths o_n_fractions c_n_pulseTimes c_n_pulseEnergies c_n_sound c_n_seen c_hcount c_hp c_h0_count c_h0_front c_h0_least c_h0_window c_h0_pulses c_h0_lengths c_h0_fractions c_h0_pulseTimes c_h0_pulseEnergies c_h0_sound c_h0_seen c_h1_count c_h1_front c_h1_least c_h1_window c_h1_pulses c_h1_lengths c_h1_fractions c_h1_pulseTimes c_h1_pulseEnergies c_h1_sound c_h1_seen c_h2_count c_h2_front c_h2_least c_h2_window c_h2_pulses c_h2_lengths c_h2_fractions c_h2_pulseTimes c_h2_pulseEnergies c_h2_sound c_h2_seen c_s_length c_s_command c_s_position c_s_fault c_s_bytes c_s_numbers c_w_near c_w_far c_w_echoes c_w_totals c_p_result c_p_endTime c_q_count c_q_front c_q_least c_q_window c_q_pulses c_q_lengths c_q_fractions c_q_pulseTimes c_q_pulseEnergies c_t_near c_t_far c_t_echoes c_t_totals) :=
  MetM.of [(0, .ref (a 2))] (by decide) (Nat.le_of_ble_eq_true rfl) rfl (fun X C hret => Cb_B_turnRound_n C hret hf)
def Cf_B_appendPulse_n_38 (c_n_pulses : Int32) (c_n_pulseTimes : Nat → Int32) (c_n_pulseEnergies : Nat → Int32) : Option (Int32 × (Nat → Int32) × (Nat → Int32) × Int32) :=
  some (c_n_pulses, c_n_pulseTimes, c_n_pulseEnergies, c_n_pulses)
set_option maxRecDepth 100000 in
set_option maxHeartbeats 4000000 in
theorem Cb_B_appendPulse_n_38 (C : Cx X (SFG E) T cX1_appendPulse RX1 (some .int) 3 0 0)  {o_n_pulses : Int32} {o_n_pulseTimes : Nat → Int32} {o_n_pulseEnergies : Nat → Int32} {r : Int32} (hret : RetOK X 0 0 (some (.int r)) (wL E a T c_waveIsFresh c_peelingIsFresh c_n_count c_n_front c_n_least c_n_window o_n_pulses c_n_lengths c_n_fractions o_n_pulseTimes o_n_pulseEnergies c_n_sound c_n_seen c_hcount c_hp c_h0_count c_h0_front c_h0_least c_h0_window c_h0_pulses c_h0_lengths c_h0_fractions c_h0_pulseTimes c_h0_pulseEnergies c_h0_sound c_h0_seen c_h1_count c_h1_front c_h1_least c_h1_window c_h1_pulses c_h1_lengths c_h1_fractions c_h1_pulseTimes c_h1_pulseEnergies c_h1_sound c_h1_seen c_h2_count c_h2_front c_h2_least c_h2_window c_h2_pulses c_h2_lengths c_h2_fractions c_h2_pulseTimes c_h2_pulseEnergies c_h2_sound c_h2_seen c_s_length c_s_command c_s_position c_s_fault c_s_bytes c_s_numbers c_w_near c_w_far c_w_echoes c_w_totals c_p_result c_p_endTime c_q_count c_q_front c_q_least c_q_window c_q_pulses c_q_lengths c_q_fractions c_q_pulseTimes c_q_pulseEnergies c_t_near c_t_far c_t_echoes c_t_totals)) (hf : Cf_B_appendPulse_n_38 c_n_pulses c_n_pulseTimes c_n_pulseEnergies = some (o_n_pulses, o_n_pulseTimes, o_n_pulseEnergies, r)) : V X 0 0 (wL E a T c_waveIsFresh c_peelingIsFresh c_n_count c_n_front c_n_least c_n_window c_n_pulses c_n_lengths c_n_fractions c_n_pulseTimes c_n_pulseEnergies c_n_sound c_n_seen c_hcount c_hp c_h0_count c_h0_front c_h0_least c_h0_window c_h0_pulses c_h0_lengths c_h0_fractions c_h0_pulseTimes c_h0_pulseEnergies c_h0_sound c_h0_seen c_h1_count c_h1_front c_h1_least c_h1_window c_h1_pulses c_h1_lengths c_h1_fractions c_h1_pulseTimes c_h1_pulseEnergies c_h1_sound c_h1_seen c_h2_count c_h2_front c_h2_least c_h2_window c_h2_pulses c_h2_lengths c_h2_fractions c_h2_pulseTimes c_h2_pulseEnergies c_h2_sound c_h2_seen c_s_length c_s_command c_s_position c_s_fault c_s_bytes c_s_numbers c_w_near c_w_far c_w_echoes c_w_totals c_p_result c_p_endTime c_q_count c_q_front c_q_least c_q_window c_q_pulses c_q_lengths c_q_fractions c_q_pulseTimes c_q_pulseEnergies c_t_near c_t_far c_t_echoes c_t_totals) [(0, .ref (a 2))] 38 [] := by
  unfold Cf_B_appendPulse_n_38 at hf
  refine v_aload_n 0 C dX1_appendPulse_38 rfl rfl ?_
  refine Cg_2_pulses wfieldLink_RX1_31_LineEchoes_Bench_pulses_I C dX1_appendPulse_39 ?_
  cases hf
  exact v_iret C hret dX1_appendPulse_42
def Cf_B_appendPulse_n (c_n_pulses : Int32) (c_n_pulseTimes : Nat → Int32) (c_n_pulseEnergies : Nat → Int32) (x1 : Int32) (x2 : Int32) : Option (Int32 × (Nat → Int32) × (Nat → Int32) × Int32) :=
  if (4 : Int32) ≤ c_n_pulses then
    Cf_B_appendPulse_n_38 c_n_pulses c_n_pulseTimes c_n_pulseEnergies
  else
    chk (inb c_n_pulses 4) <| nm (upd c_n_pulseTimes c_n_pulses.toNatClampNeg x1) fun n_pulseTimes_17 =>
    chk (inb c_n_pulses 4) <| nm (upd c_n_pulseEnergies c_n_pulses.toNatClampNeg x2) fun n_pulseEnergies_27 =>
    nm (c_n_pulses + (1 : Int32)) fun z34 =>
    Cf_B_appendPulse_n_38 z34 n_pulseTimes_17 n_pulseEnergies_27
set_option maxRecDepth 100000 in
set_option maxHeartbeats 4000000 in
theorem Cb_B_appendPulse_n (C : Cx X (SFG E) T cX1_appendPulse RX1 (some .int) 3 0 0) {x1 : Int32} {x2 : Int32} {o_n_pulses : Int32} {o_n_pulseTimes : Nat → Int32} {o_n_pulseEnergies : Nat → Int32} {r : Int32} (hret : RetOK X 0 0 (some (.int r)) (wL E a T c_waveIsFresh c_peelingIsFresh c_n_count c_n_front c_n_least c_n_window o_n_pulses c_n_lengths c_n_fractions o_n_pulseTimes o_n_pulseEnergies c_n_sound c_n_seen c_hcount c_hp c_h0_count c_h0_front c_h0_least c_h0_window c_h0_pulses c_h0_lengths c_h0_fractions c_h0_pulseTimes c_h0_pulseEnergies c_h0_sound c_h0_seen c_h1_count c_h1_front c_h1_least c_h1_window c_h1_pulses c_h1_lengths c_h1_fractions c_h1_pulseTimes c_h1_pulseEnergies c_h1_sound c_h1_seen c_h2_count c_h2_front c_h2_least c_h2_window c_h2_pulses c_h2_lengths c_h2_fractions c_h2_pulseTimes c_h2_pulseEnergies c_h2_sound c_h2_seen c_s_length c_s_command c_s_position c_s_fault c_s_bytes c_s_numbers c_w_near c_w_far c_w_echoes c_w_totals c_p_result c_p_endTime c_q_count c_q_front c_q_least c_q_window c_q_pulses c_q_lengths c_q_fractions c_q_pulseTimes c_q_pulseEnergies c_t_near c_t_far c_t_echoes c_t_totals)) (hf : Cf_B_appendPulse_n c_n_pulses c_n_pulseTimes c_n_pulseEnergies x1 x2 = some (o_n_pulses, o_n_pulseTimes, o_n_pulseEnergies, r)) : V X 0 0 (wL E a T c_waveIsFresh c_peelingIsFresh c_n_count c_n_front c_n_least c_n_window c_n_pulses c_n_lengths c_n_fractions c_n_pulseTimes c_n_pulseEnergies c_n_sound c_n_seen c_hcount c_hp c_h0_count c_h0_front c_h0_least c_h0_window c_h0_pulses c_h0_lengths c_h0_fractions c_h0_pulseTimes c_h0_pulseEnergies c_h0_sound c_h0_seen c_h1_count c_h1_front c_h1_least c_h1_window c_h1_pulses c_h1_lengths c_h1_fractions c_h1_pulseTimes c_h1_pulseEnergies c_h1_sound c_h1_seen c_h2_count c_h2_front c_h2_least c_h2_window c_h2_pulses c_h2_lengths c_h2_fractions c_h2_pulseTimes c_h2_pulseEnergies c_h2_sound c_h2_seen c_s_length c_s_command c_s_position c_s_fault c_s_bytes c_s_numbers c_w_near c_w_far c_w_echoes c_w_totals c_p_result c_p_endTime c_q_count c_q_front c_q_least c_q_window c_q_pulses c_q_lengths c_q_fractions c_q_pulseTimes c_q_pulseEnergies c_t_near c_t_far c_t_echoes c_t_totals) [(0, .ref (a 2)), (1, .int x1), (2, .int x2)] 0 [] := by
  unfold Cf_B_appendPulse_n at hf
  refine v_aload_n 0 C dX1_appendPulse_0 rfl rfl ?_
  refine Cg_2_pulses wfieldLink_RX1_31_LineEchoes_Bench_pulses_I C dX1_appendPulse_1 ?_
  refine v_iconst (v := 4) C dX1_appendPulse_4 (by decide) ?_
  refine v_icmp_ge 38 C dX1_appendPulse_5 (by decide) hf (fun c hf => ?_) (fun c hf => ?_)
  · refine v_lv [(0, .ref (a 2))] [0] rfl ?_
    exact Cb_B_appendPulse_n_38 C hret hf
  · refine v_aload_n 0 C dX1_appendPulse_8 rfl rfl ?_
    refine Cg_2_pulseTimes wfieldLink_RX1_34_LineEchoes_Bench_pulseTimes_I C dX1_appendPulse_9 ?_
    refine v_aload_n 0 C dX1_appendPulse_12 rfl rfl ?_
    refine Cg_2_pulses wfieldLink_RX1_31_LineEchoes_Bench_pulses_I C dX1_appendPulse_13 ?_
    refine v_iload_n 1 C dX1_appendPulse_16 rfl rfl ?_
    refine Cas_5 C dX1_appendPulse_17 hf (fun n_pulseTimes_17 hf => ?_)
    refine v_aload_n 0 C dX1_appendPulse_18 rfl rfl ?_
    refine Cg_2_pulseEnergies wfieldLink_RX1_37_LineEchoes_Bench_pulseEnergies_I C dX1_appendPulse_19 ?_
    refine v_aload_n 0 C dX1_appendPulse_22 rfl rfl ?_
    refine Cg_2_pulses wfieldLink_RX1_31_LineEchoes_Bench_pulses_I C dX1_appendPulse_23 ?_
    refine v_iload_n 2 C dX1_appendPulse_26 rfl rfl ?_
    refine Cas_6 C dX1_appendPulse_27 hf (fun n_pulseEnergies_27 hf => ?_)
    refine v_aload_n 0 C dX1_appendPulse_28 rfl rfl ?_
    refine v_dup C dX1_appendPulse_29 rfl ?_
    refine Cg_2_pulses wfieldLink_RX1_31_LineEchoes_Bench_pulses_I C dX1_appendPulse_30 ?_
    refine v_iconst (v := 1) C dX1_appendPulse_33 (by decide) ?_
    refine v_iadd C dX1_appendPulse_34 hf (fun z34 hf => ?_)
    refine Cp_2_pulses wfieldLink_RX1_31_LineEchoes_Bench_pulses_I C dX1_appendPulse_35 ?_
    refine v_lv [(0, .ref (a 2))] [0] rfl ?_
    exact Cb_B_appendPulse_n_38 C hret hf
set_option maxRecDepth 100000 in
set_option maxHeartbeats 4000000 in
theorem Cm_B_appendPulse_n {D : va_G} {x1 : Int32} {x2 : Int32} {o_n_pulses : Int32} {o_n_pulseTimes : Nat → Int32} {o_n_pulseEnergies : Nat → Int32} {r : Int32} (hf : Cf_B_appendPulse_n c_n_pulses c_n_pulseTimes c_n_pulseEnergies x1 x2 = some (o_n_pulses, o_n_pulseTimes, o_n_pulseEnergies, r)) : MetM (SFG E) yX1_appendPulse cX1_appendPulse 3 (some .int) { frames := 0, cells := 0, slots := 0, locals := 0 } D T [.ref (a 2), .int x1, .int x2] (wL E a T c_waveIsFresh c_peelingIsFresh c_n_count c_n_front c_n_least c_n_window c_n_pulses c_n_lengths c_n_fractions c_n_pulseTimes c_n_pulseEnergies c_n_sound c_n_seen c_hcount c_hp c_h0_count c_h0_front c_h0_least c_h0_window c_h0_pulses c_h0_lengths c_h0_fractions c_h0_pulseTimes c_h0_pulseEnergies c_h0_sound c_h0_seen c_h1_count c_h1_front c_h1_least c_h1_window c_h1_pulses c_h1_lengths c_h1_fractions c_h1_pulseTimes c_h1_pulseEnergies c_h1_sound c_h1_seen c_h2_count c_h2_front c_h2_least c_h2_window c_h2_pulses c_h2_lengths c_h2_fractions c_h2_pulseTimes c_h2_pulseEnergies c_h2_sound c_h2_seen c_s_length c_s_command c_s_position c_s_fault c_s_bytes c_s_numbers c_w_near c_w_far c_w_echoes c_w_totals c_p_result c_p_endTime c_q_count c_q_front c_q_least c_q_window c_q_pulses c_q_lengths c_q_fractions c_q_pulseTimes c_q_pulseEnergies c_t_near c_t_far c_t_echoes c_t_totals) (some (.int r)) (wL E a T c_waveIsFresh c_peelingIsFresh c_n_count c_n_front c_n_least c_n_window o_n_pulses c_n_lengths c_n_fractions o_n_pulseTimes o_n_pulseEnergies c_n_sound c_n_seen c_hcount c_hp c_h0_count c_h0_front c_h0_least c_h0_window c_h0_pulses c_h0_lengths c_h0_fractions c_h0_pulseTimes c_h0_pulseEnergies c_h0_sound c_h0_seen c_h1_count c_h1_front c_h1_least c_h1_window c_h1_pulses c_h1_lengths c_h1_fractions c_h1_pulseTimes c_h1_pulseEnergies c_h1_sound c_h1_seen c_h2_count c_h2_front c_h2_least c_h2_window c_h2_pulses c_h2_lengths c_h2_fractions c_h2_pulseTimes c_h2_pulseEnergies c_h2_sound c_h2_seen c_s_length c_s_command c_s_position c_s_fault c_s_bytes c_s_numbers c_w_near c_w_far c_w_echoes c_w_totals c_p_result c_p_endTime c_q_count c_q_front c_q_least c_q_window c_q_pulses c_q_lengths c_q_fractions c_q_pulseTimes c_q_pulseEnergies c_t_near c_t_far c_t_echoes c_t_totals) :=
  MetM.of [(0, .ref (a 2)), (1, .int x1), (2, .int x2)] (by decide) (Nat.le_of_ble_eq_true rfl) rfl (fun X C hret => Cb_B_appendPulse_n C hret hf)
def Cl_B_cutPulse_n_2 (c_n_pulses : Int32) : Nat → (Nat → Int32) → (Nat → Int32) → Int32 → Option ((Nat → Int32) × (Nat → Int32))
  | 0, _, _, _ => none
  | n + 1, c_n_pulseTimes, c_n_pulseEnergies, x2 =>
    nm (c_n_pulses - (1 : Int32)) fun z8 =>
    if z8 ≤ x2 then
      some (c_n_pulseTimes, c_n_pulseEnergies)
    else
      nm (x2 + (1 : Int32)) fun z23 =>
      chk (inb z23 4) <| nm (c_n_pulseTimes z23.toNatClampNeg) fun z24 =>
      chk (inb x2 4) <| nm (upd c_n_pulseTimes x2.toNatClampNeg z24) fun n_pulseTimes_25 =>
      nm (x2 + (1 : Int32)) fun z37 =>
      chk (inb z37 4) <| nm (c_n_pulseEnergies z37.toNatClampNeg) fun z38 =>
      chk (inb x2 4) <| nm (upd c_n_pulseEnergies x2.toNatClampNeg z38) fun n_pulseEnergies_39 =>
      nm (x2 + (1 : Int32)) fun x2_40 =>
      Cl_B_cutPulse_n_2 c_n_pulses n n_pulseTimes_25 n_pulseEnergies_39 x2_40
set_option maxRecDepth 100000 in
set_option maxHeartbeats 4000000 in
theorem Ck_B_cutPulse_n_2 (C : Cx X (SFG E) T cX1_cutPulse RX1 (some .int) 3 0 0)  {o_n_pulseTimes : Nat → Int32} {o_n_pulseEnergies : Nat → Int32} (hk : V X 0 0 (wL E a T c_waveIsFresh c_peelingIsFresh c_n_count c_n_front c_n_least c_n_window c_n_pulses c_n_lengths c_n_fractions o_n_pulseTimes o_n_pulseEnergies c_n_sound c_n_seen c_hcount c_hp c_h0_count c_h0_front c_h0_least c_h0_window c_h0_pulses c_h0_lengths c_h0_fractions c_h0_pulseTimes c_h0_pulseEnergies c_h0_sound c_h0_seen c_h1_count c_h1_front c_h1_least c_h1_window c_h1_pulses c_h1_lengths c_h1_fractions c_h1_pulseTimes c_h1_pulseEnergies c_h1_sound c_h1_seen c_h2_count c_h2_front c_h2_least c_h2_window c_h2_pulses c_h2_lengths c_h2_fractions c_h2_pulseTimes c_h2_pulseEnergies c_h2_sound c_h2_seen c_s_length c_s_command c_s_position c_s_fault c_s_bytes c_s_numbers c_w_near c_w_far c_w_echoes c_w_totals c_p_result c_p_endTime c_q_count c_q_front c_q_least c_q_window c_q_pulses c_q_lengths c_q_fractions c_q_pulseTimes c_q_pulseEnergies c_t_near c_t_far c_t_echoes c_t_totals) [(0, .ref (a 2))] 46 []) : ∀ (n : Nat) (c_n_pulseTimes : Nat → Int32) (c_n_pulseEnergies : Nat → Int32) (x2 : Int32), Cl_B_cutPulse_n_2 c_n_pulses n c_n_pulseTimes c_n_pulseEnergies x2 = some (o_n_pulseTimes, o_n_pulseEnergies) → V X 0 0 (wL E a T c_waveIsFresh c_peelingIsFresh c_n_count c_n_front c_n_least c_n_window c_n_pulses c_n_lengths c_n_fractions c_n_pulseTimes c_n_pulseEnergies c_n_sound c_n_seen c_hcount c_hp c_h0_count c_h0_front c_h0_least c_h0_window c_h0_pulses c_h0_lengths c_h0_fractions c_h0_pulseTimes c_h0_pulseEnergies c_h0_sound c_h0_seen c_h1_count c_h1_front c_h1_least c_h1_window c_h1_pulses c_h1_lengths c_h1_fractions c_h1_pulseTimes c_h1_pulseEnergies c_h1_sound c_h1_seen c_h2_count c_h2_front c_h2_least c_h2_window c_h2_pulses c_h2_lengths c_h2_fractions c_h2_pulseTimes c_h2_pulseEnergies c_h2_sound c_h2_seen c_s_length c_s_command c_s_position c_s_fault c_s_bytes c_s_numbers c_w_near c_w_far c_w_echoes c_w_totals c_p_result c_p_endTime c_q_count c_q_front c_q_least c_q_window c_q_pulses c_q_lengths c_q_fractions c_q_pulseTimes c_q_pulseEnergies c_t_near c_t_far c_t_echoes c_t_totals) [(0, .ref (a 2)), (2, .int x2)] 2 [] := by
  intro n
  induction n with
  | zero =>
    intro _ _ _ hf
    cases hf
  | succ n hrec =>
    intro c_n_pulseTimes c_n_pulseEnergies x2 hf
    rw [Cl_B_cutPulse_n_2] at hf
    refine v_iload_n 1 C dX1_cutPulse_2 rfl rfl ?_
    refine v_aload_n 0 C dX1_cutPulse_3 rfl rfl ?_
    refine Cg_2_pulses wfieldLink_RX1_31_LineEchoes_Bench_pulses_I C dX1_cutPulse_4 ?_
    refine v_iconst (v := 1) C dX1_cutPulse_7 (by decide) ?_
    refine v_isub C dX1_cutPulse_8 hf (fun z8 hf => ?_)
    refine v_icmp_ge 46 C dX1_cutPulse_9 (by decide) hf (fun c hf => ?_) (fun c hf => ?_)
    · refine v_lv [(0, .ref (a 2))] [0] rfl ?_
      cases hf
      exact hk
    · refine v_aload_n 0 C dX1_cutPulse_12 rfl rfl ?_
      refine Cg_2_pulseTimes wfieldLink_RX1_34_LineEchoes_Bench_pulseTimes_I C dX1_cutPulse_13 ?_
      refine v_iload_n 1 C dX1_cutPulse_16 rfl rfl ?_
      refine v_aload_n 0 C dX1_cutPulse_17 rfl rfl ?_
      refine Cg_2_pulseTimes wfieldLink_RX1_34_LineEchoes_Bench_pulseTimes_I C dX1_cutPulse_18 ?_
      refine v_iload_n 1 C dX1_cutPulse_21 rfl rfl ?_
      refine v_iconst (v := 1) C dX1_cutPulse_22 (by decide) ?_
      refine v_iadd C dX1_cutPulse_23 hf (fun z23 hf => ?_)
      refine Cal_5 C dX1_cutPulse_24 hf (fun z24 hf => ?_)
      refine Cas_5 C dX1_cutPulse_25 hf (fun n_pulseTimes_25 hf => ?_)
      refine v_aload_n 0 C dX1_cutPulse_26 rfl rfl ?_
      refine Cg_2_pulseEnergies wfieldLink_RX1_37_LineEchoes_Bench_pulseEnergies_I C dX1_cutPulse_27 ?_
      refine v_iload_n 1 C dX1_cutPulse_30 rfl rfl ?_
      refine v_aload_n 0 C dX1_cutPulse_31 rfl rfl ?_
      refine Cg_2_pulseEnergies wfieldLink_RX1_37_LineEchoes_Bench_pulseEnergies_I C dX1_cutPulse_32 ?_
      refine v_iload_n 1 C dX1_cutPulse_35 rfl rfl ?_
      refine v_iconst (v := 1) C dX1_cutPulse_36 (by decide) ?_
      refine v_iadd C dX1_cutPulse_37 hf (fun z37 hf => ?_)
      refine Cal_6 C dX1_cutPulse_38 hf (fun z38 hf => ?_)
      refine Cas_6 C dX1_cutPulse_39 hf (fun n_pulseEnergies_39 hf => ?_)
      refine v_iinc (fun x2_40 => [(0, .ref (a 2)), (2, .int x2_40)]) [1, 0] C dX1_cutPulse_40 (j := 1) rfl (dv := 1) (by decide) (by decide) (fun _ => rfl) hf (fun x2_40 hf => ?_)
      refine v_goto 2 C dX1_cutPulse_43 (by decide) ?_
      exact hrec _ _ _ hf
def Cf_B_cutPulse_n (c_n_pulses : Int32) (c_n_pulseTimes : Nat → Int32) (c_n_pulseEnergies : Nat → Int32) (x1 : Int32) : Option (Int32 × (Nat → Int32) × (Nat → Int32) × Int32) :=
  bd (Cl_B_cutPulse_n_2 c_n_pulses FUEL c_n_pulseTimes c_n_pulseEnergies x1) fun (o_n_pulseTimes_2, o_n_pulseEnergies_2) =>
  nm (c_n_pulses - (1 : Int32)) fun z52 =>
  some (z52, o_n_pulseTimes_2, o_n_pulseEnergies_2, z52)
set_option maxRecDepth 100000 in
set_option maxHeartbeats 4000000 in
theorem Cb_B_cutPulse_n (C : Cx X (SFG E) T cX1_cutPulse RX1 (some .int) 3 0 0) {x1 : Int32} {o_n_pulses : Int32} {o_n_pulseTimes : Nat → Int32} {o_n_pulseEnergies : Nat → Int32} {r : Int32} (hret : RetOK X 0 0 (some (.int r)) (wL E a T c_waveIsFresh c_peelingIsFresh c_n_count c_n_front c_n_least c_n_window o_n_pulses c_n_lengths c_n_fractions o_n_pulseTimes o_n_pulseEnergies c_n_sound c_n_seen c_hcount c_hp c_h0_count c_h0_front c_h0_least c_h0_window c_h0_pulses c_h0_lengths c_h0_fractions c_h0_pulseTimes c_h0_pulseEnergies c_h0_sound c_h0_seen c_h1_count c_h1_front c_h1_least c_h1_window c_h1_pulses c_h1_lengths c_h1_fractions c_h1_pulseTimes c_h1_pulseEnergies c_h1_sound c_h1_seen c_h2_count c_h2_front c_h2_least c_h2_window c_h2_pulses c_h2_lengths c_h2_fractions c_h2_pulseTimes c_h2_pulseEnergies c_h2_sound c_h2_seen c_s_length c_s_command c_s_position c_s_fault c_s_bytes c_s_numbers c_w_near c_w_far c_w_echoes c_w_totals c_p_result c_p_endTime c_q_count c_q_front c_q_least c_q_window c_q_pulses c_q_lengths c_q_fractions c_q_pulseTimes c_q_pulseEnergies c_t_near c_t_far c_t_echoes c_t_totals)) (hf : Cf_B_cutPulse_n c_n_pulses c_n_pulseTimes c_n_pulseEnergies x1 = some (o_n_pulses, o_n_pulseTimes, o_n_pulseEnergies, r)) : V X 0 0 (wL E a T c_waveIsFresh c_peelingIsFresh c_n_count c_n_front c_n_least c_n_window c_n_pulses c_n_lengths c_n_fractions c_n_pulseTimes c_n_pulseEnergies c_n_sound c_n_seen c_hcount c_hp c_h0_count c_h0_front c_h0_least c_h0_window c_h0_pulses c_h0_lengths c_h0_fractions c_h0_pulseTimes c_h0_pulseEnergies c_h0_sound c_h0_seen c_h1_count c_h1_front c_h1_least c_h1_window c_h1_pulses c_h1_lengths c_h1_fractions c_h1_pulseTimes c_h1_pulseEnergies c_h1_sound c_h1_seen c_h2_count c_h2_front c_h2_least c_h2_window c_h2_pulses c_h2_lengths c_h2_fractions c_h2_pulseTimes c_h2_pulseEnergies c_h2_sound c_h2_seen c_s_length c_s_command c_s_position c_s_fault c_s_bytes c_s_numbers c_w_near c_w_far c_w_echoes c_w_totals c_p_result c_p_endTime c_q_count c_q_front c_q_least c_q_window c_q_pulses c_q_lengths c_q_fractions c_q_pulseTimes c_q_pulseEnergies c_t_near c_t_far c_t_echoes c_t_totals) [(0, .ref (a 2)), (1, .int x1)] 0 [] := by
  unfold Cf_B_cutPulse_n at hf
  refine v_iload_n 1 C dX1_cutPulse_0 rfl rfl ?_
  refine v_istore_n [(0, .ref (a 2)), (2, .int x1)] [1, 0] C dX1_cutPulse_1 rfl (by decide) rfl ?_
  obtain ⟨⟨o_n_pulseTimes_2, o_n_pulseEnergies_2⟩, hc, hf⟩ := bd_some hf
  refine Ck_B_cutPulse_n_2 C ?_ _ _ _ _ hc
  refine v_aload_n 0 C dX1_cutPulse_46 rfl rfl ?_
  refine v_dup C dX1_cutPulse_47 rfl ?_
  refine Cg_2_pulses wfieldLink_RX1_31_LineEchoes_Bench_pulses_I C dX1_cutPulse_48 ?_
  refine v_iconst (v := 1) C dX1_cutPulse_51 (by decide) ?_
  refine v_isub C dX1_cutPulse_52 hf (fun z52 hf => ?_)
  refine Cp_2_pulses wfieldLink_RX1_31_LineEchoes_Bench_pulses_I C dX1_cutPulse_53 ?_
  refine v_aload_n 0 C dX1_cutPulse_56 rfl rfl ?_
  refine Cg_2_pulses wfieldLink_RX1_31_LineEchoes_Bench_pulses_I C dX1_cutPulse_57 ?_
  cases hf
  exact v_iret C hret dX1_cutPulse_60
set_option maxRecDepth 100000 in
set_option maxHeartbeats 4000000 in
theorem Cm_B_cutPulse_n {D : va_G} {x1 : Int32} {o_n_pulses : Int32} {o_n_pulseTimes : Nat → Int32} {o_n_pulseEnergies : Nat → Int32} {r : Int32} (hf : Cf_B_cutPulse_n c_n_pulses c_n_pulseTimes c_n_pulseEnergies x1 = some (o_n_pulses, o_n_pulseTimes, o_n_pulseEnergies, r)) : MetM (SFG E) yX1_cutPulse cX1_cutPulse 3 (some .int) { frames := 0, cells := 0, slots := 0, locals := 0 } D T [.ref (a 2), .int x1] (wL E a T c_waveIsFresh c_peelingIsFresh c_n_count c_n_front c_n_least c_n_window c_n_pulses c_n_lengths c_n_fractions c_n_pulseTimes c_n_pulseEnergies c_n_sound c_n_seen c_hcount c_hp c_h0_count c_h0_front c_h0_least c_h0_window c_h0_pulses c_h0_lengths c_h0_fractions c_h0_pulseTimes c_h0_pulseEnergies c_h0_sound c_h0_seen c_h1_count c_h1_front c_h1_least c_h1_window c_h1_pulses c_h1_lengths c_h1_fractions c_h1_pulseTimes c_h1_pulseEnergies c_h1_sound c_h1_seen c_h2_count c_h2_front c_h2_least c_h2_window c_h2_pulses c_h2_lengths c_h2_fractions c_h2_pulseTimes c_h2_pulseEnergies c_h2_sound c_h2_seen c_s_length c_s_command c_s_position c_s_fault c_s_bytes c_s_numbers c_w_near c_w_far c_w_echoes c_w_totals c_p_result c_p_endTime c_q_count c_q_front c_q_least c_q_window c_q_pulses c_q_lengths c_q_fractions c_q_pulseTimes c_q_pulseEnergies c_t_near c_t_far c_t_echoes c_t_totals) (some (.int r)) (wL E a T c_waveIsFresh c_peelingIsFresh c_n_count c_n_front c_n_least c_n_window o_n_pulses c_n_lengths c_n_fractions o_n_pulseTimes o_n_pulseEnergies c_n_sound c_n_seen c_hcount c_hp c_h0_count c_h0_front c_h0_least c_h0_window c_h0_pulses c_h0_lengths c_h0_fractions c_h0_pulseTimes c_h0_pulseEnergies c_h0_sound c_h0_seen c_h1_count c_h1_front c_h1_least c_h1_window c_h1_pulses c_h1_lengths c_h1_fractions c_h1_pulseTimes c_h1_pulseEnergies c_h1_sound c_h1_seen c_h2_count c_h2_front c_h2_least c_h2_window c_h2_pulses c_h2_lengths c_h2_fractions c_h2_pulseTimes c_h2_pulseEnergies c_h2_sound c_h2_seen c_s_length c_s_command c_s_position c_s_fault c_s_bytes c_s_numbers c_w_near c_w_far c_w_echoes c_w_totals c_p_result c_p_endTime c_q_count c_q_front c_q_least c_q_window c_q_pulses c_q_lengths c_q_fractions c_q_pulseTimes c_q_pulseEnergies c_t_near c_t_far c_t_echoes c_t_totals) :=
  MetM.of [(0, .ref (a 2)), (1, .int x1)] (by decide) (Nat.le_of_ble_eq_true rfl) rfl (fun X C hret => Cb_B_cutPulse_n C hret hf)
def Cl_B_earliestPulse_n_5 (c_n_pulses : Int32) (c_n_pulseTimes : Nat → Int32) : Nat → Int32 → Int32 → Option Int32
  | 0, _, _ => none
  | n + 1, x1, x2 =>
    if c_n_pulses ≤ x2 then
      some x1
    else
      chk (inb x2 4) <| nm (c_n_pulseTimes x2.toNatClampNeg) fun z19 =>
      nm (if z19 < x1 then z19 else x1) fun z20 =>
      nm (x2 + (1 : Int32)) fun x2_24 =>
      Cl_B_earliestPulse_n_5 c_n_pulses c_n_pulseTimes n z20 x2_24
set_option maxRecDepth 100000 in
set_option maxHeartbeats 4000000 in
theorem Ck_B_earliestPulse_n_5 (C : Cx X (SFG E) T cX1_earliestPulse RX1 (some .int) 3 1 30)  {y1 : Int32} (hk : V X 0 0 (wL E a T c_waveIsFresh c_peelingIsFresh c_n_count c_n_front c_n_least c_n_window c_n_pulses c_n_lengths c_n_fractions c_n_pulseTimes c_n_pulseEnergies c_n_sound c_n_seen c_hcount c_hp c_h0_count c_h0_front c_h0_least c_h0_window c_h0_pulses c_h0_lengths c_h0_fractions c_h0_pulseTimes c_h0_pulseEnergies c_h0_sound c_h0_seen c_h1_count c_h1_front c_h1_least c_h1_window c_h1_pulses c_h1_lengths c_h1_fractions c_h1_pulseTimes c_h1_pulseEnergies c_h1_sound c_h1_seen c_h2_count c_h2_front c_h2_least c_h2_window c_h2_pulses c_h2_lengths c_h2_fractions c_h2_pulseTimes c_h2_pulseEnergies c_h2_sound c_h2_seen c_s_length c_s_command c_s_position c_s_fault c_s_bytes c_s_numbers c_w_near c_w_far c_w_echoes c_w_totals c_p_result c_p_endTime c_q_count c_q_front c_q_least c_q_window c_q_pulses c_q_lengths c_q_fractions c_q_pulseTimes c_q_pulseEnergies c_t_near c_t_far c_t_echoes c_t_totals) [(1, .int y1)] 30 []) : ∀ (n : Nat) (x1 : Int32) (x2 : Int32), Cl_B_earliestPulse_n_5 c_n_pulses c_n_pulseTimes n x1 x2 = some y1 → V X 0 0 (wL E a T c_waveIsFresh c_peelingIsFresh c_n_count c_n_front c_n_least c_n_window c_n_pulses c_n_lengths c_n_fractions c_n_pulseTimes c_n_pulseEnergies c_n_sound c_n_seen c_hcount c_hp c_h0_count c_h0_front c_h0_least c_h0_window c_h0_pulses c_h0_lengths c_h0_fractions c_h0_pulseTimes c_h0_pulseEnergies c_h0_sound c_h0_seen c_h1_count c_h1_front c_h1_least c_h1_window c_h1_pulses c_h1_lengths c_h1_fractions c_h1_pulseTimes c_h1_pulseEnergies c_h1_sound c_h1_seen c_h2_count c_h2_front c_h2_least c_h2_window c_h2_pulses c_h2_lengths c_h2_fractions c_h2_pulseTimes c_h2_pulseEnergies c_h2_sound c_h2_seen c_s_length c_s_command c_s_position c_s_fault c_s_bytes c_s_numbers c_w_near c_w_far c_w_echoes c_w_totals c_p_result c_p_endTime c_q_count c_q_front c_q_least c_q_window c_q_pulses c_q_lengths c_q_fractions c_q_pulseTimes c_q_pulseEnergies c_t_near c_t_far c_t_echoes c_t_totals) [(0, .ref (a 2)), (1, .int x1), (2, .int x2)] 5 [] := by
  intro n
  induction n with
  | zero =>
    intro _ _ hf
    cases hf
  | succ n hrec =>
    intro x1 x2 hf
    rw [Cl_B_earliestPulse_n_5] at hf
    refine v_iload_n 2 C dX1_earliestPulse_5 rfl rfl ?_
    refine v_aload_n 0 C dX1_earliestPulse_6 rfl rfl ?_
    refine Cg_2_pulses wfieldLink_RX1_31_LineEchoes_Bench_pulses_I C dX1_earliestPulse_7 ?_
    refine v_icmp_ge 30 C dX1_earliestPulse_10 (by decide) hf (fun c hf => ?_) (fun c hf => ?_)
    · refine v_lv [(1, .int x1)] [1] rfl ?_
      cases hf
      exact hk
    · refine v_iload_n 1 C dX1_earliestPulse_13 rfl rfl ?_
      refine v_aload_n 0 C dX1_earliestPulse_14 rfl rfl ?_
      refine Cg_2_pulseTimes wfieldLink_RX1_34_LineEchoes_Bench_pulseTimes_I C dX1_earliestPulse_15 ?_
      refine v_iload_n 2 C dX1_earliestPulse_18 rfl rfl ?_
      refine Cal_5 C dX1_earliestPulse_19 hf (fun z19 hf => ?_)
      refine Ce_min wmethodLink_RX1_85_Lib_Math_min_name C dX1_earliestPulse_20 (by decide) (Nat.le_of_ble_eq_true rfl) hf (fun z20 hf => ?_)
      refine v_istore_n [(0, .ref (a 2)), (1, .int z20), (2, .int x2)] [1, 0, 2] C dX1_earliestPulse_23 rfl (by decide) rfl ?_
      refine v_iinc (fun x2_24 => [(0, .ref (a 2)), (1, .int z20), (2, .int x2_24)]) [1, 2, 0] C dX1_earliestPulse_24 (j := 2) rfl (dv := 1) (by decide) (by decide) (fun _ => rfl) hf (fun x2_24 hf => ?_)
      refine v_goto 5 C dX1_earliestPulse_27 (by decide) ?_
      exact hrec _ _ hf
def Cf_B_earliestPulse_n (c_n_pulses : Int32) (c_n_pulseTimes : Nat → Int32) : Option Int32 :=
  bd (Cl_B_earliestPulse_n_5 c_n_pulses c_n_pulseTimes FUEL (100 : Int32) (0 : Int32)) fun y1_5 =>
  some y1_5
set_option maxRecDepth 100000 in
set_option maxHeartbeats 4000000 in
theorem Cb_B_earliestPulse_n (C : Cx X (SFG E) T cX1_earliestPulse RX1 (some .int) 3 1 30)  {r : Int32} (hret : RetOK X 0 0 (some (.int r)) (wL E a T c_waveIsFresh c_peelingIsFresh c_n_count c_n_front c_n_least c_n_window c_n_pulses c_n_lengths c_n_fractions c_n_pulseTimes c_n_pulseEnergies c_n_sound c_n_seen c_hcount c_hp c_h0_count c_h0_front c_h0_least c_h0_window c_h0_pulses c_h0_lengths c_h0_fractions c_h0_pulseTimes c_h0_pulseEnergies c_h0_sound c_h0_seen c_h1_count c_h1_front c_h1_least c_h1_window c_h1_pulses c_h1_lengths c_h1_fractions c_h1_pulseTimes c_h1_pulseEnergies c_h1_sound c_h1_seen c_h2_count c_h2_front c_h2_least c_h2_window c_h2_pulses c_h2_lengths c_h2_fractions c_h2_pulseTimes c_h2_pulseEnergies c_h2_sound c_h2_seen c_s_length c_s_command c_s_position c_s_fault c_s_bytes c_s_numbers c_w_near c_w_far c_w_echoes c_w_totals c_p_result c_p_endTime c_q_count c_q_front c_q_least c_q_window c_q_pulses c_q_lengths c_q_fractions c_q_pulseTimes c_q_pulseEnergies c_t_near c_t_far c_t_echoes c_t_totals)) (hf : Cf_B_earliestPulse_n c_n_pulses c_n_pulseTimes = some r) : V X 0 0 (wL E a T c_waveIsFresh c_peelingIsFresh c_n_count c_n_front c_n_least c_n_window c_n_pulses c_n_lengths c_n_fractions c_n_pulseTimes c_n_pulseEnergies c_n_sound c_n_seen c_hcount c_hp c_h0_count c_h0_front c_h0_least c_h0_window c_h0_pulses c_h0_lengths c_h0_fractions c_h0_pulseTimes c_h0_pulseEnergies c_h0_sound c_h0_seen c_h1_count c_h1_front c_h1_least c_h1_window c_h1_pulses c_h1_lengths c_h1_fractions c_h1_pulseTimes c_h1_pulseEnergies c_h1_sound c_h1_seen c_h2_count c_h2_front c_h2_least c_h2_window c_h2_pulses c_h2_lengths c_h2_fractions c_h2_pulseTimes c_h2_pulseEnergies c_h2_sound c_h2_seen c_s_length c_s_command c_s_position c_s_fault c_s_bytes c_s_numbers c_w_near c_w_far c_w_echoes c_w_totals c_p_result c_p_endTime c_q_count c_q_front c_q_least c_q_window c_q_pulses c_q_lengths c_q_fractions c_q_pulseTimes c_q_pulseEnergies c_t_near c_t_far c_t_echoes c_t_totals) [(0, .ref (a 2))] 0 [] := by
  unfold Cf_B_earliestPulse_n at hf
  refine v_bipush (v := 100) C dX1_earliestPulse_0 (by decide) ?_
  refine v_istore_n [(0, .ref (a 2)), (1, .int (100 : Int32))] [1, 0] C dX1_earliestPulse_2 rfl (by decide) rfl ?_
  refine v_iconst (v := 0) C dX1_earliestPulse_3 (by decide) ?_
  refine v_istore_n [(0, .ref (a 2)), (1, .int (100 : Int32)), (2, .int (0 : Int32))] [1, 2, 0] C dX1_earliestPulse_4 rfl (by decide) rfl ?_
  obtain ⟨y1_5, hc, hf⟩ := bd_some hf
  refine Ck_B_earliestPulse_n_5 C ?_ _ _ _ hc
  refine v_iload_n 0 C dX1_earliestPulse_30 rfl rfl ?_
  cases hf
  exact v_iret C hret dX1_earliestPulse_31
set_option maxRecDepth 100000 in
set_option maxHeartbeats 4000000 in
theorem Cm_B_earliestPulse_n {D : va_G}  {r : Int32} (hf : Cf_B_earliestPulse_n c_n_pulses c_n_pulseTimes = some r) : MetM (SFG E) yX1_earliestPulse cX1_earliestPulse 3 (some .int) { frames := 1, cells := 0, slots := 0, locals := 30 } D T [.ref (a 2)] (wL E a T c_waveIsFresh c_peelingIsFresh c_n_count c_n_front c_n_least c_n_window c_n_pulses c_n_lengths c_n_fractions c_n_pulseTimes c_n_pulseEnergies c_n_sound c_n_seen c_hcount c_hp c_h0_count c_h0_front c_h0_least c_h0_window c_h0_pulses c_h0_lengths c_h0_fractions c_h0_pulseTimes c_h0_pulseEnergies c_h0_sound c_h0_seen c_h1_count c_h1_front c_h1_least c_h1_window c_h1_pulses c_h1_lengths c_h1_fractions c_h1_pulseTimes c_h1_pulseEnergies c_h1_sound c_h1_seen c_h2_count c_h2_front c_h2_least c_h2_window c_h2_pulses c_h2_lengths c_h2_fractions c_h2_pulseTimes c_h2_pulseEnergies c_h2_sound c_h2_seen c_s_length c_s_command c_s_position c_s_fault c_s_bytes c_s_numbers c_w_near c_w_far c_w_echoes c_w_totals c_p_result c_p_endTime c_q_count c_q_front c_q_least c_q_window c_q_pulses c_q_lengths c_q_fractions c_q_pulseTimes c_q_pulseEnergies c_t_near c_t_far c_t_echoes c_t_totals) (some (.int r)) (wL E a T c_waveIsFresh c_peelingIsFresh c_n_count c_n_front c_n_least c_n_window c_n_pulses c_n_lengths c_n_fractions c_n_pulseTimes c_n_pulseEnergies c_n_sound c_n_seen c_hcount c_hp c_h0_count c_h0_front c_h0_least c_h0_window c_h0_pulses c_h0_lengths c_h0_fractions c_h0_pulseTimes c_h0_pulseEnergies c_h0_sound c_h0_seen c_h1_count c_h1_front c_h1_least c_h1_window c_h1_pulses c_h1_lengths c_h1_fractions c_h1_pulseTimes c_h1_pulseEnergies c_h1_sound c_h1_seen c_h2_count c_h2_front c_h2_least c_h2_window c_h2_pulses c_h2_lengths c_h2_fractions c_h2_pulseTimes c_h2_pulseEnergies c_h2_sound c_h2_seen c_s_length c_s_command c_s_position c_s_fault c_s_bytes c_s_numbers c_w_near c_w_far c_w_echoes c_w_totals c_p_result c_p_endTime c_q_count c_q_front c_q_least c_q_window c_q_pulses c_q_lengths c_q_fractions c_q_pulseTimes c_q_pulseEnergies c_t_near c_t_far c_t_echoes c_t_totals) :=
  MetM.of [(0, .ref (a 2))] (by decide) (Nat.le_of_ble_eq_true rfl) rfl (fun X C hret => Cb_B_earliestPulse_n C hret hf)
def Cl_B_reach_n_4 (c_n_lengths : Nat → Int32) (x1 : Int32) : Nat → Int32 → Int32 → Option Int32
  | 0, _, _ => none
  | n + 1, x2, x3 =>
    if x1 ≤ x3 then
      some x2
    else
      if (8 : Int32) ≤ x3 then
        some x2
      else
        chk (inb x3 8) <| nm (c_n_lengths x3.toNatClampNeg) fun z21 =>
        nm (x2 + z21) fun z22 =>
        nm (x3 + (1 : Int32)) fun x3_24 =>
        Cl_B_reach_n_4 c_n_lengths x1 n z22 x3_24
set_option maxRecDepth 100000 in
set_option maxHeartbeats 4000000 in
theorem Ck_B_reach_n_4 (C : Cx X (SFG E) T cX1_reach RX1 (some .int) 4 0 0) {x1 : Int32} {y2 : Int32} (hk : V X 0 0 (wL E a T c_waveIsFresh c_peelingIsFresh c_n_count c_n_front c_n_least c_n_window c_n_pulses c_n_lengths c_n_fractions c_n_pulseTimes c_n_pulseEnergies c_n_sound c_n_seen c_hcount c_hp c_h0_count c_h0_front c_h0_least c_h0_window c_h0_pulses c_h0_lengths c_h0_fractions c_h0_pulseTimes c_h0_pulseEnergies c_h0_sound c_h0_seen c_h1_count c_h1_front c_h1_least c_h1_window c_h1_pulses c_h1_lengths c_h1_fractions c_h1_pulseTimes c_h1_pulseEnergies c_h1_sound c_h1_seen c_h2_count c_h2_front c_h2_least c_h2_window c_h2_pulses c_h2_lengths c_h2_fractions c_h2_pulseTimes c_h2_pulseEnergies c_h2_sound c_h2_seen c_s_length c_s_command c_s_position c_s_fault c_s_bytes c_s_numbers c_w_near c_w_far c_w_echoes c_w_totals c_p_result c_p_endTime c_q_count c_q_front c_q_least c_q_window c_q_pulses c_q_lengths c_q_fractions c_q_pulseTimes c_q_pulseEnergies c_t_near c_t_far c_t_echoes c_t_totals) [(2, .int y2)] 30 []) : ∀ (n : Nat) (x2 : Int32) (x3 : Int32), Cl_B_reach_n_4 c_n_lengths x1 n x2 x3 = some y2 → V X 0 0 (wL E a T c_waveIsFresh c_peelingIsFresh c_n_count c_n_front c_n_least c_n_window c_n_pulses c_n_lengths c_n_fractions c_n_pulseTimes c_n_pulseEnergies c_n_sound c_n_seen c_hcount c_hp c_h0_count c_h0_front c_h0_least c_h0_window c_h0_pulses c_h0_lengths c_h0_fractions c_h0_pulseTimes c_h0_pulseEnergies c_h0_sound c_h0_seen c_h1_count c_h1_front c_h1_least c_h1_window c_h1_pulses c_h1_lengths c_h1_fractions c_h1_pulseTimes c_h1_pulseEnergies c_h1_sound c_h1_seen c_h2_count c_h2_front c_h2_least c_h2_window c_h2_pulses c_h2_lengths c_h2_fractions c_h2_pulseTimes c_h2_pulseEnergies c_h2_sound c_h2_seen c_s_length c_s_command c_s_position c_s_fault c_s_bytes c_s_numbers c_w_near c_w_far c_w_echoes c_w_totals c_p_result c_p_endTime c_q_count c_q_front c_q_least c_q_window c_q_pulses c_q_lengths c_q_fractions c_q_pulseTimes c_q_pulseEnergies c_t_near c_t_far c_t_echoes c_t_totals) [(0, .ref (a 2)), (1, .int x1), (2, .int x2), (3, .int x3)] 4 [] := by
  intro n
  induction n with
  | zero =>
    intro _ _ hf
    cases hf
  | succ n hrec =>
    intro x2 x3 hf
    rw [Cl_B_reach_n_4] at hf
    refine v_iload_n 3 C dX1_reach_4 rfl rfl ?_
    refine v_iload_n 1 C dX1_reach_5 rfl rfl ?_
    refine v_icmp_ge 30 C dX1_reach_6 (by decide) hf (fun c hf => ?_) (fun c hf => ?_)
    · refine v_lv [(2, .int x2)] [2] rfl ?_
      cases hf
      exact hk
    · refine v_iload_n 3 C dX1_reach_9 rfl rfl ?_
      refine v_bipush (v := 8) C dX1_reach_10 (by decide) ?_
      refine v_icmp_ge 30 C dX1_reach_12 (by decide) hf (fun c hf => ?_) (fun c hf => ?_)
      · refine v_lv [(2, .int x2)] [2] rfl ?_
        cases hf
        exact hk
      · refine v_iload_n 2 C dX1_reach_15 rfl rfl ?_
        refine v_aload_n 0 C dX1_reach_16 rfl rfl ?_
        refine Cg_2_lengths wfieldLink_RX1_15_LineEchoes_Bench_lengths_I C dX1_reach_17 ?_
        refine v_iload_n 3 C dX1_reach_20 rfl rfl ?_
        refine Cal_3 C dX1_reach_21 hf (fun z21 hf => ?_)
        refine v_iadd C dX1_reach_22 hf (fun z22 hf => ?_)
        refine v_istore_n [(0, .ref (a 2)), (1, .int x1), (2, .int z22), (3, .int x3)] [1, 2, 0, 3] C dX1_reach_23 rfl (by decide) rfl ?_
        refine v_iinc (fun x3_24 => [(0, .ref (a 2)), (1, .int x1), (2, .int z22), (3, .int x3_24)]) [1, 2, 3, 0] C dX1_reach_24 (j := 3) rfl (dv := 1) (by decide) (by decide) (fun _ => rfl) hf (fun x3_24 hf => ?_)
        refine v_goto 4 C dX1_reach_27 (by decide) ?_
        exact hrec _ _ hf
def Cf_B_reach_n_30 (x2 : Int32) : Option Int32 :=
  some x2
set_option maxRecDepth 100000 in
set_option maxHeartbeats 4000000 in
theorem Cb_B_reach_n_30 (C : Cx X (SFG E) T cX1_reach RX1 (some .int) 4 0 0) {x2 : Int32} {r : Int32} (hret : RetOK X 0 0 (some (.int r)) (wL E a T c_waveIsFresh c_peelingIsFresh c_n_count c_n_front c_n_least c_n_window c_n_pulses c_n_lengths c_n_fractions c_n_pulseTimes c_n_pulseEnergies c_n_sound c_n_seen c_hcount c_hp c_h0_count c_h0_front c_h0_least c_h0_window c_h0_pulses c_h0_lengths c_h0_fractions c_h0_pulseTimes c_h0_pulseEnergies c_h0_sound c_h0_seen c_h1_count c_h1_front c_h1_least c_h1_window c_h1_pulses c_h1_lengths c_h1_fractions c_h1_pulseTimes c_h1_pulseEnergies c_h1_sound c_h1_seen c_h2_count c_h2_front c_h2_least c_h2_window c_h2_pulses c_h2_lengths c_h2_fractions c_h2_pulseTimes c_h2_pulseEnergies c_h2_sound c_h2_seen c_s_length c_s_command c_s_position c_s_fault c_s_bytes c_s_numbers c_w_near c_w_far c_w_echoes c_w_totals c_p_result c_p_endTime c_q_count c_q_front c_q_least c_q_window c_q_pulses c_q_lengths c_q_fractions c_q_pulseTimes c_q_pulseEnergies c_t_near c_t_far c_t_echoes c_t_totals)) (hf : Cf_B_reach_n_30 x2 = some r) : V X 0 0 (wL E a T c_waveIsFresh c_peelingIsFresh c_n_count c_n_front c_n_least c_n_window c_n_pulses c_n_lengths c_n_fractions c_n_pulseTimes c_n_pulseEnergies c_n_sound c_n_seen c_hcount c_hp c_h0_count c_h0_front c_h0_least c_h0_window c_h0_pulses c_h0_lengths c_h0_fractions c_h0_pulseTimes c_h0_pulseEnergies c_h0_sound c_h0_seen c_h1_count c_h1_front c_h1_least c_h1_window c_h1_pulses c_h1_lengths c_h1_fractions c_h1_pulseTimes c_h1_pulseEnergies c_h1_sound c_h1_seen c_h2_count c_h2_front c_h2_least c_h2_window c_h2_pulses c_h2_lengths c_h2_fractions c_h2_pulseTimes c_h2_pulseEnergies c_h2_sound c_h2_seen c_s_length c_s_command c_s_position c_s_fault c_s_bytes c_s_numbers c_w_near c_w_far c_w_echoes c_w_totals c_p_result c_p_endTime c_q_count c_q_front c_q_least c_q_window c_q_pulses c_q_lengths c_q_fractions c_q_pulseTimes c_q_pulseEnergies c_t_near c_t_far c_t_echoes c_t_totals) [(2, .int x2)] 30 [] := by
  unfold Cf_B_reach_n_30 at hf
  refine v_iload_n 0 C dX1_reach_30 rfl rfl ?_
  cases hf
  exact v_iret C hret dX1_reach_31
def Cf_B_reach_n (c_n_lengths : Nat → Int32) (x1 : Int32) : Option Int32 :=
  bd (Cl_B_reach_n_4 c_n_lengths x1 FUEL (0 : Int32) (0 : Int32)) fun y2_4 =>
  Cf_B_reach_n_30 y2_4
set_option maxRecDepth 100000 in
set_option maxHeartbeats 4000000 in
theorem Cb_B_reach_n (C : Cx X (SFG E) T cX1_reach RX1 (some .int) 4 0 0) {x1 : Int32} {r : Int32} (hret : RetOK X 0 0 (some (.int r)) (wL E a T c_waveIsFresh c_peelingIsFresh c_n_count c_n_front c_n_least c_n_window c_n_pulses c_n_lengths c_n_fractions c_n_pulseTimes c_n_pulseEnergies c_n_sound c_n_seen c_hcount c_hp c_h0_count c_h0_front c_h0_least c_h0_window c_h0_pulses c_h0_lengths c_h0_fractions c_h0_pulseTimes c_h0_pulseEnergies c_h0_sound c_h0_seen c_h1_count c_h1_front c_h1_least c_h1_window c_h1_pulses c_h1_lengths c_h1_fractions c_h1_pulseTimes c_h1_pulseEnergies c_h1_sound c_h1_seen c_h2_count c_h2_front c_h2_least c_h2_window c_h2_pulses c_h2_lengths c_h2_fractions c_h2_pulseTimes c_h2_pulseEnergies c_h2_sound c_h2_seen c_s_length c_s_command c_s_position c_s_fault c_s_bytes c_s_numbers c_w_near c_w_far c_w_echoes c_w_totals c_p_result c_p_endTime c_q_count c_q_front c_q_least c_q_window c_q_pulses c_q_lengths c_q_fractions c_q_pulseTimes c_q_pulseEnergies c_t_near c_t_far c_t_echoes c_t_totals)) (hf : Cf_B_reach_n c_n_lengths x1 = some r) : V X 0 0 (wL E a T c_waveIsFresh c_peelingIsFresh c_n_count c_n_front c_n_least c_n_window c_n_pulses c_n_lengths c_n_fractions c_n_pulseTimes c_n_pulseEnergies c_n_sound c_n_seen c_hcount c_hp c_h0_count c_h0_front c_h0_least c_h0_window c_h0_pulses c_h0_lengths c_h0_fractions c_h0_pulseTimes c_h0_pulseEnergies c_h0_sound c_h0_seen c_h1_count c_h1_front c_h1_least c_h1_window c_h1_pulses c_h1_lengths c_h1_fractions c_h1_pulseTimes c_h1_pulseEnergies c_h1_sound c_h1_seen c_h2_count c_h2_front c_h2_least c_h2_window c_h2_pulses c_h2_lengths c_h2_fractions c_h2_pulseTimes c_h2_pulseEnergies c_h2_sound c_h2_seen c_s_length c_s_command c_s_position c_s_fault c_s_bytes c_s_numbers c_w_near c_w_far c_w_echoes c_w_totals c_p_result c_p_endTime c_q_count c_q_front c_q_least c_q_window c_q_pulses c_q_lengths c_q_fractions c_q_pulseTimes c_q_pulseEnergies c_t_near c_t_far c_t_echoes c_t_totals) [(0, .ref (a 2)), (1, .int x1)] 0 [] := by
  unfold Cf_B_reach_n at hf
  refine v_iconst (v := 0) C dX1_reach_0 (by decide) ?_
  refine v_istore_n [(0, .ref (a 2)), (1, .int x1), (2, .int (0 : Int32))] [1, 2, 0] C dX1_reach_1 rfl (by decide) rfl ?_
  refine v_iconst (v := 0) C dX1_reach_2 (by decide) ?_
  refine v_istore_n [(0, .ref (a 2)), (1, .int x1), (2, .int (0 : Int32)), (3, .int (0 : Int32))] [1, 2, 3, 0] C dX1_reach_3 rfl (by decide) rfl ?_
  obtain ⟨y2_4, hc, hf⟩ := bd_some hf
  refine Ck_B_reach_n_4 C ?_ _ _ _ hc
  exact Cb_B_reach_n_30 C hret hf
set_option maxRecDepth 100000 in
set_option maxHeartbeats 4000000 in
theorem Cm_B_reach_n {D : va_G} {x1 : Int32} {r : Int32} (hf : Cf_B_reach_n c_n_lengths x1 = some r) : MetM (SFG E) yX1_reach cX1_reach 4 (some .int) { frames := 0, cells := 0, slots := 0, locals := 0 } D T [.ref (a 2), .int x1] (wL E a T c_waveIsFresh c_peelingIsFresh c_n_count c_n_front c_n_least c_n_window c_n_pulses c_n_lengths c_n_fractions c_n_pulseTimes c_n_pulseEnergies c_n_sound c_n_seen c_hcount c_hp c_h0_count c_h0_front c_h0_least c_h0_window c_h0_pulses c_h0_lengths c_h0_fractions c_h0_pulseTimes c_h0_pulseEnergies c_h0_sound c_h0_seen c_h1_count c_h1_front c_h1_least c_h1_window c_h1_pulses c_h1_lengths c_h1_fractions c_h1_pulseTimes c_h1_pulseEnergies c_h1_sound c_h1_seen c_h2_count c_h2_front c_h2_least c_h2_window c_h2_pulses c_h2_lengths c_h2_fractions c_h2_pulseTimes c_h2_pulseEnergies c_h2_sound c_h2_seen c_s_length c_s_command c_s_position c_s_fault c_s_bytes c_s_numbers c_w_near c_w_far c_w_echoes c_w_totals c_p_result c_p_endTime c_q_count c_q_front c_q_least c_q_window c_q_pulses c_q_lengths c_q_fractions c_q_pulseTimes c_q_pulseEnergies c_t_near c_t_far c_t_echoes c_t_totals) (some (.int r)) (wL E a T c_waveIsFresh c_peelingIsFresh c_n_count c_n_front c_n_least c_n_window c_n_pulses c_n_lengths c_n_fractions c_n_pulseTimes c_n_pulseEnergies c_n_sound c_n_seen c_hcount c_hp c_h0_count c_h0_front c_h0_least c_h0_window c_h0_pulses c_h0_lengths c_h0_fractions c_h0_pulseTimes c_h0_pulseEnergies c_h0_sound c_h0_seen c_h1_count c_h1_front c_h1_least c_h1_window c_h1_pulses c_h1_lengths c_h1_fractions c_h1_pulseTimes c_h1_pulseEnergies c_h1_sound c_h1_seen c_h2_count c_h2_front c_h2_least c_h2_window c_h2_pulses c_h2_lengths c_h2_fractions c_h2_pulseTimes c_h2_pulseEnergies c_h2_sound c_h2_seen c_s_length c_s_command c_s_position c_s_fault c_s_bytes c_s_numbers c_w_near c_w_far c_w_echoes c_w_totals c_p_result c_p_endTime c_q_count c_q_front c_q_least c_q_window c_q_pulses c_q_lengths c_q_fractions c_q_pulseTimes c_q_pulseEnergies c_t_near c_t_far c_t_echoes c_t_totals) :=
  MetM.of [(0, .ref (a 2)), (1, .int x1)] (by decide) (Nat.le_of_ble_eq_true rfl) rfl (fun X C hret => Cb_B_reach_n C hret hf)
def Cf_B_partAtWayAndBack_n_37 (rec : Int32 → Int32 → Option (Int32 ⊕ Unit)) (x1 : Int32) (x3 : Int32) (x4 : Int32) : Option (Int32 ⊕ Unit) :=
  nm (x3 + (1 : Int32)) fun x3_40 =>
  rec x4 x3_40
set_option maxRecDepth 100000 in
set_option maxHeartbeats 4000000 in
theorem Cb_B_partAtWayAndBack_n_37 (C : Cx X (SFG E) T cX1_partAtWayAndBack RX1 (some .int) 5 0 0) {rec : Int32 → Int32 → Option (Int32 ⊕ Unit)} {x1 : Int32} {x3 : Int32} {x4 : Int32} {o9 : (Int32 ⊕ Unit)} (hrec : ∀ (x2 : Int32) (x3 : Int32), rec x2 x3 = some o9 → V X 0 0 (wL E a T c_waveIsFresh c_peelingIsFresh c_n_count c_n_front c_n_least c_n_window c_n_pulses c_n_lengths c_n_fractions c_n_pulseTimes c_n_pulseEnergies c_n_sound c_n_seen c_hcount c_hp c_h0_count c_h0_front c_h0_least c_h0_window c_h0_pulses c_h0_lengths c_h0_fractions c_h0_pulseTimes c_h0_pulseEnergies c_h0_sound c_h0_seen c_h1_count c_h1_front c_h1_least c_h1_window c_h1_pulses c_h1_lengths c_h1_fractions c_h1_pulseTimes c_h1_pulseEnergies c_h1_sound c_h1_seen c_h2_count c_h2_front c_h2_least c_h2_window c_h2_pulses c_h2_lengths c_h2_fractions c_h2_pulseTimes c_h2_pulseEnergies c_h2_sound c_h2_seen c_s_length c_s_command c_s_position c_s_fault c_s_bytes c_s_numbers c_w_near c_w_far c_w_echoes c_w_totals c_p_result c_p_endTime c_q_count c_q_front c_q_least c_q_window c_q_pulses c_q_lengths c_q_fractions c_q_pulseTimes c_q_pulseEnergies c_t_near c_t_far c_t_echoes c_t_totals) [(0, .ref (a 2)), (1, .int x1), (2, .int x2), (3, .int x3)] 4 []) (hk0 : ∀ (y3 : Int32), o9 = .inl y3 → V X 0 0 (wL E a T c_waveIsFresh c_peelingIsFresh c_n_count c_n_front c_n_least c_n_window c_n_pulses c_n_lengths c_n_fractions c_n_pulseTimes c_n_pulseEnergies c_n_sound c_n_seen c_hcount c_hp c_h0_count c_h0_front c_h0_least c_h0_window c_h0_pulses c_h0_lengths c_h0_fractions c_h0_pulseTimes c_h0_pulseEnergies c_h0_sound c_h0_seen c_h1_count c_h1_front c_h1_least c_h1_window c_h1_pulses c_h1_lengths c_h1_fractions c_h1_pulseTimes c_h1_pulseEnergies c_h1_sound c_h1_seen c_h2_count c_h2_front c_h2_least c_h2_window c_h2_pulses c_h2_lengths c_h2_fractions c_h2_pulseTimes c_h2_pulseEnergies c_h2_sound c_h2_seen c_s_length c_s_command c_s_position c_s_fault c_s_bytes c_s_numbers c_w_near c_w_far c_w_echoes c_w_totals c_p_result c_p_endTime c_q_count c_q_front c_q_least c_q_window c_q_pulses c_q_lengths c_q_fractions c_q_pulseTimes c_q_pulseEnergies c_t_near c_t_far c_t_echoes c_t_totals) [(3, .int y3)] 35 []) (hk1 :  o9 = .inr () → V X 0 0 (wL E a T c_waveIsFresh c_peelingIsFresh c_n_count c_n_front c_n_least c_n_window c_n_pulses c_n_lengths c_n_fractions c_n_pulseTimes c_n_pulseEnergies c_n_sound c_n_seen c_hcount c_hp c_h0_count c_h0_front c_h0_least c_h0_window c_h0_pulses c_h0_lengths c_h0_fractions c_h0_pulseTimes c_h0_pulseEnergies c_h0_sound c_h0_seen c_h1_count c_h1_front c_h1_least c_h1_window c_h1_pulses c_h1_lengths c_h1_fractions c_h1_pulseTimes c_h1_pulseEnergies c_h1_sound c_h1_seen c_h2_count c_h2_front c_h2_least c_h2_window c_h2_pulses c_h2_lengths c_h2_fractions c_h2_pulseTimes c_h2_pulseEnergies c_h2_sound c_h2_seen c_s_length c_s_command c_s_position c_s_fault c_s_bytes c_s_numbers c_w_near c_w_far c_w_echoes c_w_totals c_p_result c_p_endTime c_q_count c_q_front c_q_least c_q_window c_q_pulses c_q_lengths c_q_fractions c_q_pulseTimes c_q_pulseEnergies c_t_near c_t_far c_t_echoes c_t_totals) [] 46 []) (hf : Cf_B_partAtWayAndBack_n_37 rec x1 x3 x4 = some o9) : V X 0 0 (wL E a T c_waveIsFresh c_peelingIsFresh c_n_count c_n_front c_n_least c_n_window c_n_pulses c_n_lengths c_n_fractions c_n_pulseTimes c_n_pulseEnergies c_n_sound c_n_seen c_hcount c_hp c_h0_count c_h0_front c_h0_least c_h0_window c_h0_pulses c_h0_lengths c_h0_fractions c_h0_pulseTimes c_h0_pulseEnergies c_h0_sound c_h0_seen c_h1_count c_h1_front c_h1_least c_h1_window c_h1_pulses c_h1_lengths c_h1_fractions c_h1_pulseTimes c_h1_pulseEnergies c_h1_sound c_h1_seen c_h2_count c_h2_front c_h2_least c_h2_window c_h2_pulses c_h2_lengths c_h2_fractions c_h2_pulseTimes c_h2_pulseEnergies c_h2_sound c_h2_seen c_s_length c_s_command c_s_position c_s_fault c_s_bytes c_s_numbers c_w_near c_w_far c_w_echoes c_w_totals c_p_result c_p_endTime c_q_count c_q_front c_q_least c_q_window c_q_pulses c_q_lengths c_q_fractions c_q_pulseTimes c_q_pulseEnergies c_t_near c_t_far c_t_echoes c_t_totals) [(0, .ref (a 2)), (1, .int x1), (3, .int x3), (4, .int x4)] 37 [] := by
  unfold Cf_B_partAtWayAndBack_n_37 at hf
  refine v_iload 3 C dX1_partAtWayAndBack_37 rfl ?_
  refine v_istore_n [(0, .ref (a 2)), (1, .int x1), (2, .int x4), (3, .int x3)] [1, 2, 0, 3] C dX1_partAtWayAndBack_39 rfl (by decide) rfl ?_
  refine v_iinc (fun x3_40 => [(0, .ref (a 2)), (1, .int x1), (2, .int x4), (3, .int x3_40)]) [1, 2, 3, 0] C dX1_partAtWayAndBack_40 (j := 3) rfl (dv := 1) (by decide) (by decide) (fun _ => rfl) hf (fun x3_40 hf => ?_)
  refine v_goto 4 C dX1_partAtWayAndBack_43 (by decide) ?_
  exact hrec _ _ hf
def Cl_B_partAtWayAndBack_n_4 (c_n_count : Int32) (c_n_lengths : Nat → Int32) (x1 : Int32) : Nat → Int32 → Int32 → Option (Int32 ⊕ Unit)
  | 0, _, _ => none
  | n + 1, x2, x3 =>
    if c_n_count ≤ x3 then
      some (.inr ())
    else
      chk (inb x3 8) <| nm (c_n_lengths x3.toNatClampNeg) fun z19 =>
      nm ((2 : Int32) * z19) fun z20 =>
      nm (x2 + z20) fun z21 =>
      if x1 ≤ x2 then
        Cf_B_partAtWayAndBack_n_37 (Cl_B_partAtWayAndBack_n_4 c_n_count c_n_lengths x1 n) x1 x3 z21
      else
        if z21 < x1 then
          Cf_B_partAtWayAndBack_n_37 (Cl_B_partAtWayAndBack_n_4 c_n_count c_n_lengths x1 n) x1 x3 z21
        else
          some (.inl x3)
set_option maxRecDepth 100000 in
set_option maxHeartbeats 4000000 in
theorem Ck_B_partAtWayAndBack_n_4 (C : Cx X (SFG E) T cX1_partAtWayAndBack RX1 (some .int) 5 0 0) {x1 : Int32} {o9 : (Int32 ⊕ Unit)} (hk0 : ∀ (y3 : Int32), o9 = .inl y3 → V X 0 0 (wL E a T c_waveIsFresh c_peelingIsFresh c_n_count c_n_front c_n_least c_n_window c_n_pulses c_n_lengths c_n_fractions c_n_pulseTimes c_n_pulseEnergies c_n_sound c_n_seen c_hcount c_hp c_h0_count c_h0_front c_h0_least c_h0_window c_h0_pulses c_h0_lengths c_h0_fractions c_h0_pulseTimes c_h0_pulseEnergies c_h0_sound c_h0_seen c_h1_count c_h1_front c_h1_least c_h1_window c_h1_pulses c_h1_lengths c_h1_fractions c_h1_pulseTimes c_h1_pulseEnergies c_h1_sound c_h1_seen c_h2_count c_h2_front c_h2_least c_h2_window c_h2_pulses c_h2_lengths c_h2_fractions c_h2_pulseTimes c_h2_pulseEnergies c_h2_sound c_h2_seen c_s_length c_s_command c_s_position c_s_fault c_s_bytes c_s_numbers c_w_near c_w_far c_w_echoes c_w_totals c_p_result c_p_endTime c_q_count c_q_front c_q_least c_q_window c_q_pulses c_q_lengths c_q_fractions c_q_pulseTimes c_q_pulseEnergies c_t_near c_t_far c_t_echoes c_t_totals) [(3, .int y3)] 35 []) (hk1 :  o9 = .inr () → V X 0 0 (wL E a T c_waveIsFresh c_peelingIsFresh c_n_count c_n_front c_n_least c_n_window c_n_pulses c_n_lengths c_n_fractions c_n_pulseTimes c_n_pulseEnergies c_n_sound c_n_seen c_hcount c_hp c_h0_count c_h0_front c_h0_least c_h0_window c_h0_pulses c_h0_lengths c_h0_fractions c_h0_pulseTimes c_h0_pulseEnergies c_h0_sound c_h0_seen c_h1_count c_h1_front c_h1_least c_h1_window c_h1_pulses c_h1_lengths c_h1_fractions c_h1_pulseTimes c_h1_pulseEnergies c_h1_sound c_h1_seen c_h2_count c_h2_front c_h2_least c_h2_window c_h2_pulses c_h2_lengths c_h2_fractions c_h2_pulseTimes c_h2_pulseEnergies c_h2_sound c_h2_seen c_s_length c_s_command c_s_position c_s_fault c_s_bytes c_s_numbers c_w_near c_w_far c_w_echoes c_w_totals c_p_result c_p_endTime c_q_count c_q_front c_q_least c_q_window c_q_pulses c_q_lengths c_q_fractions c_q_pulseTimes c_q_pulseEnergies c_t_near c_t_far c_t_echoes c_t_totals) [] 46 []) : ∀ (n : Nat) (x2 : Int32) (x3 : Int32), Cl_B_partAtWayAndBack_n_4 c_n_count c_n_lengths x1 n x2 x3 = some o9 → V X 0 0 (wL E a T c_waveIsFresh c_peelingIsFresh c_n_count c_n_front c_n_least c_n_window c_n_pulses c_n_lengths c_n_fractions c_n_pulseTimes c_n_pulseEnergies c_n_sound c_n_seen c_hcount c_hp c_h0_count c_h0_front c_h0_least c_h0_window c_h0_pulses c_h0_lengths c_h0_fractions c_h0_pulseTimes c_h0_pulseEnergies c_h0_sound c_h0_seen c_h1_count c_h1_front c_h1_least c_h1_window c_h1_pulses c_h1_lengths c_h1_fractions c_h1_pulseTimes c_h1_pulseEnergies c_h1_sound c_h1_seen c_h2_count c_h2_front c_h2_least c_h2_window c_h2_pulses c_h2_lengths c_h2_fractions c_h2_pulseTimes c_h2_pulseEnergies c_h2_sound c_h2_seen c_s_length c_s_command c_s_position c_s_fault c_s_bytes c_s_numbers c_w_near c_w_far c_w_echoes c_w_totals c_p_result c_p_endTime c_q_count c_q_front c_q_least c_q_window c_q_pulses c_q_lengths c_q_fractions c_q_pulseTimes c_q_pulseEnergies c_t_near c_t_far c_t_echoes c_t_totals) [(0, .ref (a 2)), (1, .int x1), (2, .int x2), (3, .int x3)] 4 [] := by
  intro n
  induction n with
  | zero =>
    intro _ _ hf
    cases hf
  | succ n hrec =>
    intro x2 x3 hf
    rw [Cl_B_partAtWayAndBack_n_4] at hf
    refine v_iload_n 3 C dX1_partAtWayAndBack_4 rfl rfl ?_
    refine v_aload_n 0 C dX1_partAtWayAndBack_5 rfl rfl ?_
    refine Cg_2_count wfieldLink_RX1_9_LineEchoes_Bench_count_I C dX1_partAtWayAndBack_6 ?_
    refine v_icmp_ge 46 C dX1_partAtWayAndBack_9 (by decide) hf (fun c hf => ?_) (fun c hf => ?_)
    · refine v_lv [] [] rfl ?_
      cases hf
      exact hk1  rfl
    · refine v_iload_n 2 C dX1_partAtWayAndBack_12 rfl rfl ?_
      refine v_iconst (v := 2) C dX1_partAtWayAndBack_13 (by decide) ?_
      refine v_aload_n 0 C dX1_partAtWayAndBack_14 rfl rfl ?_
      refine Cg_2_lengths wfieldLink_RX1_15_LineEchoes_Bench_lengths_I C dX1_partAtWayAndBack_15 ?_
      refine v_iload_n 3 C dX1_partAtWayAndBack_18 rfl rfl ?_
      refine Cal_3 C dX1_partAtWayAndBack_19 hf (fun z19 hf => ?_)
      refine v_imul C dX1_partAtWayAndBack_20 hf (fun z20 hf => ?_)
      refine v_iadd C dX1_partAtWayAndBack_21 hf (fun z21 hf => ?_)
      refine v_istore [(0, .ref (a 2)), (1, .int x1), (2, .int x2), (3, .int x3), (4, .int z21)] [1, 2, 3, 4, 0] C dX1_partAtWayAndBack_22 (by decide) rfl ?_
      refine v_iload_n 1 C dX1_partAtWayAndBack_24 rfl rfl ?_
      refine v_iload_n 2 C dX1_partAtWayAndBack_25 rfl rfl ?_
      refine v_icmp_le 37 C dX1_partAtWayAndBack_26 (by decide) hf (fun c hf => ?_) (fun c hf => ?_)
      · refine v_lv [(0, .ref (a 2)), (1, .int x1), (3, .int x3), (4, .int z21)] [0, 1, 3, 4] rfl ?_
        exact Cb_B_partAtWayAndBack_n_37 C hrec hk0 hk1 hf
      · refine v_iload_n 1 C dX1_partAtWayAndBack_29 rfl rfl ?_
        refine v_iload 4 C dX1_partAtWayAndBack_30 rfl ?_
        refine v_icmp_gt 37 C dX1_partAtWayAndBack_32 (by decide) hf (fun c hf => ?_) (fun c hf => ?_)
        · refine v_lv [(0, .ref (a 2)), (1, .int x1), (3, .int x3), (4, .int z21)] [0, 1, 3, 4] rfl ?_
          exact Cb_B_partAtWayAndBack_n_37 C hrec hk0 hk1 hf
        · refine v_lv [(3, .int x3)] [3] rfl ?_
          cases hf
          exact hk0 _ rfl
def Cf_B_partAtWayAndBack_n (c_n_count : Int32) (c_n_lengths : Nat → Int32) (x1 : Int32) : Option Int32 :=
  bd (Cl_B_partAtWayAndBack_n_4 c_n_count c_n_lengths x1 FUEL (0 : Int32) (0 : Int32)) fun o9 => match o9 with
  | .inl y3_4 =>
    some y3_4
  | .inr _ =>
    some (-1 : Int32)
set_option maxRecDepth 100000 in
set_option maxHeartbeats 4000000 in
theorem Cb_B_partAtWayAndBack_n (C : Cx X (SFG E) T cX1_partAtWayAndBack RX1 (some .int) 5 0 0) {x1 : Int32} {r : Int32} (hret : RetOK X 0 0 (some (.int r)) (wL E a T c_waveIsFresh c_peelingIsFresh c_n_count c_n_front c_n_least c_n_window c_n_pulses c_n_lengths c_n_fractions c_n_pulseTimes c_n_pulseEnergies c_n_sound c_n_seen c_hcount c_hp c_h0_count c_h0_front c_h0_least c_h0_window c_h0_pulses c_h0_lengths c_h0_fractions c_h0_pulseTimes c_h0_pulseEnergies c_h0_sound c_h0_seen c_h1_count c_h1_front c_h1_least c_h1_window c_h1_pulses c_h1_lengths c_h1_fractions c_h1_pulseTimes c_h1_pulseEnergies c_h1_sound c_h1_seen c_h2_count c_h2_front c_h2_least c_h2_window c_h2_pulses c_h2_lengths c_h2_fractions c_h2_pulseTimes c_h2_pulseEnergies c_h2_sound c_h2_seen c_s_length c_s_command c_s_position c_s_fault c_s_bytes c_s_numbers c_w_near c_w_far c_w_echoes c_w_totals c_p_result c_p_endTime c_q_count c_q_front c_q_least c_q_window c_q_pulses c_q_lengths c_q_fractions c_q_pulseTimes c_q_pulseEnergies c_t_near c_t_far c_t_echoes c_t_totals)) (hf : Cf_B_partAtWayAndBack_n c_n_count c_n_lengths x1 = some r) : V X 0 0 (wL E a T c_waveIsFresh c_peelingIsFresh c_n_count c_n_front c_n_least c_n_window c_n_pulses c_n_lengths c_n_fractions c_n_pulseTimes c_n_pulseEnergies c_n_sound c_n_seen c_hcount c_hp c_h0_count c_h0_front c_h0_least c_h0_window c_h0_pulses c_h0_lengths c_h0_fractions c_h0_pulseTimes c_h0_pulseEnergies c_h0_sound c_h0_seen c_h1_count c_h1_front c_h1_least c_h1_window c_h1_pulses c_h1_lengths c_h1_fractions c_h1_pulseTimes c_h1_pulseEnergies c_h1_sound c_h1_seen c_h2_count c_h2_front c_h2_least c_h2_window c_h2_pulses c_h2_lengths c_h2_fractions c_h2_pulseTimes c_h2_pulseEnergies c_h2_sound c_h2_seen c_s_length c_s_command c_s_position c_s_fault c_s_bytes c_s_numbers c_w_near c_w_far c_w_echoes c_w_totals c_p_result c_p_endTime c_q_count c_q_front c_q_least c_q_window c_q_pulses c_q_lengths c_q_fractions c_q_pulseTimes c_q_pulseEnergies c_t_near c_t_far c_t_echoes c_t_totals) [(0, .ref (a 2)), (1, .int x1)] 0 [] := by
  unfold Cf_B_partAtWayAndBack_n at hf
  refine v_iconst (v := 0) C dX1_partAtWayAndBack_0 (by decide) ?_
  refine v_istore_n [(0, .ref (a 2)), (1, .int x1), (2, .int (0 : Int32))] [1, 2, 0] C dX1_partAtWayAndBack_1 rfl (by decide) rfl ?_
  refine v_iconst (v := 0) C dX1_partAtWayAndBack_2 (by decide) ?_
  refine v_istore_n [(0, .ref (a 2)), (1, .int x1), (2, .int (0 : Int32)), (3, .int (0 : Int32))] [1, 2, 3, 0] C dX1_partAtWayAndBack_3 rfl (by decide) rfl ?_
  obtain ⟨o9, hc, hf⟩ := bd_some hf
  refine Ck_B_partAtWayAndBack_n_4 C (fun y3_4 e9 => ?_) (fun e9 => ?_) _ _ _ hc
  · subst e9
    refine v_iload_n 0 C dX1_partAtWayAndBack_35 rfl rfl ?_
    cases hf
    exact v_iret C hret dX1_partAtWayAndBack_36
  · subst e9
    refine v_iconst (v := -1) C dX1_partAtWayAndBack_46 (by decide) ?_
    cases hf
    exact v_iret C hret dX1_partAtWayAndBack_47
set_option maxRecDepth 100000 in
set_option maxHeartbeats 4000000 in
theorem Cm_B_partAtWayAndBack_n {D : va_G} {x1 : Int32} {r : Int32} (hf : Cf_B_partAtWayAndBack_n c_n_count c_n_lengths x1 = some r) : MetM (SFG E) yX1_partAtWayAndBack cX1_partAtWayAndBack 5 (some .int) { frames := 0, cells := 0, slots := 0, locals := 0 } D T [.ref (a 2), .int x1] (wL E a T c_waveIsFresh c_peelingIsFresh c_n_count c_n_front c_n_least c_n_window c_n_pulses c_n_lengths c_n_fractions c_n_pulseTimes c_n_pulseEnergies c_n_sound c_n_seen c_hcount c_hp c_h0_count c_h0_front c_h0_least c_h0_window c_h0_pulses c_h0_lengths c_h0_fractions c_h0_pulseTimes c_h0_pulseEnergies c_h0_sound c_h0_seen c_h1_count c_h1_front c_h1_least c_h1_window c_h1_pulses c_h1_lengths c_h1_fractions c_h1_pulseTimes c_h1_pulseEnergies c_h1_sound c_h1_seen c_h2_count c_h2_front c_h2_least c_h2_window c_h2_pulses c_h2_lengths c_h2_fractions c_h2_pulseTimes c_h2_pulseEnergies c_h2_sound c_h2_seen c_s_length c_s_command c_s_position c_s_fault c_s_bytes c_s_numbers c_w_near c_w_far c_w_echoes c_w_totals c_p_result c_p_endTime c_q_count c_q_front c_q_least c_q_window c_q_pulses c_q_lengths c_q_fractions c_q_pulseTimes c_q_pulseEnergies c_t_near c_t_far c_t_echoes c_t_totals) (some (.int r)) (wL E a T c_waveIsFresh c_peelingIsFresh c_n_count c_n_front c_n_least c_n_window c_n_pulses c_n_lengths c_n_fractions c_n_pulseTimes c_n_pulseEnergies c_n_sound c_n_seen c_hcount c_hp c_h0_count c_h0_front c_h0_least c_h0_window c_h0_pulses c_h0_lengths c_h0_fractions c_h0_pulseTimes c_h0_pulseEnergies c_h0_sound c_h0_seen c_h1_count c_h1_front c_h1_least c_h1_window c_h1_pulses c_h1_lengths c_h1_fractions c_h1_pulseTimes c_h1_pulseEnergies c_h1_sound c_h1_seen c_h2_count c_h2_front c_h2_least c_h2_window c_h2_pulses c_h2_lengths c_h2_fractions c_h2_pulseTimes c_h2_pulseEnergies c_h2_sound c_h2_seen c_s_length c_s_command c_s_position c_s_fault c_s_bytes c_s_numbers c_w_near c_w_far c_w_echoes c_w_totals c_p_result c_p_endTime c_q_count c_q_front c_q_least c_q_window c_q_pulses c_q_lengths c_q_fractions c_q_pulseTimes c_q_pulseEnergies c_t_near c_t_far c_t_echoes c_t_totals) :=
  MetM.of [(0, .ref (a 2)), (1, .int x1)] (by decide) (Nat.le_of_ble_eq_true rfl) rfl (fun X C hret => Cb_B_partAtWayAndBack_n C hret hf)
def Cf_B_append_q_39 (c_q_count : Int32) (c_q_lengths : Nat → Int32) (c_q_fractions : Nat → Int32) : Option (Int32 × (Nat → Int32) × (Nat → Int32) × Int32) :=
  some (c_q_count, c_q_lengths, c_q_fractions, c_q_count)
set_option maxRecDepth 100000 in
set_option maxHeartbeats 4000000 in
theorem Cb_B_append_q_39 (C : Cx X (SFG E) T cX1_append RX1 (some .int) 3 0 0)  {o_q_count : Int32} {o_q_lengths : Nat → Int32} {o_q_fractions : Nat → Int32} {r : Int32} (hret : RetOK X 0 0 (some (.int r)) (wL E a T c_waveIsFresh c_peelingIsFresh c_n_count c_n_front c_n_least c_n_window c_n_pulses c_n_lengths c_n_fractions c_n_pulseTimes c_n_pulseEnergies c_n_sound c_n_seen c_hcount c_hp c_h0_count c_h0_front c_h0_least c_h0_window c_h0_pulses c_h0_lengths c_h0_fractions c_h0_pulseTimes c_h0_pulseEnergies c_h0_sound c_h0_seen c_h1_count c_h1_front c_h1_least c_h1_window c_h1_pulses c_h1_lengths c_h1_fractions c_h1_pulseTimes c_h1_pulseEnergies c_h1_sound c_h1_seen c_h2_count c_h2_front c_h2_least c_h2_window c_h2_pulses c_h2_lengths c_h2_fractions c_h2_pulseTimes c_h2_pulseEnergies c_h2_sound c_h2_seen c_s_length c_s_command c_s_position c_s_fault c_s_bytes c_s_numbers c_w_near c_w_far c_w_echoes c_w_totals c_p_result c_p_endTime o_q_count c_q_front c_q_least c_q_window c_q_pulses o_q_lengths o_q_fractions c_q_pulseTimes c_q_pulseEnergies c_t_near c_t_far c_t_echoes c_t_totals)) (hf : Cf_B_append_q_39 c_q_count c_q_lengths c_q_fractions = some (o_q_count, o_q_lengths, o_q_fractions, r)) : V X 0 0 (wL E a T c_waveIsFresh c_peelingIsFresh c_n_count c_n_front c_n_least c_n_window c_n_pulses c_n_lengths c_n_fractions c_n_pulseTimes c_n_pulseEnergies c_n_sound c_n_seen c_hcount c_hp c_h0_count c_h0_front c_h0_least c_h0_window c_h0_pulses c_h0_lengths c_h0_fractions c_h0_pulseTimes c_h0_pulseEnergies c_h0_sound c_h0_seen c_h1_count c_h1_front c_h1_least c_h1_window c_h1_pulses c_h1_lengths c_h1_fractions c_h1_pulseTimes c_h1_pulseEnergies c_h1_sound c_h1_seen c_h2_count c_h2_front c_h2_least c_h2_window c_h2_pulses c_h2_lengths c_h2_fractions c_h2_pulseTimes c_h2_pulseEnergies c_h2_sound c_h2_seen c_s_length c_s_command c_s_position c_s_fault c_s_bytes c_s_numbers c_w_near c_w_far c_w_echoes c_w_totals c_p_result c_p_endTime c_q_count c_q_front c_q_least c_q_window c_q_pulses c_q_lengths c_q_fractions c_q_pulseTimes c_q_pulseEnergies c_t_near c_t_far c_t_echoes c_t_totals) [(0, .ref (a 62))] 39 [] := by
  unfold Cf_B_append_q_39 at hf
  refine v_aload_n 0 C dX1_append_39 rfl rfl ?_
  refine Cg_62_count wfieldLink_RX1_9_LineEchoes_Bench_count_I C dX1_append_40 ?_
  cases hf
  exact v_iret C hret dX1_append_43
def Cf_B_append_q (c_q_count : Int32) (c_q_lengths : Nat → Int32) (c_q_fractions : Nat → Int32) (x1 : Int32) (x2 : Int32) : Option (Int32 × (Nat → Int32) × (Nat → Int32) × Int32) :=
  if (8 : Int32) ≤ c_q_count then
    Cf_B_append_q_39 c_q_count c_q_lengths c_q_fractions
  else
    chk (inb c_q_count 8) <| nm (upd c_q_lengths c_q_count.toNatClampNeg x1) fun q_lengths_18 =>
    chk (inb c_q_count 8) <| nm (upd c_q_fractions c_q_count.toNatClampNeg x2) fun q_fractions_28 =>
    nm (c_q_count + (1 : Int32)) fun z35 =>
    Cf_B_append_q_39 z35 q_lengths_18 q_fractions_28
set_option maxRecDepth 100000 in
set_option maxHeartbeats 4000000 in
theorem Cb_B_append_q (C : Cx X (SFG E) T cX1_append RX1 (some .int) 3 0 0) {x1 : Int32} {x2 : Int32} {o_q_count : Int32} {o_q_lengths : Nat → Int32} {o_q_fractions : Nat → Int32} {r : Int32} (hret : RetOK X 0 0 (some (.int r)) (wL E a T c_waveIsFresh c_peelingIsFresh c_n_count c_n_front c_n_least c_n_window c_n_pulses c_n_lengths c_n_fractions c_n_pulseTimes c_n_pulseEnergies c_n_sound c_n_seen c_hcount c_hp c_h0_count c_h0_front c_h0_least c_h0_window c_h0_pulses c_h0_lengths c_h0_fractions c_h0_pulseTimes c_h0_pulseEnergies c_h0_sound c_h0_seen c_h1_count c_h1_front c_h1_least c_h1_window c_h1_pulses c_h1_lengths c_h1_fractions c_h1_pulseTimes c_h1_pulseEnergies c_h1_sound c_h1_seen c_h2_count c_h2_front c_h2_least c_h2_window c_h2_pulses c_h2_lengths c_h2_fractions c_h2_pulseTimes c_h2_pulseEnergies c_h2_sound c_h2_seen c_s_length c_s_command c_s_position c_s_fault c_s_bytes c_s_numbers c_w_near c_w_far c_w_echoes c_w_totals c_p_result c_p_endTime o_q_count c_q_front c_q_least c_q_window c_q_pulses o_q_lengths o_q_fractions c_q_pulseTimes c_q_pulseEnergies c_t_near c_t_far c_t_echoes c_t_totals)) (hf : Cf_B_append_q c_q_count c_q_lengths c_q_fractions x1 x2 = some (o_q_count, o_q_lengths, o_q_fractions, r)) : V X 0 0 (wL E a T c_waveIsFresh c_peelingIsFresh c_n_count c_n_front c_n_least c_n_window c_n_pulses c_n_lengths c_n_fractions c_n_pulseTimes c_n_pulseEnergies c_n_sound c_n_seen c_hcount c_hp c_h0_count c_h0_front c_h0_least c_h0_window c_h0_pulses c_h0_lengths c_h0_fractions c_h0_pulseTimes c_h0_pulseEnergies c_h0_sound c_h0_seen c_h1_count c_h1_front c_h1_least c_h1_window c_h1_pulses c_h1_lengths c_h1_fractions c_h1_pulseTimes c_h1_pulseEnergies c_h1_sound c_h1_seen c_h2_count c_h2_front c_h2_least c_h2_window c_h2_pulses c_h2_lengths c_h2_fractions c_h2_pulseTimes c_h2_pulseEnergies c_h2_sound c_h2_seen c_s_length c_s_command c_s_position c_s_fault c_s_bytes c_s_numbers c_w_near c_w_far c_w_echoes c_w_totals c_p_result c_p_endTime c_q_count c_q_front c_q_least c_q_window c_q_pulses c_q_lengths c_q_fractions c_q_pulseTimes c_q_pulseEnergies c_t_near c_t_far c_t_echoes c_t_totals) [(0, .ref (a 62)), (1, .int x1), (2, .int x2)] 0 [] := by
  unfold Cf_B_append_q at hf
  refine v_aload_n 0 C dX1_append_0 rfl rfl ?_
  refine Cg_62_count wfieldLink_RX1_9_LineEchoes_Bench_count_I C dX1_append_1 ?_
  refine v_bipush (v := 8) C dX1_append_4 (by decide) ?_
  refine v_icmp_ge 39 C dX1_append_6 (by decide) hf (fun c hf => ?_) (fun c hf => ?_)
  · refine v_lv [(0, .ref (a 62))] [0] rfl ?_
    exact Cb_B_append_q_39 C hret hf
  · refine v_aload_n 0 C dX1_append_9 rfl rfl ?_
    refine Cg_62_lengths wfieldLink_RX1_15_LineEchoes_Bench_lengths_I C dX1_append_10 ?_
    refine v_aload_n 0 C dX1_append_13 rfl rfl ?_
    refine Cg_62_count wfieldLink_RX1_9_LineEchoes_Bench_count_I C dX1_append_14 ?_
    refine v_iload_n 1 C dX1_append_17 rfl rfl ?_
    refine Cas_63 C dX1_append_18 hf (fun q_lengths_18 hf => ?_)
    refine v_aload_n 0 C dX1_append_19 rfl rfl ?_
    refine Cg_62_fractions wfieldLink_RX1_19_LineEchoes_Bench_fractions_I C dX1_append_20 ?_
    refine v_aload_n 0 C dX1_append_23 rfl rfl ?_
    refine Cg_62_count wfieldLink_RX1_9_LineEchoes_Bench_count_I C dX1_append_24 ?_
    refine v_iload_n 2 C dX1_append_27 rfl rfl ?_
    refine Cas_64 C dX1_append_28 hf (fun q_fractions_28 hf => ?_)
    refine v_aload_n 0 C dX1_append_29 rfl rfl ?_
    refine v_dup C dX1_append_30 rfl ?_
    refine Cg_62_count wfieldLink_RX1_9_LineEchoes_Bench_count_I C dX1_append_31 ?_
    refine v_iconst (v := 1) C dX1_append_34 (by decide) ?_
    refine v_iadd C dX1_append_35 hf (fun z35 hf => ?_)
    refine Cp_62_count wfieldLink_RX1_9_LineEchoes_Bench_count_I C dX1_append_36 ?_
    refine v_lv [(0, .ref (a 62))] [0] rfl ?_
    exact Cb_B_append_q_39 C hret hf
set_option maxRecDepth 100000 in
set_option maxHeartbeats 4000000 in
theorem Cm_B_append_q {D : va_G} {x1 : Int32} {x2 : Int32} {o_q_count : Int32} {o_q_lengths : Nat → Int32} {o_q_fractions : Nat → Int32} {r : Int32} (hf : Cf_B_append_q c_q_count c_q_lengths c_q_fractions x1 x2 = some (o_q_count, o_q_lengths, o_q_fractions, r)) : MetM (SFG E) yX1_append cX1_append 3 (some .int) { frames := 0, cells := 0, slots := 0, locals := 0 } D T [.ref (a 62), .int x1, .int x2] (wL E a T c_waveIsFresh c_peelingIsFresh c_n_count c_n_front c_n_least c_n_window c_n_pulses c_n_lengths c_n_fractions c_n_pulseTimes c_n_pulseEnergies c_n_sound c_n_seen c_hcount c_hp c_h0_count c_h0_front c_h0_least c_h0_window c_h0_pulses c_h0_lengths c_h0_fractions c_h0_pulseTimes c_h0_pulseEnergies c_h0_sound c_h0_seen c_h1_count c_h1_front c_h1_least c_h1_window c_h1_pulses c_h1_lengths c_h1_fractions c_h1_pulseTimes c_h1_pulseEnergies c_h1_sound c_h1_seen c_h2_count c_h2_front c_h2_least c_h2_window c_h2_pulses c_h2_lengths c_h2_fractions c_h2_pulseTimes c_h2_pulseEnergies c_h2_sound c_h2_seen c_s_length c_s_command c_s_position c_s_fault c_s_bytes c_s_numbers c_w_near c_w_far c_w_echoes c_w_totals c_p_result c_p_endTime c_q_count c_q_front c_q_least c_q_window c_q_pulses c_q_lengths c_q_fractions c_q_pulseTimes c_q_pulseEnergies c_t_near c_t_far c_t_echoes c_t_totals) (some (.int r)) (wL E a T c_waveIsFresh c_peelingIsFresh c_n_count c_n_front c_n_least c_n_window c_n_pulses c_n_lengths c_n_fractions c_n_pulseTimes c_n_pulseEnergies c_n_sound c_n_seen c_hcount c_hp c_h0_count c_h0_front c_h0_least c_h0_window c_h0_pulses c_h0_lengths c_h0_fractions c_h0_pulseTimes c_h0_pulseEnergies c_h0_sound c_h0_seen c_h1_count c_h1_front c_h1_least c_h1_window c_h1_pulses c_h1_lengths c_h1_fractions c_h1_pulseTimes c_h1_pulseEnergies c_h1_sound c_h1_seen c_h2_count c_h2_front c_h2_least c_h2_window c_h2_pulses c_h2_lengths c_h2_fractions c_h2_pulseTimes c_h2_pulseEnergies c_h2_sound c_h2_seen c_s_length c_s_command c_s_position c_s_fault c_s_bytes c_s_numbers c_w_near c_w_far c_w_echoes c_w_totals c_p_result c_p_endTime o_q_count c_q_front c_q_least c_q_window c_q_pulses o_q_lengths o_q_fractions c_q_pulseTimes c_q_pulseEnergies c_t_near c_t_far c_t_echoes c_t_totals) :=
  MetM.of [(0, .ref (a 62)), (1, .int x1), (2, .int x2)] (by decide) (Nat.le_of_ble_eq_true rfl) rfl (fun X C hret => Cb_B_append_q C hret hf)
def Cl_B_reach_q_4 (c_q_lengths : Nat → Int32) (x1 : Int32) : Nat → Int32 → Int32 → Option Int32
  | 0, _, _ => none
  | n + 1, x2, x3 =>
    if x1 ≤ x3 then
      some x2
    else
      if (8 : Int32) ≤ x3 then
        some x2
      else
        chk (inb x3 8) <| nm (c_q_lengths x3.toNatClampNeg) fun z21 =>
        nm (x2 + z21) fun z22 =>
        nm (x3 + (1 : Int32)) fun x3_24 =>
        Cl_B_reach_q_4 c_q_lengths x1 n z22 x3_24
set_option maxRecDepth 100000 in
set_option maxHeartbeats 4000000 in
theorem Ck_B_reach_q_4 (C : Cx X (SFG E) T cX1_reach RX1 (some .int) 4 0 0) {x1 : Int32} {y2 : Int32} (hk : V X 0 0 (wL E a T c_waveIsFresh c_peelingIsFresh c_n_count c_n_front c_n_least c_n_window c_n_pulses c_n_lengths c_n_fractions c_n_pulseTimes c_n_pulseEnergies c_n_sound c_n_seen c_hcount c_hp c_h0_count c_h0_front c_h0_least c_h0_window c_h0_pulses c_h0_lengths c_h0_fractions c_h0_pulseTimes c_h0_pulseEnergies c_h0_sound c_h0_seen c_h1_count c_h1_front c_h1_least c_h1_window c_h1_pulses c_h1_lengths c_h1_fractions c_h1_pulseTimes c_h1_pulseEnergies c_h1_sound c_h1_seen c_h2_count c_h2_front c_h2_least c_h2_window c_h2_pulses c_h2_lengths c_h2_fractions c_h2_pulseTimes c_h2_pulseEnergies c_h2_sound c_h2_seen c_s_length c_s_command c_s_position c_s_fault c_s_bytes c_s_numbers c_w_near c_w_far c_w_echoes c_w_totals c_p_result c_p_endTime c_q_count c_q_front c_q_least c_q_window c_q_pulses c_q_lengths c_q_fractions c_q_pulseTimes c_q_pulseEnergies c_t_near c_t_far c_t_echoes c_t_totals) [(2, .int y2)] 30 []) : ∀ (n : Nat) (x2 : Int32) (x3 : Int32), Cl_B_reach_q_4 c_q_lengths x1 n x2 x3 = some y2 → V X 0 0 (wL E a T c_waveIsFresh c_peelingIsFresh c_n_count c_n_front c_n_least c_n_window c_n_pulses c_n_lengths c_n_fractions c_n_pulseTimes c_n_pulseEnergies c_n_sound c_n_seen c_hcount c_hp c_h0_count c_h0_front c_h0_least c_h0_window c_h0_pulses c_h0_lengths c_h0_fractions c_h0_pulseTimes c_h0_pulseEnergies c_h0_sound c_h0_seen c_h1_count c_h1_front c_h1_least c_h1_window c_h1_pulses c_h1_lengths c_h1_fractions c_h1_pulseTimes c_h1_pulseEnergies c_h1_sound c_h1_seen c_h2_count c_h2_front c_h2_least c_h2_window c_h2_pulses c_h2_lengths c_h2_fractions c_h2_pulseTimes c_h2_pulseEnergies c_h2_sound c_h2_seen c_s_length c_s_command c_s_position c_s_fault c_s_bytes c_s_numbers c_w_near c_w_far c_w_echoes c_w_totals c_p_result c_p_endTime c_q_count c_q_front c_q_least c_q_window c_q_pulses c_q_lengths c_q_fractions c_q_pulseTimes c_q_pulseEnergies c_t_near c_t_far c_t_echoes c_t_totals) [(0, .ref (a 62)), (1, .int x1), (2, .int x2), (3, .int x3)] 4 [] := by
  intro n
  induction n with
  | zero =>
    intro _ _ hf
    cases hf
  | succ n hrec =>
    intro x2 x3 hf
    rw [Cl_B_reach_q_4] at hf
    refine v_iload_n 3 C dX1_reach_4 rfl rfl ?_
    refine v_iload_n 1 C dX1_reach_5 rfl rfl ?_
    refine v_icmp_ge 30 C dX1_reach_6 (by decide) hf (fun c hf => ?_) (fun c hf => ?_)
    · refine v_lv [(2, .int x2)] [2] rfl ?_
      cases hf
      exact hk
    · refine v_iload_n 3 C dX1_reach_9 rfl rfl ?_
      refine v_bipush (v := 8) C dX1_reach_10 (by decide) ?_
      refine v_icmp_ge 30 C dX1_reach_12 (by decide) hf (fun c hf => ?_) (fun c hf => ?_)
      · refine v_lv [(2, .int x2)] [2] rfl ?_
        cases hf
        exact hk
      · refine v_iload_n 2 C dX1_reach_15 rfl rfl ?_
        refine v_aload_n 0 C dX1_reach_16 rfl rfl ?_
        refine Cg_62_lengths wfieldLink_RX1_15_LineEchoes_Bench_lengths_I C dX1_reach_17 ?_
        refine v_iload_n 3 C dX1_reach_20 rfl rfl ?_
        refine Cal_63 C dX1_reach_21 hf (fun z21 hf => ?_)
        refine v_iadd C dX1_reach_22 hf (fun z22 hf => ?_)
        refine v_istore_n [(0, .ref (a 62)), (1, .int x1), (2, .int z22), (3, .int x3)] [1, 2, 0, 3] C dX1_reach_23 rfl (by decide) rfl ?_
        refine v_iinc (fun x3_24 => [(0, .ref (a 62)), (1, .int x1), (2, .int z22), (3, .int x3_24)]) [1, 2, 3, 0] C dX1_reach_24 (j := 3) rfl (dv := 1) (by decide) (by decide) (fun _ => rfl) hf (fun x3_24 hf => ?_)
        refine v_goto 4 C dX1_reach_27 (by decide) ?_
        exact hrec _ _ hf
def Cf_B_reach_q_30 (x2 : Int32) : Option Int32 :=
  some x2
set_option maxRecDepth 100000 in
set_option maxHeartbeats 4000000 in
theorem Cb_B_reach_q_30 (C : Cx X (SFG E) T cX1_reach RX1 (some .int) 4 0 0) {x2 : Int32} {r : Int32} (hret : RetOK X 0 0 (some (.int r)) (wL E a T c_waveIsFresh c_peelingIsFresh c_n_count c_n_front c_n_least c_n_window c_n_pulses c_n_lengths c_n_fractions c_n_pulseTimes c_n_pulseEnergies c_n_sound c_n_seen c_hcount c_hp c_h0_count c_h0_front c_h0_least c_h0_window c_h0_pulses c_h0_lengths c_h0_fractions c_h0_pulseTimes c_h0_pulseEnergies c_h0_sound c_h0_seen c_h1_count c_h1_front c_h1_least c_h1_window c_h1_pulses c_h1_lengths c_h1_fractions c_h1_pulseTimes c_h1_pulseEnergies c_h1_sound c_h1_seen c_h2_count c_h2_front c_h2_least c_h2_window c_h2_pulses c_h2_lengths c_h2_fractions c_h2_pulseTimes c_h2_pulseEnergies c_h2_sound c_h2_seen c_s_length c_s_command c_s_position c_s_fault c_s_bytes c_s_numbers c_w_near c_w_far c_w_echoes c_w_totals c_p_result c_p_endTime c_q_count c_q_front c_q_least c_q_window c_q_pulses c_q_lengths c_q_fractions c_q_pulseTimes c_q_pulseEnergies c_t_near c_t_far c_t_echoes c_t_totals)) (hf : Cf_B_reach_q_30 x2 = some r) : V X 0 0 (wL E a T c_waveIsFresh c_peelingIsFresh c_n_count c_n_front c_n_least c_n_window c_n_pulses c_n_lengths c_n_fractions c_n_pulseTimes c_n_pulseEnergies c_n_sound c_n_seen c_hcount c_hp c_h0_count c_h0_front c_h0_least c_h0_window c_h0_pulses c_h0_lengths c_h0_fractions c_h0_pulseTimes c_h0_pulseEnergies c_h0_sound c_h0_seen c_h1_count c_h1_front c_h1_least c_h1_window c_h1_pulses c_h1_lengths c_h1_fractions c_h1_pulseTimes c_h1_pulseEnergies c_h1_sound c_h1_seen c_h2_count c_h2_front c_h2_least c_h2_window c_h2_pulses c_h2_lengths c_h2_fractions c_h2_pulseTimes c_h2_pulseEnergies c_h2_sound c_h2_seen c_s_length c_s_command c_s_position c_s_fault c_s_bytes c_s_numbers c_w_near c_w_far c_w_echoes c_w_totals c_p_result c_p_endTime c_q_count c_q_front c_q_least c_q_window c_q_pulses c_q_lengths c_q_fractions c_q_pulseTimes c_q_pulseEnergies c_t_near c_t_far c_t_echoes c_t_totals) [(2, .int x2)] 30 [] := by
  unfold Cf_B_reach_q_30 at hf
  refine v_iload_n 0 C dX1_reach_30 rfl rfl ?_
  cases hf
  exact v_iret C hret dX1_reach_31
def Cf_B_reach_q (c_q_lengths : Nat → Int32) (x1 : Int32) : Option Int32 :=
  bd (Cl_B_reach_q_4 c_q_lengths x1 FUEL (0 : Int32) (0 : Int32)) fun y2_4 =>
  Cf_B_reach_q_30 y2_4
set_option maxRecDepth 100000 in
set_option maxHeartbeats 4000000 in
theorem Cb_B_reach_q (C : Cx X (SFG E) T cX1_reach RX1 (some .int) 4 0 0) {x1 : Int32} {r : Int32} (hret : RetOK X 0 0 (some (.int r)) (wL E a T c_waveIsFresh c_peelingIsFresh c_n_count c_n_front c_n_least c_n_window c_n_pulses c_n_lengths c_n_fractions c_n_pulseTimes c_n_pulseEnergies c_n_sound c_n_seen c_hcount c_hp c_h0_count c_h0_front c_h0_least c_h0_window c_h0_pulses c_h0_lengths c_h0_fractions c_h0_pulseTimes c_h0_pulseEnergies c_h0_sound c_h0_seen c_h1_count c_h1_front c_h1_least c_h1_window c_h1_pulses c_h1_lengths c_h1_fractions c_h1_pulseTimes c_h1_pulseEnergies c_h1_sound c_h1_seen c_h2_count c_h2_front c_h2_least c_h2_window c_h2_pulses c_h2_lengths c_h2_fractions c_h2_pulseTimes c_h2_pulseEnergies c_h2_sound c_h2_seen c_s_length c_s_command c_s_position c_s_fault c_s_bytes c_s_numbers c_w_near c_w_far c_w_echoes c_w_totals c_p_result c_p_endTime c_q_count c_q_front c_q_least c_q_window c_q_pulses c_q_lengths c_q_fractions c_q_pulseTimes c_q_pulseEnergies c_t_near c_t_far c_t_echoes c_t_totals)) (hf : Cf_B_reach_q c_q_lengths x1 = some r) : V X 0 0 (wL E a T c_waveIsFresh c_peelingIsFresh c_n_count c_n_front c_n_least c_n_window c_n_pulses c_n_lengths c_n_fractions c_n_pulseTimes c_n_pulseEnergies c_n_sound c_n_seen c_hcount c_hp c_h0_count c_h0_front c_h0_least c_h0_window c_h0_pulses c_h0_lengths c_h0_fractions c_h0_pulseTimes c_h0_pulseEnergies c_h0_sound c_h0_seen c_h1_count c_h1_front c_h1_least c_h1_window c_h1_pulses c_h1_lengths c_h1_fractions c_h1_pulseTimes c_h1_pulseEnergies c_h1_sound c_h1_seen c_h2_count c_h2_front c_h2_least c_h2_window c_h2_pulses c_h2_lengths c_h2_fractions c_h2_pulseTimes c_h2_pulseEnergies c_h2_sound c_h2_seen c_s_length c_s_command c_s_position c_s_fault c_s_bytes c_s_numbers c_w_near c_w_far c_w_echoes c_w_totals c_p_result c_p_endTime c_q_count c_q_front c_q_least c_q_window c_q_pulses c_q_lengths c_q_fractions c_q_pulseTimes c_q_pulseEnergies c_t_near c_t_far c_t_echoes c_t_totals) [(0, .ref (a 62)), (1, .int x1)] 0 [] := by
  unfold Cf_B_reach_q at hf
  refine v_iconst (v := 0) C dX1_reach_0 (by decide) ?_
  refine v_istore_n [(0, .ref (a 62)), (1, .int x1), (2, .int (0 : Int32))] [1, 2, 0] C dX1_reach_1 rfl (by decide) rfl ?_
  refine v_iconst (v := 0) C dX1_reach_2 (by decide) ?_
  refine v_istore_n [(0, .ref (a 62)), (1, .int x1), (2, .int (0 : Int32)), (3, .int (0 : Int32))] [1, 2, 3, 0] C dX1_reach_3 rfl (by decide) rfl ?_
  obtain ⟨y2_4, hc, hf⟩ := bd_some hf
  refine Ck_B_reach_q_4 C ?_ _ _ _ hc
  exact Cb_B_reach_q_30 C hret hf
set_option maxRecDepth 100000 in
set_option maxHeartbeats 4000000 in
theorem Cm_B_reach_q {D : va_G} {x1 : Int32} {r : Int32} (hf : Cf_B_reach_q c_q_lengths x1 = some r) : MetM (SFG E) yX1_reach cX1_reach 4 (some .int) { frames := 0, cells := 0, slots := 0, locals := 0 } D T [.ref (a 62), .int x1] (wL E a T c_waveIsFresh c_peelingIsFresh c_n_count c_n_front c_n_least c_n_window c_n_pulses c_n_lengths c_n_fractions c_n_pulseTimes c_n_pulseEnergies c_n_sound c_n_seen c_hcount c_hp c_h0_count c_h0_front c_h0_least c_h0_window c_h0_pulses c_h0_lengths c_h0_fractions c_h0_pulseTimes c_h0_pulseEnergies c_h0_sound c_h0_seen c_h1_count c_h1_front c_h1_least c_h1_window c_h1_pulses c_h1_lengths c_h1_fractions c_h1_pulseTimes c_h1_pulseEnergies c_h1_sound c_h1_seen c_h2_count c_h2_front c_h2_least c_h2_window c_h2_pulses c_h2_lengths c_h2_fractions c_h2_pulseTimes c_h2_pulseEnergies c_h2_sound c_h2_seen c_s_length c_s_command c_s_position c_s_fault c_s_bytes c_s_numbers c_w_near c_w_far c_w_echoes c_w_totals c_p_result c_p_endTime c_q_count c_q_front c_q_least c_q_window c_q_pulses c_q_lengths c_q_fractions c_q_pulseTimes c_q_pulseEnergies c_t_near c_t_far c_t_echoes c_t_totals) (some (.int r)) (wL E a T c_waveIsFresh c_peelingIsFresh c_n_count c_n_front c_n_least c_n_window c_n_pulses c_n_lengths c_n_fractions c_n_pulseTimes c_n_pulseEnergies c_n_sound c_n_seen c_hcount c_hp c_h0_count c_h0_front c_h0_least c_h0_window c_h0_pulses c_h0_lengths c_h0_fractions c_h0_pulseTimes c_h0_pulseEnergies c_h0_sound c_h0_seen c_h1_count c_h1_front c_h1_least c_h1_window c_h1_pulses c_h1_lengths c_h1_fractions c_h1_pulseTimes c_h1_pulseEnergies c_h1_sound c_h1_seen c_h2_count c_h2_front c_h2_least c_h2_window c_h2_pulses c_h2_lengths c_h2_fractions c_h2_pulseTimes c_h2_pulseEnergies c_h2_sound c_h2_seen c_s_length c_s_command c_s_position c_s_fault c_s_bytes c_s_numbers c_w_near c_w_far c_w_echoes c_w_totals c_p_result c_p_endTime c_q_count c_q_front c_q_least c_q_window c_q_pulses c_q_lengths c_q_fractions c_q_pulseTimes c_q_pulseEnergies c_t_near c_t_far c_t_echoes c_t_totals) :=
  MetM.of [(0, .ref (a 62)), (1, .int x1)] (by decide) (Nat.le_of_ble_eq_true rfl) rfl (fun X C hret => Cb_B_reach_q C hret hf)
def Cf_B_takeLine_n_q (c_n_count : Int32) (c_n_lengths : Nat → Int32) (c_n_fractions : Nat → Int32) (c_q_count : Int32) (c_q_lengths : Nat → Int32) (c_q_fractions : Nat → Int32) : Option (Int32 × (Nat → Int32) × (Nat → Int32)) :=
  nm (va_cpy c_q_lengths c_n_lengths 0 0 8) fun n_lengths_20 =>
  nm (va_cpy c_q_fractions c_n_fractions 0 0 8) fun n_fractions_35 =>
  some (c_q_count, n_lengths_20, n_fractions_35)
set_option maxRecDepth 100000 in
set_option maxHeartbeats 4000000 in
theorem Cb_B_takeLine_n_q (C : Cx X (SFG E) T cX1_takeLine RX1 none 2 1 60)  {o_n_count : Int32} {o_n_lengths : Nat → Int32} {o_n_fractions : Nat → Int32} (hret : RetOK X 0 0 none (wL E a T c_waveIsFresh c_peelingIsFresh o_n_count c_n_front c_n_least c_n_window c_n_pulses o_n_lengths o_n_fractions c_n_pulseTimes c_n_pulseEnergies c_n_sound c_n_seen c_hcount c_hp c_h0_count c_h0_front c_h0_least c_h0_window c_h0_pulses c_h0_lengths c_h0_fractions c_h0_pulseTimes c_h0_pulseEnergies c_h0_sound c_h0_seen c_h1_count c_h1_front c_h1_least c_h1_window c_h1_pulses c_h1_lengths c_h1_fractions c_h1_pulseTimes c_h1_pulseEnergies c_h1_sound c_h1_seen c_h2_count c_h2_front c_h2_least c_h2_window c_h2_pulses c_h2_lengths c_h2_fractions c_h2_pulseTimes c_h2_pulseEnergies c_h2_sound c_h2_seen c_s_length c_s_command c_s_position c_s_fault c_s_bytes c_s_numbers c_w_near c_w_far c_w_echoes c_w_totals c_p_result c_p_endTime c_q_count c_q_front c_q_least c_q_window c_q_pulses c_q_lengths c_q_fractions c_q_pulseTimes c_q_pulseEnergies c_t_near c_t_far c_t_echoes c_t_totals)) (hf : Cf_B_takeLine_n_q c_n_count c_n_lengths c_n_fractions c_q_count c_q_lengths c_q_fractions = some (o_n_count, o_n_lengths, o_n_fractions)) : V X 0 0 (wL E a T c_waveIsFresh c_peelingIsFresh c_n_count c_n_front c_n_least c_n_window c_n_pulses c_n_lengths c_n_fractions c_n_pulseTimes c_n_pulseEnergies c_n_sound c_n_seen c_hcount c_hp c_h0_count c_h0_front c_h0_least c_h0_window c_h0_pulses c_h0_lengths c_h0_fractions c_h0_pulseTimes c_h0_pulseEnergies c_h0_sound c_h0_seen c_h1_count c_h1_front c_h1_least c_h1_window c_h1_pulses c_h1_lengths c_h1_fractions c_h1_pulseTimes c_h1_pulseEnergies c_h1_sound c_h1_seen c_h2_count c_h2_front c_h2_least c_h2_window c_h2_pulses c_h2_lengths c_h2_fractions c_h2_pulseTimes c_h2_pulseEnergies c_h2_sound c_h2_seen c_s_length c_s_command c_s_position c_s_fault c_s_bytes c_s_numbers c_w_near c_w_far c_w_echoes c_w_totals c_p_result c_p_endTime c_q_count c_q_front c_q_least c_q_window c_q_pulses c_q_lengths c_q_fractions c_q_pulseTimes c_q_pulseEnergies c_t_near c_t_far c_t_echoes c_t_totals) [(0, .ref (a 2)), (1, .ref (a 62))] 0 [] := by
  unfold Cf_B_takeLine_n_q at hf
  refine v_aload_n 0 C dX1_takeLine_0 rfl rfl ?_
  refine v_aload_n 1 C dX1_takeLine_1 rfl rfl ?_
  refine Cg_62_count wfieldLink_RX1_9_LineEchoes_Bench_count_I C dX1_takeLine_2 ?_
  refine Cp_2_count wfieldLink_RX1_9_LineEchoes_Bench_count_I C dX1_takeLine_5 ?_
  refine v_aload_n 1 C dX1_takeLine_8 rfl rfl ?_
  refine Cg_62_lengths wfieldLink_RX1_15_LineEchoes_Bench_lengths_I C dX1_takeLine_9 ?_
  refine v_iconst (v := 0) C dX1_takeLine_12 (by decide) ?_
  refine v_aload_n 0 C dX1_takeLine_13 rfl rfl ?_
  refine Cg_2_lengths wfieldLink_RX1_15_LineEchoes_Bench_lengths_I C dX1_takeLine_14 ?_
  refine v_iconst (v := 0) C dX1_takeLine_17 (by decide) ?_
  refine v_bipush (v := 8) C dX1_takeLine_18 (by decide) ?_
  refine Ccp_63_3 wmethodLink_RX1_48_arraycopyName C dX1_takeLine_20 (by decide) (Nat.le_of_ble_eq_true rfl) hf (fun n_lengths_20 hf => ?_)
  refine v_aload_n 1 C dX1_takeLine_23 rfl rfl ?_
  refine Cg_62_fractions wfieldLink_RX1_19_LineEchoes_Bench_fractions_I C dX1_takeLine_24 ?_
  refine v_iconst (v := 0) C dX1_takeLine_27 (by decide) ?_
  refine v_aload_n 0 C dX1_takeLine_28 rfl rfl ?_
  refine Cg_2_fractions wfieldLink_RX1_19_LineEchoes_Bench_fractions_I C dX1_takeLine_29 ?_
  refine v_iconst (v := 0) C dX1_takeLine_32 (by decide) ?_
  refine v_bipush (v := 8) C dX1_takeLine_33 (by decide) ?_
  refine Ccp_64_4 wmethodLink_RX1_48_arraycopyName C dX1_takeLine_35 (by decide) (Nat.le_of_ble_eq_true rfl) hf (fun n_fractions_35 hf => ?_)
  cases hf
  exact v_vret C hret dX1_takeLine_38
set_option maxRecDepth 100000 in
set_option maxHeartbeats 4000000 in
theorem Cm_B_takeLine_n_q {D : va_G}  {o_n_count : Int32} {o_n_lengths : Nat → Int32} {o_n_fractions : Nat → Int32} (hf : Cf_B_takeLine_n_q c_n_count c_n_lengths c_n_fractions c_q_count c_q_lengths c_q_fractions = some (o_n_count, o_n_lengths, o_n_fractions)) : MetM (SFG E) yX1_takeLine cX1_takeLine 2 none { frames := 1, cells := 0, slots := 0, locals := 60 } D T [.ref (a 2), .ref (a 62)] (wL E a T c_waveIsFresh c_peelingIsFresh c_n_count c_n_front c_n_least c_n_window c_n_pulses c_n_lengths c_n_fractions c_n_pulseTimes c_n_pulseEnergies c_n_sound c_n_seen c_hcount c_hp c_h0_count c_h0_front c_h0_least c_h0_window c_h0_pulses c_h0_lengths c_h0_fractions c_h0_pulseTimes c_h0_pulseEnergies c_h0_sound c_h0_seen c_h1_count c_h1_front c_h1_least c_h1_window c_h1_pulses c_h1_lengths c_h1_fractions c_h1_pulseTimes c_h1_pulseEnergies c_h1_sound c_h1_seen c_h2_count c_h2_front c_h2_least c_h2_window c_h2_pulses c_h2_lengths c_h2_fractions c_h2_pulseTimes c_h2_pulseEnergies c_h2_sound c_h2_seen c_s_length c_s_command c_s_position c_s_fault c_s_bytes c_s_numbers c_w_near c_w_far c_w_echoes c_w_totals c_p_result c_p_endTime c_q_count c_q_front c_q_least c_q_window c_q_pulses c_q_lengths c_q_fractions c_q_pulseTimes c_q_pulseEnergies c_t_near c_t_far c_t_echoes c_t_totals) none (wL E a T c_waveIsFresh c_peelingIsFresh o_n_count c_n_front c_n_least c_n_window c_n_pulses o_n_lengths o_n_fractions c_n_pulseTimes c_n_pulseEnergies c_n_sound c_n_seen c_hcount c_hp c_h0_count c_h0_front c_h0_least c_h0_window c_h0_pulses c_h0_lengths c_h0_fractions c_h0_pulseTimes c_h0_pulseEnergies c_h0_sound c_h0_seen c_h1_count c_h1_front c_h1_least c_h1_window c_h1_pulses c_h1_lengths c_h1_fractions c_h1_pulseTimes c_h1_pulseEnergies c_h1_sound c_h1_seen c_h2_count c_h2_front c_h2_least c_h2_window c_h2_pulses c_h2_lengths c_h2_fractions c_h2_pulseTimes c_h2_pulseEnergies c_h2_sound c_h2_seen c_s_length c_s_command c_s_position c_s_fault c_s_bytes c_s_numbers c_w_near c_w_far c_w_echoes c_w_totals c_p_result c_p_endTime c_q_count c_q_front c_q_least c_q_window c_q_pulses c_q_lengths c_q_fractions c_q_pulseTimes c_q_pulseEnergies c_t_near c_t_far c_t_echoes c_t_totals) :=
  MetM.of [(0, .ref (a 2)), (1, .ref (a 62))] (by decide) (Nat.le_of_ble_eq_true rfl) rfl (fun X C hret => Cb_B_takeLine_n_q C hret hf)
def Cf_B_takeSettings_q_n (c_n_front : Int32) (c_n_least : Int32) (c_n_window : Int32) (c_q_front : Int32) (c_q_least : Int32) (c_q_window : Int32) : Option (Int32 × Int32 × Int32) :=
  some (c_n_front, c_n_least, c_n_window)
set_option maxRecDepth 100000 in
set_option maxHeartbeats 4000000 in
theorem Cb_B_takeSettings_q_n (C : Cx X (SFG E) T cX1_takeSettings RX1 none 2 0 0)  {o_q_front : Int32} {o_q_least : Int32} {o_q_window : Int32} (hret : RetOK X 0 0 none (wL E a T c_waveIsFresh c_peelingIsFresh c_n_count c_n_front c_n_least c_n_window c_n_pulses c_n_lengths c_n_fractions c_n_pulseTimes c_n_pulseEnergies c_n_sound c_n_seen c_hcount c_hp c_h0_count c_h0_front c_h0_least c_h0_window c_h0_pulses c_h0_lengths c_h0_fractions c_h0_pulseTimes c_h0_pulseEnergies c_h0_sound c_h0_seen c_h1_count c_h1_front c_h1_least c_h1_window c_h1_pulses c_h1_lengths c_h1_fractions c_h1_pulseTimes c_h1_pulseEnergies c_h1_sound c_h1_seen c_h2_count c_h2_front c_h2_least c_h2_window c_h2_pulses c_h2_lengths c_h2_fractions c_h2_pulseTimes c_h2_pulseEnergies c_h2_sound c_h2_seen c_s_length c_s_command c_s_position c_s_fault c_s_bytes c_s_numbers c_w_near c_w_far c_w_echoes c_w_totals c_p_result c_p_endTime c_q_count o_q_front o_q_least o_q_window c_q_pulses c_q_lengths c_q_fractions c_q_pulseTimes c_q_pulseEnergies c_t_near c_t_far c_t_echoes c_t_totals)) (hf : Cf_B_takeSettings_q_n c_n_front c_n_least c_n_window c_q_front c_q_least c_q_window = some (o_q_front, o_q_least, o_q_window)) : V X 0 0 (wL E a T c_waveIsFresh c_peelingIsFresh c_n_count c_n_front c_n_least c_n_window c_n_pulses c_n_lengths c_n_fractions c_n_pulseTimes c_n_pulseEnergies c_n_sound c_n_seen c_hcount c_hp c_h0_count c_h0_front c_h0_least c_h0_window c_h0_pulses c_h0_lengths c_h0_fractions c_h0_pulseTimes c_h0_pulseEnergies c_h0_sound c_h0_seen c_h1_count c_h1_front c_h1_least c_h1_window c_h1_pulses c_h1_lengths c_h1_fractions c_h1_pulseTimes c_h1_pulseEnergies c_h1_sound c_h1_seen c_h2_count c_h2_front c_h2_least c_h2_window c_h2_pulses c_h2_lengths c_h2_fractions c_h2_pulseTimes c_h2_pulseEnergies c_h2_sound c_h2_seen c_s_length c_s_command c_s_position c_s_fault c_s_bytes c_s_numbers c_w_near c_w_far c_w_echoes c_w_totals c_p_result c_p_endTime c_q_count c_q_front c_q_least c_q_window c_q_pulses c_q_lengths c_q_fractions c_q_pulseTimes c_q_pulseEnergies c_t_near c_t_far c_t_echoes c_t_totals) [(0, .ref (a 62)), (1, .ref (a 2))] 0 [] := by
  unfold Cf_B_takeSettings_q_n at hf
  refine v_aload_n 0 C dX1_takeSettings_0 rfl rfl ?_
  refine v_aload_n 1 C dX1_takeSettings_1 rfl rfl ?_
  refine Cg_2_front wfieldLink_RX1_22_LineEchoes_Bench_front_I C dX1_takeSettings_2 ?_
  refine Cp_62_front wfieldLink_RX1_22_LineEchoes_Bench_front_I C dX1_takeSettings_5 ?_
  refine v_aload_n 0 C dX1_takeSettings_8 rfl rfl ?_
  refine v_aload_n 1 C dX1_takeSettings_9 rfl rfl ?_
  refine Cg_2_least wfieldLink_RX1_25_LineEchoes_Bench_least_I C dX1_takeSettings_10 ?_
  refine Cp_62_least wfieldLink_RX1_25_LineEchoes_Bench_least_I C dX1_takeSettings_13 ?_
  refine v_aload_n 0 C dX1_takeSettings_16 rfl rfl ?_
  refine v_aload_n 1 C dX1_takeSettings_17 rfl rfl ?_
  refine Cg_2_window wfieldLink_RX1_28_LineEchoes_Bench_window_I C dX1_takeSettings_18 ?_
  refine Cp_62_window wfieldLink_RX1_28_LineEchoes_Bench_window_I C dX1_takeSettings_21 ?_
  cases hf
  exact v_vret C hret dX1_takeSettings_24
set_option maxRecDepth 100000 in
set_option maxHeartbeats 4000000 in
theorem Cm_B_takeSettings_q_n {D : va_G}  {o_q_front : Int32} {o_q_least : Int32} {o_q_window : Int32} (hf : Cf_B_takeSettings_q_n c_n_front c_n_least c_n_window c_q_front c_q_least c_q_window = some (o_q_front, o_q_least, o_q_window)) : MetM (SFG E) yX1_takeSettings cX1_takeSettings 2 none { frames := 0, cells := 0, slots := 0, locals := 0 } D T [.ref (a 62), .ref (a 2)] (wL E a T c_waveIsFresh c_peelingIsFresh c_n_count c_n_front c_n_least c_n_window c_n_pulses c_n_lengths c_n_fractions c_n_pulseTimes c_n_pulseEnergies c_n_sound c_n_seen c_hcount c_hp c_h0_count c_h0_front c_h0_least c_h0_window c_h0_pulses c_h0_lengths c_h0_fractions c_h0_pulseTimes c_h0_pulseEnergies c_h0_sound c_h0_seen c_h1_count c_h1_front c_h1_least c_h1_window c_h1_pulses c_h1_lengths c_h1_fractions c_h1_pulseTimes c_h1_pulseEnergies c_h1_sound c_h1_seen c_h2_count c_h2_front c_h2_least c_h2_window c_h2_pulses c_h2_lengths c_h2_fractions c_h2_pulseTimes c_h2_pulseEnergies c_h2_sound c_h2_seen c_s_length c_s_command c_s_position c_s_fault c_s_bytes c_s_numbers c_w_near c_w_far c_w_echoes c_w_totals c_p_result c_p_endTime c_q_count c_q_front c_q_least c_q_window c_q_pulses c_q_lengths c_q_fractions c_q_pulseTimes c_q_pulseEnergies c_t_near c_t_far c_t_echoes c_t_totals) none (wL E a T c_waveIsFresh c_peelingIsFresh c_n_count c_n_front c_n_least c_n_window c_n_pulses c_n_lengths c_n_fractions c_n_pulseTimes c_n_pulseEnergies c_n_sound c_n_seen c_hcount c_hp c_h0_count c_h0_front c_h0_least c_h0_window c_h0_pulses c_h0_lengths c_h0_fractions c_h0_pulseTimes c_h0_pulseEnergies c_h0_sound c_h0_seen c_h1_count c_h1_front c_h1_least c_h1_window c_h1_pulses c_h1_lengths c_h1_fractions c_h1_pulseTimes c_h1_pulseEnergies c_h1_sound c_h1_seen c_h2_count c_h2_front c_h2_least c_h2_window c_h2_pulses c_h2_lengths c_h2_fractions c_h2_pulseTimes c_h2_pulseEnergies c_h2_sound c_h2_seen c_s_length c_s_command c_s_position c_s_fault c_s_bytes c_s_numbers c_w_near c_w_far c_w_echoes c_w_totals c_p_result c_p_endTime c_q_count o_q_front o_q_least o_q_window c_q_pulses c_q_lengths c_q_fractions c_q_pulseTimes c_q_pulseEnergies c_t_near c_t_far c_t_echoes c_t_totals) :=
  MetM.of [(0, .ref (a 62)), (1, .ref (a 2))] (by decide) (Nat.le_of_ble_eq_true rfl) rfl (fun X C hret => Cb_B_takeSettings_q_n C hret hf)
def Cf_L_isWithin_18 (s0 : Int32) : Option Int32 :=
  chk (s0 = 0 ∨ s0 = 1) <| some s0
set_option maxRecDepth 100000 in
set_option maxHeartbeats 4000000 in
theorem Cb_L_isWithin_18 (C : Cx X (SFG E) T cX9_isWithin RX9 (some .boolean) 6 0 0) {s0 : Int32} {r : Int32} (hret : RetOK X 0 0 (some (.int r)) w) (hf : Cf_L_isWithin_18 s0 = some r) : V X 0 0 w [] 18 [.int s0] := by
  unfold Cf_L_isWithin_18 at hf
  obtain ⟨hv, hf⟩ := chk_some hf
  cases hf
  exact v_zret hv C hret dX9_isWithin_18
def Cf_L_isWithin_17  : Option Int32 :=
  Cf_L_isWithin_18 (0 : Int32)
set_option maxRecDepth 100000 in
set_option maxHeartbeats 4000000 in
theorem Cb_L_isWithin_17 (C : Cx X (SFG E) T cX9_isWithin RX9 (some .boolean) 6 0 0)  {r : Int32} (hret : RetOK X 0 0 (some (.int r)) w) (hf : Cf_L_isWithin_17  = some r) : V X 0 0 w [] 17 [] := by
  unfold Cf_L_isWithin_17 at hf
  refine v_iconst (v := 0) C dX9_isWithin_17 (by decide) ?_
  exact Cb_L_isWithin_18 C hret hf
def Cf_L_isWithin (x0 : Int64) (x2 : Int64) (x4 : Int64) : Option Int32 :=
  if x0 < x2 then
    Cf_L_isWithin_17 
  else
    if x4 < x0 then
      Cf_L_isWithin_17 
    else
      Cf_L_isWithin_18 (1 : Int32)
set_option maxRecDepth 100000 in
set_option maxHeartbeats 4000000 in
theorem Cb_L_isWithin (C : Cx X (SFG E) T cX9_isWithin RX9 (some .boolean) 6 0 0) {x0 : Int64} {x2 : Int64} {x4 : Int64} {r : Int32} (hret : RetOK X 0 0 (some (.int r)) w) (hf : Cf_L_isWithin x0 x2 x4 = some r) : V X 0 0 w [(0, .long x0), (2, .long x2), (4, .long x4)] 0 [] := by
  unfold Cf_L_isWithin at hf
  refine v_lload_n 0 C dX9_isWithin_0 rfl rfl ?_
  refine v_lload_n 1 C dX9_isWithin_1 rfl rfl ?_
  refine v_lcmp_lt 17 C dX9_isWithin_2 dX9_isWithin_3 (by decide) hf (fun c hf => ?_) (fun c hf => ?_)
  · refine v_lv [] [] rfl ?_
    exact Cb_L_isWithin_17 C hret hf
  · refine v_lload_n 0 C dX9_isWithin_6 rfl rfl ?_
    refine v_lload 2 C dX9_isWithin_7 rfl ?_
    refine v_lcmp_gt 17 C dX9_isWithin_9 dX9_isWithin_10 (by decide) hf (fun c hf => ?_) (fun c hf => ?_)
    · refine v_lv [] [] rfl ?_
      exact Cb_L_isWithin_17 C hret hf
    · refine v_iconst (v := 1) C dX9_isWithin_13 (by decide) ?_
      refine v_goto 18 C dX9_isWithin_14 (by decide) ?_
      refine v_lv [] [] rfl ?_
      exact Cb_L_isWithin_18 C hret hf
set_option maxRecDepth 100000 in
set_option maxHeartbeats 4000000 in
theorem Cm_L_isWithin {D : va_G} {x0 : Int64} {x2 : Int64} {x4 : Int64} {r : Int32} (hf : Cf_L_isWithin x0 x2 x4 = some r) : MetM (SFG E) yX9_isWithin cX9_isWithin 6 (some .boolean) { frames := 0, cells := 0, slots := 0, locals := 0 } D T [.long x0, .long x2, .long x4] w (some (.int r)) w :=
  MetM.of [(0, .long x0), (2, .long x2), (4, .long x4)] (by decide) (Nat.le_of_ble_eq_true rfl) rfl (fun X C hret => Cb_L_isWithin C hret hf)
def Cf_B_verdictOnPart_n_25 (s0 : Nat) : Option Nat :=
  some s0
set_option maxRecDepth 100000 in
set_option maxHeartbeats 4000000 in
theorem Cb_B_verdictOnPart_n_25 (C : Cx X (SFG E) T cX1_verdictOnPart RX1 (some (.object "LineEchoes$Verdict")) 2 1 25) {s0 : Nat} {r : Nat} (hret : RetOK X 0 0 (some (.ref (E 1 r))) (wL E a T c_waveIsFresh c_peelingIsFresh c_n_count c_n_front c_n_least c_n_window c_n_pulses c_n_lengths c_n_fractions c_n_pulseTimes c_n_pulseEnergies c_n_sound c_n_seen c_hcount c_hp c_h0_count c_h0_front c_h0_least c_h0_window c_h0_pulses c_h0_lengths c_h0_fractions c_h0_pulseTimes c_h0_pulseEnergies c_h0_sound c_h0_seen c_h1_count c_h1_front c_h1_least c_h1_window c_h1_pulses c_h1_lengths c_h1_fractions c_h1_pulseTimes c_h1_pulseEnergies c_h1_sound c_h1_seen c_h2_count c_h2_front c_h2_least c_h2_window c_h2_pulses c_h2_lengths c_h2_fractions c_h2_pulseTimes c_h2_pulseEnergies c_h2_sound c_h2_seen c_s_length c_s_command c_s_position c_s_fault c_s_bytes c_s_numbers c_w_near c_w_far c_w_echoes c_w_totals c_p_result c_p_endTime c_q_count c_q_front c_q_least c_q_window c_q_pulses c_q_lengths c_q_fractions c_q_pulseTimes c_q_pulseEnergies c_t_near c_t_far c_t_echoes c_t_totals)) (hf : Cf_B_verdictOnPart_n_25 s0 = some r) : V X 0 0 (wL E a T c_waveIsFresh c_peelingIsFresh c_n_count c_n_front c_n_least c_n_window c_n_pulses c_n_lengths c_n_fractions c_n_pulseTimes c_n_pulseEnergies c_n_sound c_n_seen c_hcount c_hp c_h0_count c_h0_front c_h0_least c_h0_window c_h0_pulses c_h0_lengths c_h0_fractions c_h0_pulseTimes c_h0_pulseEnergies c_h0_sound c_h0_seen c_h1_count c_h1_front c_h1_least c_h1_window c_h1_pulses c_h1_lengths c_h1_fractions c_h1_pulseTimes c_h1_pulseEnergies c_h1_sound c_h1_seen c_h2_count c_h2_front c_h2_least c_h2_window c_h2_pulses c_h2_lengths c_h2_fractions c_h2_pulseTimes c_h2_pulseEnergies c_h2_sound c_h2_seen c_s_length c_s_command c_s_position c_s_fault c_s_bytes c_s_numbers c_w_near c_w_far c_w_echoes c_w_totals c_p_result c_p_endTime c_q_count c_q_front c_q_least c_q_window c_q_pulses c_q_lengths c_q_fractions c_q_pulseTimes c_q_pulseEnergies c_t_near c_t_far c_t_echoes c_t_totals) [] 25 [.ref (E 1 s0)] := by
  unfold Cf_B_verdictOnPart_n_25 at hf
  cases hf
  exact v_aret C hret dX1_verdictOnPart_25
set_option maxRecDepth 100000 in
theorem Cc_L_isWithin_N {x0 : Int64} {x2 : Int64} {x4 : Int64} {cc : ByteArray} {own : String} {ret : Option FieldType} {nl fr lo pc ix : Nat} {lv : List (Nat × Value)} {rest : List Value} {β : Type} {K : Int32 → Option β} {oo : β} (hl : ∀ (A : Nat → Prop) (U : State) (H : Heap), SFG E A U H → va_Nw (.methodLinkNest own ix yX9_isWithin "LineEchoes") U) (C : Cx X (SFG E) T cc own ret nl fr lo) (hdg : decode cc pc = .ok (.invokestatic ix, 3)) (hroom : 0 + 1 ≤ fr ∧ 8 + (6 + 11) + 0 ≤ lo) (hst : (rest.map fun v => v.category).sum ≤ 8) (hf : bd (Cf_L_isWithin x0 x2 x4) K = some oo) (kk : ∀ (r : Int32), K r = some oo → V X 0 0 w lv (pc + 3) (.int r :: rest)) : V X 0 0 w lv pc (.long x4 :: .long x2 :: .long x0 :: rest) := by
  obtain ⟨r, hc, hk⟩ := bd_some hf
  exact v_callSN (As := [.long x0, .long x2, .long x4]) (rest := rest) 3 C (CapOK.z X) (fun D => Cm_L_isWithin hc) hl wcode_yX9_isWithin_cX9_isWithin_6_some_boolean wstatic_yX9_isWithin winitialized_RX9 (by decide +kernel) hroom ⟨rfl, rfl⟩ rfl hst hdg (kk r hk)
def Cf_B_verdictOnPart_n (c_n_count : Int32) (x1 : Int32) : Option Nat :=
  nm (x1.toInt64) fun z1 =>
  nm (c_n_count - (1 : Int32)) fun z8 =>
  nm (z8.toInt64) fun z9 =>
  bd (Cf_L_isWithin z1 (0 : Int64) z9) fun r10 =>
  if r10 = 0 then
    Cf_B_verdictOnPart_n_25 (1)
  else
    Cf_B_verdictOnPart_n_25 (0)
set_option maxRecDepth 100000 in
set_option maxHeartbeats 4000000 in
theorem Cb_B_verdictOnPart_n (C : Cx X (SFG E) T cX1_verdictOnPart RX1 (some (.object "LineEchoes$Verdict")) 2 1 25) {x1 : Int32} {r : Nat} (hret : RetOK X 0 0 (some (.ref (E 1 r))) (wL E a T c_waveIsFresh c_peelingIsFresh c_n_count c_n_front c_n_least c_n_window c_n_pulses c_n_lengths c_n_fractions c_n_pulseTimes c_n_pulseEnergies c_n_sound c_n_seen c_hcount c_hp c_h0_count c_h0_front c_h0_least c_h0_window c_h0_pulses c_h0_lengths c_h0_fractions c_h0_pulseTimes c_h0_pulseEnergies c_h0_sound c_h0_seen c_h1_count c_h1_front c_h1_least c_h1_window c_h1_pulses c_h1_lengths c_h1_fractions c_h1_pulseTimes c_h1_pulseEnergies c_h1_sound c_h1_seen c_h2_count c_h2_front c_h2_least c_h2_window c_h2_pulses c_h2_lengths c_h2_fractions c_h2_pulseTimes c_h2_pulseEnergies c_h2_sound c_h2_seen c_s_length c_s_command c_s_position c_s_fault c_s_bytes c_s_numbers c_w_near c_w_far c_w_echoes c_w_totals c_p_result c_p_endTime c_q_count c_q_front c_q_least c_q_window c_q_pulses c_q_lengths c_q_fractions c_q_pulseTimes c_q_pulseEnergies c_t_near c_t_far c_t_echoes c_t_totals)) (hf : Cf_B_verdictOnPart_n c_n_count x1 = some r) : V X 0 0 (wL E a T c_waveIsFresh c_peelingIsFresh c_n_count c_n_front c_n_least c_n_window c_n_pulses c_n_lengths c_n_fractions c_n_pulseTimes c_n_pulseEnergies c_n_sound c_n_seen c_hcount c_hp c_h0_count c_h0_front c_h0_least c_h0_window c_h0_pulses c_h0_lengths c_h0_fractions c_h0_pulseTimes c_h0_pulseEnergies c_h0_sound c_h0_seen c_h1_count c_h1_front c_h1_least c_h1_window c_h1_pulses c_h1_lengths c_h1_fractions c_h1_pulseTimes c_h1_pulseEnergies c_h1_sound c_h1_seen c_h2_count c_h2_front c_h2_least c_h2_window c_h2_pulses c_h2_lengths c_h2_fractions c_h2_pulseTimes c_h2_pulseEnergies c_h2_sound c_h2_seen c_s_length c_s_command c_s_position c_s_fault c_s_bytes c_s_numbers c_w_near c_w_far c_w_echoes c_w_totals c_p_result c_p_endTime c_q_count c_q_front c_q_least c_q_window c_q_pulses c_q_lengths c_q_fractions c_q_pulseTimes c_q_pulseEnergies c_t_near c_t_far c_t_echoes c_t_totals) [(0, .ref (a 2)), (1, .int x1)] 0 [] := by
  unfold Cf_B_verdictOnPart_n at hf
  refine v_iload_n 1 C dX1_verdictOnPart_0 rfl rfl ?_
  refine v_i2l C dX1_verdictOnPart_1 hf (fun z1 hf => ?_)
  refine v_lconst (v := 0) C dX1_verdictOnPart_2 (by decide) ?_
  refine v_aload_n 0 C dX1_verdictOnPart_3 rfl rfl ?_
  refine Cg_2_count wfieldLink_RX1_9_LineEchoes_Bench_count_I C dX1_verdictOnPart_4 ?_
  refine v_iconst (v := 1) C dX1_verdictOnPart_7 (by decide) ?_
  refine v_isub C dX1_verdictOnPart_8 hf (fun z8 hf => ?_)
  refine v_i2l C dX1_verdictOnPart_9 hf (fun z9 hf => ?_)
  refine Cc_L_isWithin_N nest0 C dX1_verdictOnPart_10 (by decide) (Nat.le_of_ble_eq_true rfl) hf (fun r10 hf => ?_)
  refine v_if_eq 22 C dX1_verdictOnPart_13 (by decide) hf (fun c hf => ?_) (fun c hf => ?_)
  · refine Ce_verd (i := 1) (by decide) wfieldLink_RX1_64_LineEchoes_Verdict_NO_SUCH_NUMBER_LLineEchoes_Verdict C dX1_verdictOnPart_22 ?_
    refine v_lv [] [] rfl ?_
    exact Cb_B_verdictOnPart_n_25 C hret hf
  · refine Ce_verd (i := 0) (by decide) wfieldLink_RX1_58_LineEchoes_Verdict_FINE_LLineEchoes_Verdict C dX1_verdictOnPart_16 ?_
    refine v_goto 25 C dX1_verdictOnPart_19 (by decide) ?_
    refine v_lv [] [] rfl ?_
    exact Cb_B_verdictOnPart_n_25 C hret hf
set_option maxRecDepth 100000 in
set_option maxHeartbeats 4000000 in
theorem Cm_B_verdictOnPart_n {D : va_G} {x1 : Int32} {r : Nat} (hf : Cf_B_verdictOnPart_n c_n_count x1 = some r) : MetM (SFG E) yX1_verdictOnPart cX1_verdictOnPart 2 (some (.object "LineEchoes$Verdict")) { frames := 1, cells := 0, slots := 0, locals := 25 } D T [.ref (a 2), .int x1] (wL E a T c_waveIsFresh c_peelingIsFresh c_n_count c_n_front c_n_least c_n_window c_n_pulses c_n_lengths c_n_fractions c_n_pulseTimes c_n_pulseEnergies c_n_sound c_n_seen c_hcount c_hp c_h0_count c_h0_front c_h0_least c_h0_window c_h0_pulses c_h0_lengths c_h0_fractions c_h0_pulseTimes c_h0_pulseEnergies c_h0_sound c_h0_seen c_h1_count c_h1_front c_h1_least c_h1_window c_h1_pulses c_h1_lengths c_h1_fractions c_h1_pulseTimes c_h1_pulseEnergies c_h1_sound c_h1_seen c_h2_count c_h2_front c_h2_least c_h2_window c_h2_pulses c_h2_lengths c_h2_fractions c_h2_pulseTimes c_h2_pulseEnergies c_h2_sound c_h2_seen c_s_length c_s_command c_s_position c_s_fault c_s_bytes c_s_numbers c_w_near c_w_far c_w_echoes c_w_totals c_p_result c_p_endTime c_q_count c_q_front c_q_least c_q_window c_q_pulses c_q_lengths c_q_fractions c_q_pulseTimes c_q_pulseEnergies c_t_near c_t_far c_t_echoes c_t_totals) (some (.ref (E 1 r))) (wL E a T c_waveIsFresh c_peelingIsFresh c_n_count c_n_front c_n_least c_n_window c_n_pulses c_n_lengths c_n_fractions c_n_pulseTimes c_n_pulseEnergies c_n_sound c_n_seen c_hcount c_hp c_h0_count c_h0_front c_h0_least c_h0_window c_h0_pulses c_h0_lengths c_h0_fractions c_h0_pulseTimes c_h0_pulseEnergies c_h0_sound c_h0_seen c_h1_count c_h1_front c_h1_least c_h1_window c_h1_pulses c_h1_lengths c_h1_fractions c_h1_pulseTimes c_h1_pulseEnergies c_h1_sound c_h1_seen c_h2_count c_h2_front c_h2_least c_h2_window c_h2_pulses c_h2_lengths c_h2_fractions c_h2_pulseTimes c_h2_pulseEnergies c_h2_sound c_h2_seen c_s_length c_s_command c_s_position c_s_fault c_s_bytes c_s_numbers c_w_near c_w_far c_w_echoes c_w_totals c_p_result c_p_endTime c_q_count c_q_front c_q_least c_q_window c_q_pulses c_q_lengths c_q_fractions c_q_pulseTimes c_q_pulseEnergies c_t_near c_t_far c_t_echoes c_t_totals) :=
  MetM.of [(0, .ref (a 2)), (1, .int x1)] (by decide) (Nat.le_of_ble_eq_true rfl) rfl (fun X C hret => Cb_B_verdictOnPart_n C hret hf)
def Cf_B_verdictOnAppend_n_24  : Option Nat :=
  some (2)
set_option maxRecDepth 100000 in
set_option maxHeartbeats 4000000 in
theorem Cb_B_verdictOnAppend_n_24 (C : Cx X (SFG E) T cX1_verdictOnAppend RX1 (some (.object "LineEchoes$Verdict")) 3 1 25)  {r : Nat} (hret : RetOK X 0 0 (some (.ref (E 1 r))) (wL E a T c_waveIsFresh c_peelingIsFresh c_n_count c_n_front c_n_least c_n_window c_n_pulses c_n_lengths c_n_fractions c_n_pulseTimes c_n_pulseEnergies c_n_sound c_n_seen c_hcount c_hp c_h0_count c_h0_front c_h0_least c_h0_window c_h0_pulses c_h0_lengths c_h0_fractions c_h0_pulseTimes c_h0_pulseEnergies c_h0_sound c_h0_seen c_h1_count c_h1_front c_h1_least c_h1_window c_h1_pulses c_h1_lengths c_h1_fractions c_h1_pulseTimes c_h1_pulseEnergies c_h1_sound c_h1_seen c_h2_count c_h2_front c_h2_least c_h2_window c_h2_pulses c_h2_lengths c_h2_fractions c_h2_pulseTimes c_h2_pulseEnergies c_h2_sound c_h2_seen c_s_length c_s_command c_s_position c_s_fault c_s_bytes c_s_numbers c_w_near c_w_far c_w_echoes c_w_totals c_p_result c_p_endTime c_q_count c_q_front c_q_least c_q_window c_q_pulses c_q_lengths c_q_fractions c_q_pulseTimes c_q_pulseEnergies c_t_near c_t_far c_t_echoes c_t_totals)) (hf : Cf_B_verdictOnAppend_n_24  = some r) : V X 0 0 (wL E a T c_waveIsFresh c_peelingIsFresh c_n_count c_n_front c_n_least c_n_window c_n_pulses c_n_lengths c_n_fractions c_n_pulseTimes c_n_pulseEnergies c_n_sound c_n_seen c_hcount c_hp c_h0_count c_h0_front c_h0_least c_h0_window c_h0_pulses c_h0_lengths c_h0_fractions c_h0_pulseTimes c_h0_pulseEnergies c_h0_sound c_h0_seen c_h1_count c_h1_front c_h1_least c_h1_window c_h1_pulses c_h1_lengths c_h1_fractions c_h1_pulseTimes c_h1_pulseEnergies c_h1_sound c_h1_seen c_h2_count c_h2_front c_h2_least c_h2_window c_h2_pulses c_h2_lengths c_h2_fractions c_h2_pulseTimes c_h2_pulseEnergies c_h2_sound c_h2_seen c_s_length c_s_command c_s_position c_s_fault c_s_bytes c_s_numbers c_w_near c_w_far c_w_echoes c_w_totals c_p_result c_p_endTime c_q_count c_q_front c_q_least c_q_window c_q_pulses c_q_lengths c_q_fractions c_q_pulseTimes c_q_pulseEnergies c_t_near c_t_far c_t_echoes c_t_totals) [] 24 [] := by
  unfold Cf_B_verdictOnAppend_n_24 at hf
  refine Ce_verd (i := 2) (by decide) wfieldLink_RX1_71_LineEchoes_Verdict_OUT_OF_RANGE_LLineEchoes_Verdict C dX1_verdictOnAppend_24 ?_
  cases hf
  exact v_aret C hret dX1_verdictOnAppend_27
def Cf_B_verdictOnAppend_n_46 (s0 : Nat) : Option Nat :=
  some s0
set_option maxRecDepth 100000 in
set_option maxHeartbeats 4000000 in
theorem Cb_B_verdictOnAppend_n_46 (C : Cx X (SFG E) T cX1_verdictOnAppend RX1 (some (.object "LineEchoes$Verdict")) 3 1 25) {s0 : Nat} {r : Nat} (hret : RetOK X 0 0 (some (.ref (E 1 r))) (wL E a T c_waveIsFresh c_peelingIsFresh c_n_count c_n_front c_n_least c_n_window c_n_pulses c_n_lengths c_n_fractions c_n_pulseTimes c_n_pulseEnergies c_n_sound c_n_seen c_hcount c_hp c_h0_count c_h0_front c_h0_least c_h0_window c_h0_pulses c_h0_lengths c_h0_fractions c_h0_pulseTimes c_h0_pulseEnergies c_h0_sound c_h0_seen c_h1_count c_h1_front c_h1_least c_h1_window c_h1_pulses c_h1_lengths c_h1_fractions c_h1_pulseTimes c_h1_pulseEnergies c_h1_sound c_h1_seen c_h2_count c_h2_front c_h2_least c_h2_window c_h2_pulses c_h2_lengths c_h2_fractions c_h2_pulseTimes c_h2_pulseEnergies c_h2_sound c_h2_seen c_s_length c_s_command c_s_position c_s_fault c_s_bytes c_s_numbers c_w_near c_w_far c_w_echoes c_w_totals c_p_result c_p_endTime c_q_count c_q_front c_q_least c_q_window c_q_pulses c_q_lengths c_q_fractions c_q_pulseTimes c_q_pulseEnergies c_t_near c_t_far c_t_echoes c_t_totals)) (hf : Cf_B_verdictOnAppend_n_46 s0 = some r) : V X 0 0 (wL E a T c_waveIsFresh c_peelingIsFresh c_n_count c_n_front c_n_least c_n_window c_n_pulses c_n_lengths c_n_fractions c_n_pulseTimes c_n_pulseEnergies c_n_sound c_n_seen c_hcount c_hp c_h0_count c_h0_front c_h0_least c_h0_window c_h0_pulses c_h0_lengths c_h0_fractions c_h0_pulseTimes c_h0_pulseEnergies c_h0_sound c_h0_seen c_h1_count c_h1_front c_h1_least c_h1_window c_h1_pulses c_h1_lengths c_h1_fractions c_h1_pulseTimes c_h1_pulseEnergies c_h1_sound c_h1_seen c_h2_count c_h2_front c_h2_least c_h2_window c_h2_pulses c_h2_lengths c_h2_fractions c_h2_pulseTimes c_h2_pulseEnergies c_h2_sound c_h2_seen c_s_length c_s_command c_s_position c_s_fault c_s_bytes c_s_numbers c_w_near c_w_far c_w_echoes c_w_totals c_p_result c_p_endTime c_q_count c_q_front c_q_least c_q_window c_q_pulses c_q_lengths c_q_fractions c_q_pulseTimes c_q_pulseEnergies c_t_near c_t_far c_t_echoes c_t_totals) [] 46 [.ref (E 1 s0)] := by
  unfold Cf_B_verdictOnAppend_n_46 at hf
  cases hf
  exact v_aret C hret dX1_verdictOnAppend_46
def Cf_B_verdictOnAppend_n (c_n_count : Int32) (x1 : Int32) (x2 : Int32) : Option Nat :=
  nm (x1.toInt64) fun z1 =>
  bd (Cf_L_isWithin z1 (1 : Int64) (20 : Int64)) fun r6 =>
  if r6 = 0 then
    Cf_B_verdictOnAppend_n_24 
  else
    nm (x2.toInt64) fun z13 =>
    bd (Cf_L_isWithin z13 (0 : Int64) (1000 : Int64)) fun r18 =>
    if r18 = 0 then
      Cf_B_verdictOnAppend_n_24 
    else
      if (8 : Int32) ≤ c_n_count then
        Cf_B_verdictOnAppend_n_46 (3)
      else
        Cf_B_verdictOnAppend_n_46 (0)
set_option maxRecDepth 100000 in
set_option maxHeartbeats 4000000 in
theorem Cb_B_verdictOnAppend_n (C : Cx X (SFG E) T cX1_verdictOnAppend RX1 (some (.object "LineEchoes$Verdict")) 3 1 25) {x1 : Int32} {x2 : Int32} {r : Nat} (hret : RetOK X 0 0 (some (.ref (E 1 r))) (wL E a T c_waveIsFresh c_peelingIsFresh c_n_count c_n_front c_n_least c_n_window c_n_pulses c_n_lengths c_n_fractions c_n_pulseTimes c_n_pulseEnergies c_n_sound c_n_seen c_hcount c_hp c_h0_count c_h0_front c_h0_least c_h0_window c_h0_pulses c_h0_lengths c_h0_fractions c_h0_pulseTimes c_h0_pulseEnergies c_h0_sound c_h0_seen c_h1_count c_h1_front c_h1_least c_h1_window c_h1_pulses c_h1_lengths c_h1_fractions c_h1_pulseTimes c_h1_pulseEnergies c_h1_sound c_h1_seen c_h2_count c_h2_front c_h2_least c_h2_window c_h2_pulses c_h2_lengths c_h2_fractions c_h2_pulseTimes c_h2_pulseEnergies c_h2_sound c_h2_seen c_s_length c_s_command c_s_position c_s_fault c_s_bytes c_s_numbers c_w_near c_w_far c_w_echoes c_w_totals c_p_result c_p_endTime c_q_count c_q_front c_q_least c_q_window c_q_pulses c_q_lengths c_q_fractions c_q_pulseTimes c_q_pulseEnergies c_t_near c_t_far c_t_echoes c_t_totals)) (hf : Cf_B_verdictOnAppend_n c_n_count x1 x2 = some r) : V X 0 0 (wL E a T c_waveIsFresh c_peelingIsFresh c_n_count c_n_front c_n_least c_n_window c_n_pulses c_n_lengths c_n_fractions c_n_pulseTimes c_n_pulseEnergies c_n_sound c_n_seen c_hcount c_hp c_h0_count c_h0_front c_h0_least c_h0_window c_h0_pulses c_h0_lengths c_h0_fractions c_h0_pulseTimes c_h0_pulseEnergies c_h0_sound c_h0_seen c_h1_count c_h1_front c_h1_least c_h1_window c_h1_pulses c_h1_lengths c_h1_fractions c_h1_pulseTimes c_h1_pulseEnergies c_h1_sound c_h1_seen c_h2_count c_h2_front c_h2_least c_h2_window c_h2_pulses c_h2_lengths c_h2_fractions c_h2_pulseTimes c_h2_pulseEnergies c_h2_sound c_h2_seen c_s_length c_s_command c_s_position c_s_fault c_s_bytes c_s_numbers c_w_near c_w_far c_w_echoes c_w_totals c_p_result c_p_endTime c_q_count c_q_front c_q_least c_q_window c_q_pulses c_q_lengths c_q_fractions c_q_pulseTimes c_q_pulseEnergies c_t_near c_t_far c_t_echoes c_t_totals) [(0, .ref (a 2)), (1, .int x1), (2, .int x2)] 0 [] := by
  unfold Cf_B_verdictOnAppend_n at hf
  refine v_iload_n 1 C dX1_verdictOnAppend_0 rfl rfl ?_
  refine v_i2l C dX1_verdictOnAppend_1 hf (fun z1 hf => ?_)
  refine v_lconst (v := 1) C dX1_verdictOnAppend_2 (by decide) ?_
  refine v_ldc2 (v := 20) C wconstantLong_RX1_67_20 dX1_verdictOnAppend_3 ?_
  refine Cc_L_isWithin_N nest0 C dX1_verdictOnAppend_6 (by decide) (Nat.le_of_ble_eq_true rfl) hf (fun r6 hf => ?_)
  refine v_if_eq 24 C dX1_verdictOnAppend_9 (by decide) hf (fun c hf => ?_) (fun c hf => ?_)
  · refine v_lv [] [] rfl ?_
    exact Cb_B_verdictOnAppend_n_24 C hret hf
  · refine v_iload_n 2 C dX1_verdictOnAppend_12 rfl rfl ?_
    refine v_i2l C dX1_verdictOnAppend_13 hf (fun z13 hf => ?_)
    refine v_lconst (v := 0) C dX1_verdictOnAppend_14 (by decide) ?_
    refine v_ldc2 (v := 1000) C wconstantLong_RX1_69_1000 dX1_verdictOnAppend_15 ?_
    refine Cc_L_isWithin_N nest0 C dX1_verdictOnAppend_18 (by decide) (Nat.le_of_ble_eq_true rfl) hf (fun r18 hf => ?_)
    refine v_if_ne 28 C dX1_verdictOnAppend_21 (by decide) hf (fun c hf => ?_) (fun c hf => ?_)
    · refine v_lv [] [] rfl ?_
      exact Cb_B_verdictOnAppend_n_24 C hret hf
    · refine v_aload_n 0 C dX1_verdictOnAppend_28 rfl rfl ?_
      refine Cg_2_count wfieldLink_RX1_9_LineEchoes_Bench_count_I C dX1_verdictOnAppend_29 ?_
      refine v_bipush (v := 8) C dX1_verdictOnAppend_32 (by decide) ?_
      refine v_icmp_ge 43 C dX1_verdictOnAppend_34 (by decide) hf (fun c hf => ?_) (fun c hf => ?_)
      · refine Ce_verd (i := 3) (by decide) wfieldLink_RX1_74_LineEchoes_Verdict_NO_ROOM_LLineEchoes_Verdict C dX1_verdictOnAppend_43 ?_
        refine v_lv [] [] rfl ?_
        exact Cb_B_verdictOnAppend_n_46 C hret hf
      · refine Ce_verd (i := 0) (by decide) wfieldLink_RX1_58_LineEchoes_Verdict_FINE_LLineEchoes_Verdict C dX1_verdictOnAppend_37 ?_
        refine v_goto 46 C dX1_verdictOnAppend_40 (by decide) ?_
        refine v_lv [] [] rfl ?_
        exact Cb_B_verdictOnAppend_n_46 C hret hf
set_option maxRecDepth 100000 in
set_option maxHeartbeats 4000000 in
theorem Cm_B_verdictOnAppend_n {D : va_G} {x1 : Int32} {x2 : Int32} {r : Nat} (hf : Cf_B_verdictOnAppend_n c_n_count x1 x2 = some r) : MetM (SFG E) yX1_verdictOnAppend cX1_verdictOnAppend 3 (some (.object "LineEchoes$Verdict")) { frames := 1, cells := 0, slots := 0, locals := 25 } D T [.ref (a 2), .int x1, .int x2] (wL E a T c_waveIsFresh c_peelingIsFresh c_n_count c_n_front c_n_least c_n_window c_n_pulses c_n_lengths c_n_fractions c_n_pulseTimes c_n_pulseEnergies c_n_sound c_n_seen c_hcount c_hp c_h0_count c_h0_front c_h0_least c_h0_window c_h0_pulses c_h0_lengths c_h0_fractions c_h0_pulseTimes c_h0_pulseEnergies c_h0_sound c_h0_seen c_h1_count c_h1_front c_h1_least c_h1_window c_h1_pulses c_h1_lengths c_h1_fractions c_h1_pulseTimes c_h1_pulseEnergies c_h1_sound c_h1_seen c_h2_count c_h2_front c_h2_least c_h2_window c_h2_pulses c_h2_lengths c_h2_fractions c_h2_pulseTimes c_h2_pulseEnergies c_h2_sound c_h2_seen c_s_length c_s_command c_s_position c_s_fault c_s_bytes c_s_numbers c_w_near c_w_far c_w_echoes c_w_totals c_p_result c_p_endTime c_q_count c_q_front c_q_least c_q_window c_q_pulses c_q_lengths c_q_fractions c_q_pulseTimes c_q_pulseEnergies c_t_near c_t_far c_t_echoes c_t_totals) (some (.ref (E 1 r))) (wL E a T c_waveIsFresh c_peelingIsFresh c_n_count c_n_front c_n_least c_n_window c_n_pulses c_n_lengths c_n_fractions c_n_pulseTimes c_n_pulseEnergies c_n_sound c_n_seen c_hcount c_hp c_h0_count c_h0_front c_h0_least c_h0_window c_h0_pulses c_h0_lengths c_h0_fractions c_h0_pulseTimes c_h0_pulseEnergies c_h0_sound c_h0_seen c_h1_count c_h1_front c_h1_least c_h1_window c_h1_pulses c_h1_lengths c_h1_fractions c_h1_pulseTimes c_h1_pulseEnergies c_h1_sound c_h1_seen c_h2_count c_h2_front c_h2_least c_h2_window c_h2_pulses c_h2_lengths c_h2_fractions c_h2_pulseTimes c_h2_pulseEnergies c_h2_sound c_h2_seen c_s_length c_s_command c_s_position c_s_fault c_s_bytes c_s_numbers c_w_near c_w_far c_w_echoes c_w_totals c_p_result c_p_endTime c_q_count c_q_front c_q_least c_q_window c_q_pulses c_q_lengths c_q_fractions c_q_pulseTimes c_q_pulseEnergies c_t_near c_t_far c_t_echoes c_t_totals) :=
  MetM.of [(0, .ref (a 2)), (1, .int x1), (2, .int x2)] (by decide) (Nat.le_of_ble_eq_true rfl) rfl (fun X C hret => Cb_B_verdictOnAppend_n C hret hf)
def Cf_B_verdictOnReplace_n_65 (s0 : Nat) : Option Nat :=
  some s0
set_option maxRecDepth 100000 in
set_option maxHeartbeats 4000000 in
theorem Cb_B_verdictOnReplace_n_65 (C : Cx X (SFG E) T cX1_verdictOnReplace RX1 (some (.object "LineEchoes$Verdict")) 5 1 25) {s0 : Nat} {r : Nat} (hret : RetOK X 0 0 (some (.ref (E 1 r))) (wL E a T c_waveIsFresh c_peelingIsFresh c_n_count c_n_front c_n_least c_n_window c_n_pulses c_n_lengths c_n_fractions c_n_pulseTimes c_n_pulseEnergies c_n_sound c_n_seen c_hcount c_hp c_h0_count c_h0_front c_h0_least c_h0_window c_h0_pulses c_h0_lengths c_h0_fractions c_h0_pulseTimes c_h0_pulseEnergies c_h0_sound c_h0_seen c_h1_count c_h1_front c_h1_least c_h1_window c_h1_pulses c_h1_lengths c_h1_fractions c_h1_pulseTimes c_h1_pulseEnergies c_h1_sound c_h1_seen c_h2_count c_h2_front c_h2_least c_h2_window c_h2_pulses c_h2_lengths c_h2_fractions c_h2_pulseTimes c_h2_pulseEnergies c_h2_sound c_h2_seen c_s_length c_s_command c_s_position c_s_fault c_s_bytes c_s_numbers c_w_near c_w_far c_w_echoes c_w_totals c_p_result c_p_endTime c_q_count c_q_front c_q_least c_q_window c_q_pulses c_q_lengths c_q_fractions c_q_pulseTimes c_q_pulseEnergies c_t_near c_t_far c_t_echoes c_t_totals)) (hf : Cf_B_verdictOnReplace_n_65 s0 = some r) : V X 0 0 (wL E a T c_waveIsFresh c_peelingIsFresh c_n_count c_n_front c_n_least c_n_window c_n_pulses c_n_lengths c_n_fractions c_n_pulseTimes c_n_pulseEnergies c_n_sound c_n_seen c_hcount c_hp c_h0_count c_h0_front c_h0_least c_h0_window c_h0_pulses c_h0_lengths c_h0_fractions c_h0_pulseTimes c_h0_pulseEnergies c_h0_sound c_h0_seen c_h1_count c_h1_front c_h1_least c_h1_window c_h1_pulses c_h1_lengths c_h1_fractions c_h1_pulseTimes c_h1_pulseEnergies c_h1_sound c_h1_seen c_h2_count c_h2_front c_h2_least c_h2_window c_h2_pulses c_h2_lengths c_h2_fractions c_h2_pulseTimes c_h2_pulseEnergies c_h2_sound c_h2_seen c_s_length c_s_command c_s_position c_s_fault c_s_bytes c_s_numbers c_w_near c_w_far c_w_echoes c_w_totals c_p_result c_p_endTime c_q_count c_q_front c_q_least c_q_window c_q_pulses c_q_lengths c_q_fractions c_q_pulseTimes c_q_pulseEnergies c_t_near c_t_far c_t_echoes c_t_totals) [] 65 [.ref (E 1 s0)] := by
  unfold Cf_B_verdictOnReplace_n_65 at hf
  cases hf
  exact v_aret C hret dX1_verdictOnReplace_65
def Cf_B_verdictOnReplace_n_49 (s0 : Int32) : Option Nat :=
  if s0 = 0 then
    Cf_B_verdictOnReplace_n_65 (2)
  else
    Cf_B_verdictOnReplace_n_65 (0)
set_option maxRecDepth 100000 in
set_option maxHeartbeats 4000000 in
theorem Cb_B_verdictOnReplace_n_49 (C : Cx X (SFG E) T cX1_verdictOnReplace RX1 (some (.object "LineEchoes$Verdict")) 5 1 25) {s0 : Int32} {r : Nat} (hret : RetOK X 0 0 (some (.ref (E 1 r))) (wL E a T c_waveIsFresh c_peelingIsFresh c_n_count c_n_front c_n_least c_n_window c_n_pulses c_n_lengths c_n_fractions c_n_pulseTimes c_n_pulseEnergies c_n_sound c_n_seen c_hcount c_hp c_h0_count c_h0_front c_h0_least c_h0_window c_h0_pulses c_h0_lengths c_h0_fractions c_h0_pulseTimes c_h0_pulseEnergies c_h0_sound c_h0_seen c_h1_count c_h1_front c_h1_least c_h1_window c_h1_pulses c_h1_lengths c_h1_fractions c_h1_pulseTimes c_h1_pulseEnergies c_h1_sound c_h1_seen c_h2_count c_h2_front c_h2_least c_h2_window c_h2_pulses c_h2_lengths c_h2_fractions c_h2_pulseTimes c_h2_pulseEnergies c_h2_sound c_h2_seen c_s_length c_s_command c_s_position c_s_fault c_s_bytes c_s_numbers c_w_near c_w_far c_w_echoes c_w_totals c_p_result c_p_endTime c_q_count c_q_front c_q_least c_q_window c_q_pulses c_q_lengths c_q_fractions c_q_pulseTimes c_q_pulseEnergies c_t_near c_t_far c_t_echoes c_t_totals)) (hf : Cf_B_verdictOnReplace_n_49 s0 = some r) : V X 0 0 (wL E a T c_waveIsFresh c_peelingIsFresh c_n_count c_n_front c_n_least c_n_window c_n_pulses c_n_lengths c_n_fractions c_n_pulseTimes c_n_pulseEnergies c_n_sound c_n_seen c_hcount c_hp c_h0_count c_h0_front c_h0_least c_h0_window c_h0_pulses c_h0_lengths c_h0_fractions c_h0_pulseTimes c_h0_pulseEnergies c_h0_sound c_h0_seen c_h1_count c_h1_front c_h1_least c_h1_window c_h1_pulses c_h1_lengths c_h1_fractions c_h1_pulseTimes c_h1_pulseEnergies c_h1_sound c_h1_seen c_h2_count c_h2_front c_h2_least c_h2_window c_h2_pulses c_h2_lengths c_h2_fractions c_h2_pulseTimes c_h2_pulseEnergies c_h2_sound c_h2_seen c_s_length c_s_command c_s_position c_s_fault c_s_bytes c_s_numbers c_w_near c_w_far c_w_echoes c_w_totals c_p_result c_p_endTime c_q_count c_q_front c_q_least c_q_window c_q_pulses c_q_lengths c_q_fractions c_q_pulseTimes c_q_pulseEnergies c_t_near c_t_far c_t_echoes c_t_totals) [] 49 [.int s0] := by
  unfold Cf_B_verdictOnReplace_n_49 at hf
  refine v_istore [(4, .int s0)] [0] C dX1_verdictOnReplace_49 (by decide) rfl ?_
  refine v_iload 0 C dX1_verdictOnReplace_51 rfl ?_
  refine v_if_eq 62 C dX1_verdictOnReplace_53 (by decide) hf (fun c hf => ?_) (fun c hf => ?_)
  · refine Ce_verd (i := 2) (by decide) wfieldLink_RX1_71_LineEchoes_Verdict_OUT_OF_RANGE_LLineEchoes_Verdict C dX1_verdictOnReplace_62 ?_
    refine v_lv [] [] rfl ?_
    exact Cb_B_verdictOnReplace_n_65 C hret hf
  · refine Ce_verd (i := 0) (by decide) wfieldLink_RX1_58_LineEchoes_Verdict_FINE_LLineEchoes_Verdict C dX1_verdictOnReplace_56 ?_
    refine v_goto 65 C dX1_verdictOnReplace_59 (by decide) ?_
    refine v_lv [] [] rfl ?_
    exact Cb_B_verdictOnReplace_n_65 C hret hf
def Cf_B_verdictOnReplace_n_48  : Option Nat :=
  Cf_B_verdictOnReplace_n_49 (0 : Int32)
set_option maxRecDepth 100000 in
set_option maxHeartbeats 4000000 in
theorem Cb_B_verdictOnReplace_n_48 (C : Cx X (SFG E) T cX1_verdictOnReplace RX1 (some (.object "LineEchoes$Verdict")) 5 1 25)  {r : Nat} (hret : RetOK X 0 0 (some (.ref (E 1 r))) (wL E a T c_waveIsFresh c_peelingIsFresh c_n_count c_n_front c_n_least c_n_window c_n_pulses c_n_lengths c_n_fractions c_n_pulseTimes c_n_pulseEnergies c_n_sound c_n_seen c_hcount c_hp c_h0_count c_h0_front c_h0_least c_h0_window c_h0_pulses c_h0_lengths c_h0_fractions c_h0_pulseTimes c_h0_pulseEnergies c_h0_sound c_h0_seen c_h1_count c_h1_front c_h1_least c_h1_window c_h1_pulses c_h1_lengths c_h1_fractions c_h1_pulseTimes c_h1_pulseEnergies c_h1_sound c_h1_seen c_h2_count c_h2_front c_h2_least c_h2_window c_h2_pulses c_h2_lengths c_h2_fractions c_h2_pulseTimes c_h2_pulseEnergies c_h2_sound c_h2_seen c_s_length c_s_command c_s_position c_s_fault c_s_bytes c_s_numbers c_w_near c_w_far c_w_echoes c_w_totals c_p_result c_p_endTime c_q_count c_q_front c_q_least c_q_window c_q_pulses c_q_lengths c_q_fractions c_q_pulseTimes c_q_pulseEnergies c_t_near c_t_far c_t_echoes c_t_totals)) (hf : Cf_B_verdictOnReplace_n_48  = some r) : V X 0 0 (wL E a T c_waveIsFresh c_peelingIsFresh c_n_count c_n_front c_n_least c_n_window c_n_pulses c_n_lengths c_n_fractions c_n_pulseTimes c_n_pulseEnergies c_n_sound c_n_seen c_hcount c_hp c_h0_count c_h0_front c_h0_least c_h0_window c_h0_pulses c_h0_lengths c_h0_fractions c_h0_pulseTimes c_h0_pulseEnergies c_h0_sound c_h0_seen c_h1_count c_h1_front c_h1_least c_h1_window c_h1_pulses c_h1_lengths c_h1_fractions c_h1_pulseTimes c_h1_pulseEnergies c_h1_sound c_h1_seen c_h2_count c_h2_front c_h2_least c_h2_window c_h2_pulses c_h2_lengths c_h2_fractions c_h2_pulseTimes c_h2_pulseEnergies c_h2_sound c_h2_seen c_s_length c_s_command c_s_position c_s_fault c_s_bytes c_s_numbers c_w_near c_w_far c_w_echoes c_w_totals c_p_result c_p_endTime c_q_count c_q_front c_q_least c_q_window c_q_pulses c_q_lengths c_q_fractions c_q_pulseTimes c_q_pulseEnergies c_t_near c_t_far c_t_echoes c_t_totals) [] 48 [] := by
  unfold Cf_B_verdictOnReplace_n_48 at hf
  refine v_iconst (v := 0) C dX1_verdictOnReplace_48 (by decide) ?_
  exact Cb_B_verdictOnReplace_n_49 C hret hf
def Cf_B_verdictOnReplace_n (c_n_count : Int32) (x1 : Int32) (x2 : Int32) (x3 : Int32) : Option Nat :=
  nm (x1.toInt64) fun z1 =>
  nm (c_n_count - (1 : Int32)) fun z8 =>
  nm (z8.toInt64) fun z9 =>
  bd (Cf_L_isWithin z1 (0 : Int64) z9) fun r10 =>
  if r10 = 0 then
    some (1)
  else
    nm (x2.toInt64) fun z21 =>
    bd (Cf_L_isWithin z21 (1 : Int64) (20 : Int64)) fun r26 =>
    if r26 = 0 then
      Cf_B_verdictOnReplace_n_48 
    else
      nm (x3.toInt64) fun z33 =>
      bd (Cf_L_isWithin z33 (0 : Int64) (1000 : Int64)) fun r38 =>
      if r38 = 0 then
        Cf_B_verdictOnReplace_n_48 
      else
        Cf_B_verdictOnReplace_n_49 (1 : Int32)
set_option maxRecDepth 100000 in
set_option maxHeartbeats 4000000 in
theorem Cb_B_verdictOnReplace_n (C : Cx X (SFG E) T cX1_verdictOnReplace RX1 (some (.object "LineEchoes$Verdict")) 5 1 25) {x1 : Int32} {x2 : Int32} {x3 : Int32} {r : Nat} (hret : RetOK X 0 0 (some (.ref (E 1 r))) (wL E a T c_waveIsFresh c_peelingIsFresh c_n_count c_n_front c_n_least c_n_window c_n_pulses c_n_lengths c_n_fractions c_n_pulseTimes c_n_pulseEnergies c_n_sound c_n_seen c_hcount c_hp c_h0_count c_h0_front c_h0_least c_h0_window c_h0_pulses c_h0_lengths c_h0_fractions c_h0_pulseTimes c_h0_pulseEnergies c_h0_sound c_h0_seen c_h1_count c_h1_front c_h1_least c_h1_window c_h1_pulses c_h1_lengths c_h1_fractions c_h1_pulseTimes c_h1_pulseEnergies c_h1_sound c_h1_seen c_h2_count c_h2_front c_h2_least c_h2_window c_h2_pulses c_h2_lengths c_h2_fractions c_h2_pulseTimes c_h2_pulseEnergies c_h2_sound c_h2_seen c_s_length c_s_command c_s_position c_s_fault c_s_bytes c_s_numbers c_w_near c_w_far c_w_echoes c_w_totals c_p_result c_p_endTime c_q_count c_q_front c_q_least c_q_window c_q_pulses c_q_lengths c_q_fractions c_q_pulseTimes c_q_pulseEnergies c_t_near c_t_far c_t_echoes c_t_totals)) (hf : Cf_B_verdictOnReplace_n c_n_count x1 x2 x3 = some r) : V X 0 0 (wL E a T c_waveIsFresh c_peelingIsFresh c_n_count c_n_front c_n_least c_n_window c_n_pulses c_n_lengths c_n_fractions c_n_pulseTimes c_n_pulseEnergies c_n_sound c_n_seen c_hcount c_hp c_h0_count c_h0_front c_h0_least c_h0_window c_h0_pulses c_h0_lengths c_h0_fractions c_h0_pulseTimes c_h0_pulseEnergies c_h0_sound c_h0_seen c_h1_count c_h1_front c_h1_least c_h1_window c_h1_pulses c_h1_lengths c_h1_fractions c_h1_pulseTimes c_h1_pulseEnergies c_h1_sound c_h1_seen c_h2_count c_h2_front c_h2_least c_h2_window c_h2_pulses c_h2_lengths c_h2_fractions c_h2_pulseTimes c_h2_pulseEnergies c_h2_sound c_h2_seen c_s_length c_s_command c_s_position c_s_fault c_s_bytes c_s_numbers c_w_near c_w_far c_w_echoes c_w_totals c_p_result c_p_endTime c_q_count c_q_front c_q_least c_q_window c_q_pulses c_q_lengths c_q_fractions c_q_pulseTimes c_q_pulseEnergies c_t_near c_t_far c_t_echoes c_t_totals) [(0, .ref (a 2)), (1, .int x1), (2, .int x2), (3, .int x3)] 0 [] := by
  unfold Cf_B_verdictOnReplace_n at hf
  refine v_iload_n 1 C dX1_verdictOnReplace_0 rfl rfl ?_
  refine v_i2l C dX1_verdictOnReplace_1 hf (fun z1 hf => ?_)
  refine v_lconst (v := 0) C dX1_verdictOnReplace_2 (by decide) ?_
  refine v_aload_n 0 C dX1_verdictOnReplace_3 rfl rfl ?_
  refine Cg_2_count wfieldLink_RX1_9_LineEchoes_Bench_count_I C dX1_verdictOnReplace_4 ?_
  refine v_iconst (v := 1) C dX1_verdictOnReplace_7 (by decide) ?_
  refine v_isub C dX1_verdictOnReplace_8 hf (fun z8 hf => ?_)
  refine v_i2l C dX1_verdictOnReplace_9 hf (fun z9 hf => ?_)
  refine Cc_L_isWithin_N nest0 C dX1_verdictOnReplace_10 (by decide) (Nat.le_of_ble_eq_true rfl) hf (fun r10 hf => ?_)
  refine v_if_ne 20 C dX1_verdictOnReplace_13 (by decide) hf (fun c hf => ?_) (fun c hf => ?_)
  · refine Ce_verd (i := 1) (by decide) wfieldLink_RX1_64_LineEchoes_Verdict_NO_SUCH_NUMBER_LLineEchoes_Verdict C dX1_verdictOnReplace_16 ?_
    cases hf
    exact v_aret C hret dX1_verdictOnReplace_19
  · refine v_iload_n 2 C dX1_verdictOnReplace_20 rfl rfl ?_
    refine v_i2l C dX1_verdictOnReplace_21 hf (fun z21 hf => ?_)
    refine v_lconst (v := 1) C dX1_verdictOnReplace_22 (by decide) ?_
    refine v_ldc2 (v := 20) C wconstantLong_RX1_67_20 dX1_verdictOnReplace_23 ?_
    refine Cc_L_isWithin_N nest0 C dX1_verdictOnReplace_26 (by decide) (Nat.le_of_ble_eq_true rfl) hf (fun r26 hf => ?_)
    refine v_if_eq 48 C dX1_verdictOnReplace_29 (by decide) hf (fun c hf => ?_) (fun c hf => ?_)
    · refine v_lv [] [] rfl ?_
      exact Cb_B_verdictOnReplace_n_48 C hret hf
    · refine v_iload_n 3 C dX1_verdictOnReplace_32 rfl rfl ?_
      refine v_i2l C dX1_verdictOnReplace_33 hf (fun z33 hf => ?_)
      refine v_lconst (v := 0) C dX1_verdictOnReplace_34 (by decide) ?_
      refine v_ldc2 (v := 1000) C wconstantLong_RX1_69_1000 dX1_verdictOnReplace_35 ?_
      refine Cc_L_isWithin_N nest0 C dX1_verdictOnReplace_38 (by decide) (Nat.le_of_ble_eq_true rfl) hf (fun r38 hf => ?_)
      refine v_if_eq 48 C dX1_verdictOnReplace_41 (by decide) hf (fun c hf => ?_) (fun c hf => ?_)
      · refine v_lv [] [] rfl ?_
        exact Cb_B_verdictOnReplace_n_48 C hret hf
      · refine v_iconst (v := 1) C dX1_verdictOnReplace_44 (by decide) ?_
        refine v_goto 49 C dX1_verdictOnReplace_45 (by decide) ?_
        refine v_lv [] [] rfl ?_
        exact Cb_B_verdictOnReplace_n_49 C hret hf
set_option maxRecDepth 100000 in
set_option maxHeartbeats 4000000 in
theorem Cm_B_verdictOnReplace_n {D : va_G} {x1 : Int32} {x2 : Int32} {x3 : Int32} {r : Nat} (hf : Cf_B_verdictOnReplace_n c_n_count x1 x2 x3 = some r) : MetM (SFG E) yX1_verdictOnReplace cX1_verdictOnReplace 5 (some (.object "LineEchoes$Verdict")) { frames := 1, cells := 0, slots := 0, locals := 25 } D T [.ref (a 2), .int x1, .int x2, .int x3] (wL E a T c_waveIsFresh c_peelingIsFresh c_n_count c_n_front c_n_least c_n_window c_n_pulses c_n_lengths c_n_fractions c_n_pulseTimes c_n_pulseEnergies c_n_sound c_n_seen c_hcount c_hp c_h0_count c_h0_front c_h0_least c_h0_window c_h0_pulses c_h0_lengths c_h0_fractions c_h0_pulseTimes c_h0_pulseEnergies c_h0_sound c_h0_seen c_h1_count c_h1_front c_h1_least c_h1_window c_h1_pulses c_h1_lengths c_h1_fractions c_h1_pulseTimes c_h1_pulseEnergies c_h1_sound c_h1_seen c_h2_count c_h2_front c_h2_least c_h2_window c_h2_pulses c_h2_lengths c_h2_fractions c_h2_pulseTimes c_h2_pulseEnergies c_h2_sound c_h2_seen c_s_length c_s_command c_s_position c_s_fault c_s_bytes c_s_numbers c_w_near c_w_far c_w_echoes c_w_totals c_p_result c_p_endTime c_q_count c_q_front c_q_least c_q_window c_q_pulses c_q_lengths c_q_fractions c_q_pulseTimes c_q_pulseEnergies c_t_near c_t_far c_t_echoes c_t_totals) (some (.ref (E 1 r))) (wL E a T c_waveIsFresh c_peelingIsFresh c_n_count c_n_front c_n_least c_n_window c_n_pulses c_n_lengths c_n_fractions c_n_pulseTimes c_n_pulseEnergies c_n_sound c_n_seen c_hcount c_hp c_h0_count c_h0_front c_h0_least c_h0_window c_h0_pulses c_h0_lengths c_h0_fractions c_h0_pulseTimes c_h0_pulseEnergies c_h0_sound c_h0_seen c_h1_count c_h1_front c_h1_least c_h1_window c_h1_pulses c_h1_lengths c_h1_fractions c_h1_pulseTimes c_h1_pulseEnergies c_h1_sound c_h1_seen c_h2_count c_h2_front c_h2_least c_h2_window c_h2_pulses c_h2_lengths c_h2_fractions c_h2_pulseTimes c_h2_pulseEnergies c_h2_sound c_h2_seen c_s_length c_s_command c_s_position c_s_fault c_s_bytes c_s_numbers c_w_near c_w_far c_w_echoes c_w_totals c_p_result c_p_endTime c_q_count c_q_front c_q_least c_q_window c_q_pulses c_q_lengths c_q_fractions c_q_pulseTimes c_q_pulseEnergies c_t_near c_t_far c_t_echoes c_t_totals) :=
  MetM.of [(0, .ref (a 2)), (1, .int x1), (2, .int x2), (3, .int x3)] (by decide) (Nat.le_of_ble_eq_true rfl) rfl (fun X C hret => Cb_B_verdictOnReplace_n C hret hf)
def Cf_B_verdictOnDivide_n_50  : Option Nat :=
  some (2)
set_option maxRecDepth 100000 in
set_option maxHeartbeats 4000000 in
theorem Cb_B_verdictOnDivide_n_50 (C : Cx X (SFG E) T cX1_verdictOnDivide RX1 (some (.object "LineEchoes$Verdict")) 4 1 25)  {r : Nat} (hret : RetOK X 0 0 (some (.ref (E 1 r))) (wL E a T c_waveIsFresh c_peelingIsFresh c_n_count c_n_front c_n_least c_n_window c_n_pulses c_n_lengths c_n_fractions c_n_pulseTimes c_n_pulseEnergies c_n_sound c_n_seen c_hcount c_hp c_h0_count c_h0_front c_h0_least c_h0_window c_h0_pulses c_h0_lengths c_h0_fractions c_h0_pulseTimes c_h0_pulseEnergies c_h0_sound c_h0_seen c_h1_count c_h1_front c_h1_least c_h1_window c_h1_pulses c_h1_lengths c_h1_fractions c_h1_pulseTimes c_h1_pulseEnergies c_h1_sound c_h1_seen c_h2_count c_h2_front c_h2_least c_h2_window c_h2_pulses c_h2_lengths c_h2_fractions c_h2_pulseTimes c_h2_pulseEnergies c_h2_sound c_h2_seen c_s_length c_s_command c_s_position c_s_fault c_s_bytes c_s_numbers c_w_near c_w_far c_w_echoes c_w_totals c_p_result c_p_endTime c_q_count c_q_front c_q_least c_q_window c_q_pulses c_q_lengths c_q_fractions c_q_pulseTimes c_q_pulseEnergies c_t_near c_t_far c_t_echoes c_t_totals)) (hf : Cf_B_verdictOnDivide_n_50  = some r) : V X 0 0 (wL E a T c_waveIsFresh c_peelingIsFresh c_n_count c_n_front c_n_least c_n_window c_n_pulses c_n_lengths c_n_fractions c_n_pulseTimes c_n_pulseEnergies c_n_sound c_n_seen c_hcount c_hp c_h0_count c_h0_front c_h0_least c_h0_window c_h0_pulses c_h0_lengths c_h0_fractions c_h0_pulseTimes c_h0_pulseEnergies c_h0_sound c_h0_seen c_h1_count c_h1_front c_h1_least c_h1_window c_h1_pulses c_h1_lengths c_h1_fractions c_h1_pulseTimes c_h1_pulseEnergies c_h1_sound c_h1_seen c_h2_count c_h2_front c_h2_least c_h2_window c_h2_pulses c_h2_lengths c_h2_fractions c_h2_pulseTimes c_h2_pulseEnergies c_h2_sound c_h2_seen c_s_length c_s_command c_s_position c_s_fault c_s_bytes c_s_numbers c_w_near c_w_far c_w_echoes c_w_totals c_p_result c_p_endTime c_q_count c_q_front c_q_least c_q_window c_q_pulses c_q_lengths c_q_fractions c_q_pulseTimes c_q_pulseEnergies c_t_near c_t_far c_t_echoes c_t_totals) [] 50 [] := by
  unfold Cf_B_verdictOnDivide_n_50 at hf
  refine Ce_verd (i := 2) (by decide) wfieldLink_RX1_71_LineEchoes_Verdict_OUT_OF_RANGE_LLineEchoes_Verdict C dX1_verdictOnDivide_50 ?_
  cases hf
  exact v_aret C hret dX1_verdictOnDivide_53
def Cf_B_verdictOnDivide_n_72 (s0 : Nat) : Option Nat :=
  some s0
set_option maxRecDepth 100000 in
set_option maxHeartbeats 4000000 in
theorem Cb_B_verdictOnDivide_n_72 (C : Cx X (SFG E) T cX1_verdictOnDivide RX1 (some (.object "LineEchoes$Verdict")) 4 1 25) {s0 : Nat} {r : Nat} (hret : RetOK X 0 0 (some (.ref (E 1 r))) (wL E a T c_waveIsFresh c_peelingIsFresh c_n_count c_n_front c_n_least c_n_window c_n_pulses c_n_lengths c_n_fractions c_n_pulseTimes c_n_pulseEnergies c_n_sound c_n_seen c_hcount c_hp c_h0_count c_h0_front c_h0_least c_h0_window c_h0_pulses c_h0_lengths c_h0_fractions c_h0_pulseTimes c_h0_pulseEnergies c_h0_sound c_h0_seen c_h1_count c_h1_front c_h1_least c_h1_window c_h1_pulses c_h1_lengths c_h1_fractions c_h1_pulseTimes c_h1_pulseEnergies c_h1_sound c_h1_seen c_h2_count c_h2_front c_h2_least c_h2_window c_h2_pulses c_h2_lengths c_h2_fractions c_h2_pulseTimes c_h2_pulseEnergies c_h2_sound c_h2_seen c_s_length c_s_command c_s_position c_s_fault c_s_bytes c_s_numbers c_w_near c_w_far c_w_echoes c_w_totals c_p_result c_p_endTime c_q_count c_q_front c_q_least c_q_window c_q_pulses c_q_lengths c_q_fractions c_q_pulseTimes c_q_pulseEnergies c_t_near c_t_far c_t_echoes c_t_totals)) (hf : Cf_B_verdictOnDivide_n_72 s0 = some r) : V X 0 0 (wL E a T c_waveIsFresh c_peelingIsFresh c_n_count c_n_front c_n_least c_n_window c_n_pulses c_n_lengths c_n_fractions c_n_pulseTimes c_n_pulseEnergies c_n_sound c_n_seen c_hcount c_hp c_h0_count c_h0_front c_h0_least c_h0_window c_h0_pulses c_h0_lengths c_h0_fractions c_h0_pulseTimes c_h0_pulseEnergies c_h0_sound c_h0_seen c_h1_count c_h1_front c_h1_least c_h1_window c_h1_pulses c_h1_lengths c_h1_fractions c_h1_pulseTimes c_h1_pulseEnergies c_h1_sound c_h1_seen c_h2_count c_h2_front c_h2_least c_h2_window c_h2_pulses c_h2_lengths c_h2_fractions c_h2_pulseTimes c_h2_pulseEnergies c_h2_sound c_h2_seen c_s_length c_s_command c_s_position c_s_fault c_s_bytes c_s_numbers c_w_near c_w_far c_w_echoes c_w_totals c_p_result c_p_endTime c_q_count c_q_front c_q_least c_q_window c_q_pulses c_q_lengths c_q_fractions c_q_pulseTimes c_q_pulseEnergies c_t_near c_t_far c_t_echoes c_t_totals) [] 72 [.ref (E 1 s0)] := by
  unfold Cf_B_verdictOnDivide_n_72 at hf
  cases hf
  exact v_aret C hret dX1_verdictOnDivide_72
def Cf_B_verdictOnDivide_n (c_n_count : Int32) (c_n_lengths : Nat → Int32) (x1 : Int32) (x2 : Int32) (x3 : Int32) : Option Nat :=
  nm (x1.toInt64) fun z1 =>
  nm (c_n_count - (1 : Int32)) fun z8 =>
  nm (z8.toInt64) fun z9 =>
  bd (Cf_L_isWithin z1 (0 : Int64) z9) fun r10 =>
  if r10 = 0 then
    some (1)
  else
    nm (x2.toInt64) fun z21 =>
    chk (inb x1 8) <| nm (c_n_lengths x1.toNatClampNeg) fun z28 =>
    nm (z28 - (1 : Int32)) fun z30 =>
    nm (z30.toInt64) fun z31 =>
    bd (Cf_L_isWithin z21 (1 : Int64) z31) fun r32 =>
    if r32 = 0 then
      Cf_B_verdictOnDivide_n_50 
    else
      nm (x3.toInt64) fun z39 =>
      bd (Cf_L_isWithin z39 (0 : Int64) (1000 : Int64)) fun r44 =>
      if r44 = 0 then
        Cf_B_verdictOnDivide_n_50 
      else
        if (8 : Int32) ≤ c_n_count then
          Cf_B_verdictOnDivide_n_72 (3)
        else
          Cf_B_verdictOnDivide_n_72 (0)
set_option maxRecDepth 100000 in
set_option maxHeartbeats 4000000 in
theorem Cb_B_verdictOnDivide_n (C : Cx X (SFG E) T cX1_verdictOnDivide RX1 (some (.object "LineEchoes$Verdict")) 4 1 25) {x1 : Int32} {x2 : Int32} {x3 : Int32} {r : Nat} (hret : RetOK X 0 0 (some (.ref (E 1 r))) (wL E a T c_waveIsFresh c_peelingIsFresh c_n_count c_n_front c_n_least c_n_window c_n_pulses c_n_lengths c_n_fractions c_n_pulseTimes c_n_pulseEnergies c_n_sound c_n_seen c_hcount c_hp c_h0_count c_h0_front c_h0_least c_h0_window c_h0_pulses c_h0_lengths c_h0_fractions c_h0_pulseTimes c_h0_pulseEnergies c_h0_sound c_h0_seen c_h1_count c_h1_front c_h1_least c_h1_window c_h1_pulses c_h1_lengths c_h1_fractions c_h1_pulseTimes c_h1_pulseEnergies c_h1_sound c_h1_seen c_h2_count c_h2_front c_h2_least c_h2_window c_h2_pulses c_h2_lengths c_h2_fractions c_h2_pulseTimes c_h2_pulseEnergies c_h2_sound c_h2_seen c_s_length c_s_command c_s_position c_s_fault c_s_bytes c_s_numbers c_w_near c_w_far c_w_echoes c_w_totals c_p_result c_p_endTime c_q_count c_q_front c_q_least c_q_window c_q_pulses c_q_lengths c_q_fractions c_q_pulseTimes c_q_pulseEnergies c_t_near c_t_far c_t_echoes c_t_totals)) (hf : Cf_B_verdictOnDivide_n c_n_count c_n_lengths x1 x2 x3 = some r) : V X 0 0 (wL E a T c_waveIsFresh c_peelingIsFresh c_n_count c_n_front c_n_least c_n_window c_n_pulses c_n_lengths c_n_fractions c_n_pulseTimes c_n_pulseEnergies c_n_sound c_n_seen c_hcount c_hp c_h0_count c_h0_front c_h0_least c_h0_window c_h0_pulses c_h0_lengths c_h0_fractions c_h0_pulseTimes c_h0_pulseEnergies c_h0_sound c_h0_seen c_h1_count c_h1_front c_h1_least c_h1_window c_h1_pulses c_h1_lengths c_h1_fractions c_h1_pulseTimes c_h1_pulseEnergies c_h1_sound c_h1_seen c_h2_count c_h2_front c_h2_least c_h2_window c_h2_pulses c_h2_lengths c_h2_fractions c_h2_pulseTimes c_h2_pulseEnergies c_h2_sound c_h2_seen c_s_length c_s_command c_s_position c_s_fault c_s_bytes c_s_numbers c_w_near c_w_far c_w_echoes c_w_totals c_p_result c_p_endTime c_q_count c_q_front c_q_least c_q_window c_q_pulses c_q_lengths c_q_fractions c_q_pulseTimes c_q_pulseEnergies c_t_near c_t_far c_t_echoes c_t_totals) [(0, .ref (a 2)), (1, .int x1), (2, .int x2), (3, .int x3)] 0 [] := by
  unfold Cf_B_verdictOnDivide_n at hf
  refine v_iload_n 1 C dX1_verdictOnDivide_0 rfl rfl ?_
  refine v_i2l C dX1_verdictOnDivide_1 hf (fun z1 hf => ?_)
  refine v_lconst (v := 0) C dX1_verdictOnDivide_2 (by decide) ?_
  refine v_aload_n 0 C dX1_verdictOnDivide_3 rfl rfl ?_
  refine Cg_2_count wfieldLink_RX1_9_LineEchoes_Bench_count_I C dX1_verdictOnDivide_4 ?_
  refine v_iconst (v := 1) C dX1_verdictOnDivide_7 (by decide) ?_
  refine v_isub C dX1_verdictOnDivide_8 hf (fun z8 hf => ?_)
  refine v_i2l C dX1_verdictOnDivide_9 hf (fun z9 hf => ?_)
  refine Cc_L_isWithin_N nest0 C dX1_verdictOnDivide_10 (by decide) (Nat.le_of_ble_eq_true rfl) hf (fun r10 hf => ?_)
  refine v_if_ne 20 C dX1_verdictOnDivide_13 (by decide) hf (fun c hf => ?_) (fun c hf => ?_)
  · refine Ce_verd (i := 1) (by decide) wfieldLink_RX1_64_LineEchoes_Verdict_NO_SUCH_NUMBER_LLineEchoes_Verdict C dX1_verdictOnDivide_16 ?_
    cases hf
    exact v_aret C hret dX1_verdictOnDivide_19
  · refine v_iload_n 2 C dX1_verdictOnDivide_20 rfl rfl ?_
    refine v_i2l C dX1_verdictOnDivide_21 hf (fun z21 hf => ?_)
    refine v_lconst (v := 1) C dX1_verdictOnDivide_22 (by decide) ?_
    refine v_aload_n 0 C dX1_verdictOnDivide_23 rfl rfl ?_
    refine Cg_2_lengths wfieldLink_RX1_15_LineEchoes_Bench_lengths_I C dX1_verdictOnDivide_24 ?_
    refine v_iload_n 1 C dX1_verdictOnDivide_27 rfl rfl ?_
    refine Cal_3 C dX1_verdictOnDivide_28 hf (fun z28 hf => ?_)
    refine v_iconst (v := 1) C dX1_verdictOnDivide_29 (by decide) ?_
    refine v_isub C dX1_verdictOnDivide_30 hf (fun z30 hf => ?_)
    refine v_i2l C dX1_verdictOnDivide_31 hf (fun z31 hf => ?_)
    refine Cc_L_isWithin_N nest0 C dX1_verdictOnDivide_32 (by decide) (Nat.le_of_ble_eq_true rfl) hf (fun r32 hf => ?_)
    refine v_if_eq 50 C dX1_verdictOnDivide_35 (by decide) hf (fun c hf => ?_) (fun c hf => ?_)
    · refine v_lv [] [] rfl ?_
      exact Cb_B_verdictOnDivide_n_50 C hret hf
    · refine v_iload_n 3 C dX1_verdictOnDivide_38 rfl rfl ?_
      refine v_i2l C dX1_verdictOnDivide_39 hf (fun z39 hf => ?_)
      refine v_lconst (v := 0) C dX1_verdictOnDivide_40 (by decide) ?_
      refine v_ldc2 (v := 1000) C wconstantLong_RX1_69_1000 dX1_verdictOnDivide_41 ?_
      refine Cc_L_isWithin_N nest0 C dX1_verdictOnDivide_44 (by decide) (Nat.le_of_ble_eq_true rfl) hf (fun r44 hf => ?_)
      refine v_if_ne 54 C dX1_verdictOnDivide_47 (by decide) hf (fun c hf => ?_) (fun c hf => ?_)
      · refine v_lv [] [] rfl ?_
        exact Cb_B_verdictOnDivide_n_50 C hret hf
      · refine v_aload_n 0 C dX1_verdictOnDivide_54 rfl rfl ?_
        refine Cg_2_count wfieldLink_RX1_9_LineEchoes_Bench_count_I C dX1_verdictOnDivide_55 ?_
        refine v_bipush (v := 8) C dX1_verdictOnDivide_58 (by decide) ?_
        refine v_icmp_ge 69 C dX1_verdictOnDivide_60 (by decide) hf (fun c hf => ?_) (fun c hf => ?_)
        · refine Ce_verd (i := 3) (by decide) wfieldLink_RX1_74_LineEchoes_Verdict_NO_ROOM_LLineEchoes_Verdict C dX1_verdictOnDivide_69 ?_
          refine v_lv [] [] rfl ?_
          exact Cb_B_verdictOnDivide_n_72 C hret hf
        · refine Ce_verd (i := 0) (by decide) wfieldLink_RX1_58_LineEchoes_Verdict_FINE_LLineEchoes_Verdict C dX1_verdictOnDivide_63 ?_
          refine v_goto 72 C dX1_verdictOnDivide_66 (by decide) ?_
          refine v_lv [] [] rfl ?_
          exact Cb_B_verdictOnDivide_n_72 C hret hf
set_option maxRecDepth 100000 in
set_option maxHeartbeats 4000000 in
theorem Cm_B_verdictOnDivide_n {D : va_G} {x1 : Int32} {x2 : Int32} {x3 : Int32} {r : Nat} (hf : Cf_B_verdictOnDivide_n c_n_count c_n_lengths x1 x2 x3 = some r) : MetM (SFG E) yX1_verdictOnDivide cX1_verdictOnDivide 4 (some (.object "LineEchoes$Verdict")) { frames := 1, cells := 0, slots := 0, locals := 25 } D T [.ref (a 2), .int x1, .int x2, .int x3] (wL E a T c_waveIsFresh c_peelingIsFresh c_n_count c_n_front c_n_least c_n_window c_n_pulses c_n_lengths c_n_fractions c_n_pulseTimes c_n_pulseEnergies c_n_sound c_n_seen c_hcount c_hp c_h0_count c_h0_front c_h0_least c_h0_window c_h0_pulses c_h0_lengths c_h0_fractions c_h0_pulseTimes c_h0_pulseEnergies c_h0_sound c_h0_seen c_h1_count c_h1_front c_h1_least c_h1_window c_h1_pulses c_h1_lengths c_h1_fractions c_h1_pulseTimes c_h1_pulseEnergies c_h1_sound c_h1_seen c_h2_count c_h2_front c_h2_least c_h2_window c_h2_pulses c_h2_lengths c_h2_fractions c_h2_pulseTimes c_h2_pulseEnergies c_h2_sound c_h2_seen c_s_length c_s_command c_s_position c_s_fault c_s_bytes c_s_numbers c_w_near c_w_far c_w_echoes c_w_totals c_p_result c_p_endTime c_q_count c_q_front c_q_least c_q_window c_q_pulses c_q_lengths c_q_fractions c_q_pulseTimes c_q_pulseEnergies c_t_near c_t_far c_t_echoes c_t_totals) (some (.ref (E 1 r))) (wL E a T c_waveIsFresh c_peelingIsFresh c_n_count c_n_front c_n_least c_n_window c_n_pulses c_n_lengths c_n_fractions c_n_pulseTimes c_n_pulseEnergies c_n_sound c_n_seen c_hcount c_hp c_h0_count c_h0_front c_h0_least c_h0_window c_h0_pulses c_h0_lengths c_h0_fractions c_h0_pulseTimes c_h0_pulseEnergies c_h0_sound c_h0_seen c_h1_count c_h1_front c_h1_least c_h1_window c_h1_pulses c_h1_lengths c_h1_fractions c_h1_pulseTimes c_h1_pulseEnergies c_h1_sound c_h1_seen c_h2_count c_h2_front c_h2_least c_h2_window c_h2_pulses c_h2_lengths c_h2_fractions c_h2_pulseTimes c_h2_pulseEnergies c_h2_sound c_h2_seen c_s_length c_s_command c_s_position c_s_fault c_s_bytes c_s_numbers c_w_near c_w_far c_w_echoes c_w_totals c_p_result c_p_endTime c_q_count c_q_front c_q_least c_q_window c_q_pulses c_q_lengths c_q_fractions c_q_pulseTimes c_q_pulseEnergies c_t_near c_t_far c_t_echoes c_t_totals) :=
  MetM.of [(0, .ref (a 2)), (1, .int x1), (2, .int x2), (3, .int x3)] (by decide) (Nat.le_of_ble_eq_true rfl) rfl (fun X C hret => Cb_B_verdictOnDivide_n C hret hf)
def Cf_B_verdictOnPulse_n_24  : Option Nat :=
  some (2)
set_option maxRecDepth 100000 in
set_option maxHeartbeats 4000000 in
theorem Cb_B_verdictOnPulse_n_24 (C : Cx X (SFG E) T cX1_verdictOnPulse RX1 (some (.object "LineEchoes$Verdict")) 3 1 25)  {r : Nat} (hret : RetOK X 0 0 (some (.ref (E 1 r))) (wL E a T c_waveIsFresh c_peelingIsFresh c_n_count c_n_front c_n_least c_n_window c_n_pulses c_n_lengths c_n_fractions c_n_pulseTimes c_n_pulseEnergies c_n_sound c_n_seen c_hcount c_hp c_h0_count c_h0_front c_h0_least c_h0_window c_h0_pulses c_h0_lengths c_h0_fractions c_h0_pulseTimes c_h0_pulseEnergies c_h0_sound c_h0_seen c_h1_count c_h1_front c_h1_least c_h1_window c_h1_pulses c_h1_lengths c_h1_fractions c_h1_pulseTimes c_h1_pulseEnergies c_h1_sound c_h1_seen c_h2_count c_h2_front c_h2_least c_h2_window c_h2_pulses c_h2_lengths c_h2_fractions c_h2_pulseTimes c_h2_pulseEnergies c_h2_sound c_h2_seen c_s_length c_s_command c_s_position c_s_fault c_s_bytes c_s_numbers c_w_near c_w_far c_w_echoes c_w_totals c_p_result c_p_endTime c_q_count c_q_front c_q_least c_q_window c_q_pulses c_q_lengths c_q_fractions c_q_pulseTimes c_q_pulseEnergies c_t_near c_t_far c_t_echoes c_t_totals)) (hf : Cf_B_verdictOnPulse_n_24  = some r) : V X 0 0 (wL E a T c_waveIsFresh c_peelingIsFresh c_n_count c_n_front c_n_least c_n_window c_n_pulses c_n_lengths c_n_fractions c_n_pulseTimes c_n_pulseEnergies c_n_sound c_n_seen c_hcount c_hp c_h0_count c_h0_front c_h0_least c_h0_window c_h0_pulses c_h0_lengths c_h0_fractions c_h0_pulseTimes c_h0_pulseEnergies c_h0_sound c_h0_seen c_h1_count c_h1_front c_h1_least c_h1_window c_h1_pulses c_h1_lengths c_h1_fractions c_h1_pulseTimes c_h1_pulseEnergies c_h1_sound c_h1_seen c_h2_count c_h2_front c_h2_least c_h2_window c_h2_pulses c_h2_lengths c_h2_fractions c_h2_pulseTimes c_h2_pulseEnergies c_h2_sound c_h2_seen c_s_length c_s_command c_s_position c_s_fault c_s_bytes c_s_numbers c_w_near c_w_far c_w_echoes c_w_totals c_p_result c_p_endTime c_q_count c_q_front c_q_least c_q_window c_q_pulses c_q_lengths c_q_fractions c_q_pulseTimes c_q_pulseEnergies c_t_near c_t_far c_t_echoes c_t_totals) [] 24 [] := by
  unfold Cf_B_verdictOnPulse_n_24 at hf
  refine Ce_verd (i := 2) (by decide) wfieldLink_RX1_71_LineEchoes_Verdict_OUT_OF_RANGE_LLineEchoes_Verdict C dX1_verdictOnPulse_24 ?_
  cases hf
  exact v_aret C hret dX1_verdictOnPulse_27
def Cf_B_verdictOnPulse_n_45 (s0 : Nat) : Option Nat :=
  some s0
set_option maxRecDepth 100000 in
set_option maxHeartbeats 4000000 in
theorem Cb_B_verdictOnPulse_n_45 (C : Cx X (SFG E) T cX1_verdictOnPulse RX1 (some (.object "LineEchoes$Verdict")) 3 1 25) {s0 : Nat} {r : Nat} (hret : RetOK X 0 0 (some (.ref (E 1 r))) (wL E a T c_waveIsFresh c_peelingIsFresh c_n_count c_n_front c_n_least c_n_window c_n_pulses c_n_lengths c_n_fractions c_n_pulseTimes c_n_pulseEnergies c_n_sound c_n_seen c_hcount c_hp c_h0_count c_h0_front c_h0_least c_h0_window c_h0_pulses c_h0_lengths c_h0_fractions c_h0_pulseTimes c_h0_pulseEnergies c_h0_sound c_h0_seen c_h1_count c_h1_front c_h1_least c_h1_window c_h1_pulses c_h1_lengths c_h1_fractions c_h1_pulseTimes c_h1_pulseEnergies c_h1_sound c_h1_seen c_h2_count c_h2_front c_h2_least c_h2_window c_h2_pulses c_h2_lengths c_h2_fractions c_h2_pulseTimes c_h2_pulseEnergies c_h2_sound c_h2_seen c_s_length c_s_command c_s_position c_s_fault c_s_bytes c_s_numbers c_w_near c_w_far c_w_echoes c_w_totals c_p_result c_p_endTime c_q_count c_q_front c_q_least c_q_window c_q_pulses c_q_lengths c_q_fractions c_q_pulseTimes c_q_pulseEnergies c_t_near c_t_far c_t_echoes c_t_totals)) (hf : Cf_B_verdictOnPulse_n_45 s0 = some r) : V X 0 0 (wL E a T c_waveIsFresh c_peelingIsFresh c_n_count c_n_front c_n_least c_n_window c_n_pulses c_n_lengths c_n_fractions c_n_pulseTimes c_n_pulseEnergies c_n_sound c_n_seen c_hcount c_hp c_h0_count c_h0_front c_h0_least c_h0_window c_h0_pulses c_h0_lengths c_h0_fractions c_h0_pulseTimes c_h0_pulseEnergies c_h0_sound c_h0_seen c_h1_count c_h1_front c_h1_least c_h1_window c_h1_pulses c_h1_lengths c_h1_fractions c_h1_pulseTimes c_h1_pulseEnergies c_h1_sound c_h1_seen c_h2_count c_h2_front c_h2_least c_h2_window c_h2_pulses c_h2_lengths c_h2_fractions c_h2_pulseTimes c_h2_pulseEnergies c_h2_sound c_h2_seen c_s_length c_s_command c_s_position c_s_fault c_s_bytes c_s_numbers c_w_near c_w_far c_w_echoes c_w_totals c_p_result c_p_endTime c_q_count c_q_front c_q_least c_q_window c_q_pulses c_q_lengths c_q_fractions c_q_pulseTimes c_q_pulseEnergies c_t_near c_t_far c_t_echoes c_t_totals) [] 45 [.ref (E 1 s0)] := by
  unfold Cf_B_verdictOnPulse_n_45 at hf
  cases hf
  exact v_aret C hret dX1_verdictOnPulse_45
def Cf_B_verdictOnPulse_n (c_n_pulses : Int32) (x1 : Int32) (x2 : Int32) : Option Nat :=
  nm (x1.toInt64) fun z1 =>
  bd (Cf_L_isWithin z1 (0 : Int64) (100 : Int64)) fun r6 =>
  if r6 = 0 then
    Cf_B_verdictOnPulse_n_24 
  else
    nm (x2.toInt64) fun z13 =>
    bd (Cf_L_isWithin z13 (1 : Int64) (1000000 : Int64)) fun r18 =>
    if r18 = 0 then
      Cf_B_verdictOnPulse_n_24 
    else
      if (4 : Int32) ≤ c_n_pulses then
        Cf_B_verdictOnPulse_n_45 (3)
      else
        Cf_B_verdictOnPulse_n_45 (0)
set_option maxRecDepth 100000 in
set_option maxHeartbeats 4000000 in
theorem Cb_B_verdictOnPulse_n (C : Cx X (SFG E) T cX1_verdictOnPulse RX1 (some (.object "LineEchoes$Verdict")) 3 1 25) {x1 : Int32} {x2 : Int32} {r : Nat} (hret : RetOK X 0 0 (some (.ref (E 1 r))) (wL E a T c_waveIsFresh c_peelingIsFresh c_n_count c_n_front c_n_least c_n_window c_n_pulses c_n_lengths c_n_fractions c_n_pulseTimes c_n_pulseEnergies c_n_sound c_n_seen c_hcount c_hp c_h0_count c_h0_front c_h0_least c_h0_window c_h0_pulses c_h0_lengths c_h0_fractions c_h0_pulseTimes c_h0_pulseEnergies c_h0_sound c_h0_seen c_h1_count c_h1_front c_h1_least c_h1_window c_h1_pulses c_h1_lengths c_h1_fractions c_h1_pulseTimes c_h1_pulseEnergies c_h1_sound c_h1_seen c_h2_count c_h2_front c_h2_least c_h2_window c_h2_pulses c_h2_lengths c_h2_fractions c_h2_pulseTimes c_h2_pulseEnergies c_h2_sound c_h2_seen c_s_length c_s_command c_s_position c_s_fault c_s_bytes c_s_numbers c_w_near c_w_far c_w_echoes c_w_totals c_p_result c_p_endTime c_q_count c_q_front c_q_least c_q_window c_q_pulses c_q_lengths c_q_fractions c_q_pulseTimes c_q_pulseEnergies c_t_near c_t_far c_t_echoes c_t_totals)) (hf : Cf_B_verdictOnPulse_n c_n_pulses x1 x2 = some r) : V X 0 0 (wL E a T c_waveIsFresh c_peelingIsFresh c_n_count c_n_front c_n_least c_n_window c_n_pulses c_n_lengths c_n_fractions c_n_pulseTimes c_n_pulseEnergies c_n_sound c_n_seen c_hcount c_hp c_h0_count c_h0_front c_h0_least c_h0_window c_h0_pulses c_h0_lengths c_h0_fractions c_h0_pulseTimes c_h0_pulseEnergies c_h0_sound c_h0_seen c_h1_count c_h1_front c_h1_least c_h1_window c_h1_pulses c_h1_lengths c_h1_fractions c_h1_pulseTimes c_h1_pulseEnergies c_h1_sound c_h1_seen c_h2_count c_h2_front c_h2_least c_h2_window c_h2_pulses c_h2_lengths c_h2_fractions c_h2_pulseTimes c_h2_pulseEnergies c_h2_sound c_h2_seen c_s_length c_s_command c_s_position c_s_fault c_s_bytes c_s_numbers c_w_near c_w_far c_w_echoes c_w_totals c_p_result c_p_endTime c_q_count c_q_front c_q_least c_q_window c_q_pulses c_q_lengths c_q_fractions c_q_pulseTimes c_q_pulseEnergies c_t_near c_t_far c_t_echoes c_t_totals) [(0, .ref (a 2)), (1, .int x1), (2, .int x2)] 0 [] := by
  unfold Cf_B_verdictOnPulse_n at hf
  refine v_iload_n 1 C dX1_verdictOnPulse_0 rfl rfl ?_
  refine v_i2l C dX1_verdictOnPulse_1 hf (fun z1 hf => ?_)
  refine v_lconst (v := 0) C dX1_verdictOnPulse_2 (by decide) ?_
  refine v_ldc2 (v := 100) C wconstantLong_RX1_77_100 dX1_verdictOnPulse_3 ?_
  refine Cc_L_isWithin_N nest0 C dX1_verdictOnPulse_6 (by decide) (Nat.le_of_ble_eq_true rfl) hf (fun r6 hf => ?_)
  refine v_if_eq 24 C dX1_verdictOnPulse_9 (by decide) hf (fun c hf => ?_) (fun c hf => ?_)
  · refine v_lv [] [] rfl ?_
    exact Cb_B_verdictOnPulse_n_24 C hret hf
  · refine v_iload_n 2 C dX1_verdictOnPulse_12 rfl rfl ?_
    refine v_i2l C dX1_verdictOnPulse_13 hf (fun z13 hf => ?_)
    refine v_lconst (v := 1) C dX1_verdictOnPulse_14 (by decide) ?_
    refine v_ldc2 (v := 1000000) C wconstantLong_RX1_79_1000000 dX1_verdictOnPulse_15 ?_
    refine Cc_L_isWithin_N nest0 C dX1_verdictOnPulse_18 (by decide) (Nat.le_of_ble_eq_true rfl) hf (fun r18 hf => ?_)
    refine v_if_ne 28 C dX1_verdictOnPulse_21 (by decide) hf (fun c hf => ?_) (fun c hf => ?_)
    · refine v_lv [] [] rfl ?_
      exact Cb_B_verdictOnPulse_n_24 C hret hf
    · refine v_aload_n 0 C dX1_verdictOnPulse_28 rfl rfl ?_
      refine Cg_2_pulses wfieldLink_RX1_31_LineEchoes_Bench_pulses_I C dX1_verdictOnPulse_29 ?_
      refine v_iconst (v := 4) C dX1_verdictOnPulse_32 (by decide) ?_
      refine v_icmp_ge 42 C dX1_verdictOnPulse_33 (by decide) hf (fun c hf => ?_) (fun c hf => ?_)
      · refine Ce_verd (i := 3) (by decide) wfieldLink_RX1_74_LineEchoes_Verdict_NO_ROOM_LLineEchoes_Verdict C dX1_verdictOnPulse_42 ?_
        refine v_lv [] [] rfl ?_
        exact Cb_B_verdictOnPulse_n_45 C hret hf
      · refine Ce_verd (i := 0) (by decide) wfieldLink_RX1_58_LineEchoes_Verdict_FINE_LLineEchoes_Verdict C dX1_verdictOnPulse_36 ?_
        refine v_goto 45 C dX1_verdictOnPulse_39 (by decide) ?_
        refine v_lv [] [] rfl ?_
        exact Cb_B_verdictOnPulse_n_45 C hret hf
set_option maxRecDepth 100000 in
set_option maxHeartbeats 4000000 in
theorem Cm_B_verdictOnPulse_n {D : va_G} {x1 : Int32} {x2 : Int32} {r : Nat} (hf : Cf_B_verdictOnPulse_n c_n_pulses x1 x2 = some r) : MetM (SFG E) yX1_verdictOnPulse cX1_verdictOnPulse 3 (some (.object "LineEchoes$Verdict")) { frames := 1, cells := 0, slots := 0, locals := 25 } D T [.ref (a 2), .int x1, .int x2] (wL E a T c_waveIsFresh c_peelingIsFresh c_n_count c_n_front c_n_least c_n_window c_n_pulses c_n_lengths c_n_fractions c_n_pulseTimes c_n_pulseEnergies c_n_sound c_n_seen c_hcount c_hp c_h0_count c_h0_front c_h0_least c_h0_window c_h0_pulses c_h0_lengths c_h0_fractions c_h0_pulseTimes c_h0_pulseEnergies c_h0_sound c_h0_seen c_h1_count c_h1_front c_h1_least c_h1_window c_h1_pulses c_h1_lengths c_h1_fractions c_h1_pulseTimes c_h1_pulseEnergies c_h1_sound c_h1_seen c_h2_count c_h2_front c_h2_least c_h2_window c_h2_pulses c_h2_lengths c_h2_fractions c_h2_pulseTimes c_h2_pulseEnergies c_h2_sound c_h2_seen c_s_length c_s_command c_s_position c_s_fault c_s_bytes c_s_numbers c_w_near c_w_far c_w_echoes c_w_totals c_p_result c_p_endTime c_q_count c_q_front c_q_least c_q_window c_q_pulses c_q_lengths c_q_fractions c_q_pulseTimes c_q_pulseEnergies c_t_near c_t_far c_t_echoes c_t_totals) (some (.ref (E 1 r))) (wL E a T c_waveIsFresh c_peelingIsFresh c_n_count c_n_front c_n_least c_n_window c_n_pulses c_n_lengths c_n_fractions c_n_pulseTimes c_n_pulseEnergies c_n_sound c_n_seen c_hcount c_hp c_h0_count c_h0_front c_h0_least c_h0_window c_h0_pulses c_h0_lengths c_h0_fractions c_h0_pulseTimes c_h0_pulseEnergies c_h0_sound c_h0_seen c_h1_count c_h1_front c_h1_least c_h1_window c_h1_pulses c_h1_lengths c_h1_fractions c_h1_pulseTimes c_h1_pulseEnergies c_h1_sound c_h1_seen c_h2_count c_h2_front c_h2_least c_h2_window c_h2_pulses c_h2_lengths c_h2_fractions c_h2_pulseTimes c_h2_pulseEnergies c_h2_sound c_h2_seen c_s_length c_s_command c_s_position c_s_fault c_s_bytes c_s_numbers c_w_near c_w_far c_w_echoes c_w_totals c_p_result c_p_endTime c_q_count c_q_front c_q_least c_q_window c_q_pulses c_q_lengths c_q_fractions c_q_pulseTimes c_q_pulseEnergies c_t_near c_t_far c_t_echoes c_t_totals) :=
  MetM.of [(0, .ref (a 2)), (1, .int x1), (2, .int x2)] (by decide) (Nat.le_of_ble_eq_true rfl) rfl (fun X C hret => Cb_B_verdictOnPulse_n C hret hf)
def Cl_A_fill_rr43_6 (x0 : Int32) (x1 : Int64) (x4 : Int32) : Nat → (Nat → Nat → Int64) → Int32 → Option (Nat → Nat → Int64)
  | 0, _, _ => none
  | n + 1, c_w_near, x3 =>
    if x4 ≤ x3 then
      some c_w_near
    else
      chk (inb x3 201) <| nm (va_up c_w_near x0.toNatClampNeg (vp_updL (c_w_near x0.toNatClampNeg) x3.toNatClampNeg x1)) fun w_near_15 =>
      nm (x3 + (1 : Int32)) fun x3_16 =>
      Cl_A_fill_rr43_6 x0 x1 x4 n w_near_15 x3_16
set_option maxRecDepth 100000 in
set_option maxHeartbeats 4000000 in
theorem Ck_A_fill_rr43_6 (C : Cx X (SFG E) T cJ7_fill_d0a16 RJ7 none 5 0 0) {x0 : Int32} {x1 : Int64} {x4 : Int32} (hj0 : inb x0 9) {o_w_near : Nat → Nat → Int64} (hk : V X 0 0 (wL E a T c_waveIsFresh c_peelingIsFresh c_n_count c_n_front c_n_least c_n_window c_n_pulses c_n_lengths c_n_fractions c_n_pulseTimes c_n_pulseEnergies c_n_sound c_n_seen c_hcount c_hp c_h0_count c_h0_front c_h0_least c_h0_window c_h0_pulses c_h0_lengths c_h0_fractions c_h0_pulseTimes c_h0_pulseEnergies c_h0_sound c_h0_seen c_h1_count c_h1_front c_h1_least c_h1_window c_h1_pulses c_h1_lengths c_h1_fractions c_h1_pulseTimes c_h1_pulseEnergies c_h1_sound c_h1_seen c_h2_count c_h2_front c_h2_least c_h2_window c_h2_pulses c_h2_lengths c_h2_fractions c_h2_pulseTimes c_h2_pulseEnergies c_h2_sound c_h2_seen c_s_length c_s_command c_s_position c_s_fault c_s_bytes c_s_numbers o_w_near c_w_far c_w_echoes c_w_totals c_p_result c_p_endTime c_q_count c_q_front c_q_least c_q_window c_q_pulses c_q_lengths c_q_fractions c_q_pulseTimes c_q_pulseEnergies c_t_near c_t_far c_t_echoes c_t_totals) [] 22 []) : ∀ (n : Nat) (c_w_near : Nat → Nat → Int64) (x3 : Int32), Cl_A_fill_rr43_6 x0 x1 x4 n c_w_near x3 = some o_w_near → V X 0 0 (wL E a T c_waveIsFresh c_peelingIsFresh c_n_count c_n_front c_n_least c_n_window c_n_pulses c_n_lengths c_n_fractions c_n_pulseTimes c_n_pulseEnergies c_n_sound c_n_seen c_hcount c_hp c_h0_count c_h0_front c_h0_least c_h0_window c_h0_pulses c_h0_lengths c_h0_fractions c_h0_pulseTimes c_h0_pulseEnergies c_h0_sound c_h0_seen c_h1_count c_h1_front c_h1_least c_h1_window c_h1_pulses c_h1_lengths c_h1_fractions c_h1_pulseTimes c_h1_pulseEnergies c_h1_sound c_h1_seen c_h2_count c_h2_front c_h2_least c_h2_window c_h2_pulses c_h2_lengths c_h2_fractions c_h2_pulseTimes c_h2_pulseEnergies c_h2_sound c_h2_seen c_s_length c_s_command c_s_position c_s_fault c_s_bytes c_s_numbers c_w_near c_w_far c_w_echoes c_w_totals c_p_result c_p_endTime c_q_count c_q_front c_q_least c_q_window c_q_pulses c_q_lengths c_q_fractions c_q_pulseTimes c_q_pulseEnergies c_t_near c_t_far c_t_echoes c_t_totals) [(0, .ref (a (43 + x0.toNatClampNeg))), (1, .long x1), (3, .int x3), (4, .int x4)] 6 [] := by
  intro n
  induction n with
  | zero =>
    intro _ _ hf
    cases hf
  | succ n hrec =>
    intro c_w_near x3 hf
    rw [Cl_A_fill_rr43_6] at hf
    refine v_iload_n 2 C dJ7_fill_d0a16_6 rfl rfl ?_
    refine v_iload 3 C dJ7_fill_d0a16_7 rfl ?_
    refine v_icmp_ge 22 C dJ7_fill_d0a16_9 (by decide) hf (fun c hf => ?_) (fun c hf => ?_)
    · refine v_lv [] [] rfl ?_
      cases hf
      exact hk
    · refine v_aload_n 0 C dJ7_fill_d0a16_12 rfl rfl ?_
      refine v_iload_n 2 C dJ7_fill_d0a16_13 rfl rfl ?_
      refine v_lload_n 1 C dJ7_fill_d0a16_14 rfl rfl ?_
      refine Crs_43 hj0 C dJ7_fill_d0a16_15 hf (fun w_near_15 hf => ?_)
      refine v_iinc (fun x3_16 => [(0, .ref (a (43 + x0.toNatClampNeg))), (1, .long x1), (3, .int x3_16), (4, .int x4)]) [1, 2, 0, 3] C dJ7_fill_d0a16_16 (j := 2) rfl (dv := 1) (by decide) (by decide) (fun _ => rfl) hf (fun x3_16 hf => ?_)
      refine v_goto 6 C dJ7_fill_d0a16_19 (by decide) ?_
      exact hrec _ _ hf
def Cf_A_fill_rr43 (c_w_near : Nat → Nat → Int64) (x0 : Int32) (x1 : Int64) : Option (Nat → Nat → Int64) :=
  bd (Cl_A_fill_rr43_6 x0 x1 (201 : Int32) FUEL c_w_near (0 : Int32)) fun o_w_near_6 =>
  some o_w_near_6
set_option maxRecDepth 100000 in
set_option maxHeartbeats 4000000 in
theorem Cb_A_fill_rr43 (C : Cx X (SFG E) T cJ7_fill_d0a16 RJ7 none 5 0 0) {x0 : Int32} {x1 : Int64} (hj0 : inb x0 9) {o_w_near : Nat → Nat → Int64} (hret : RetOK X 0 0 none (wL E a T c_waveIsFresh c_peelingIsFresh c_n_count c_n_front c_n_least c_n_window c_n_pulses c_n_lengths c_n_fractions c_n_pulseTimes c_n_pulseEnergies c_n_sound c_n_seen c_hcount c_hp c_h0_count c_h0_front c_h0_least c_h0_window c_h0_pulses c_h0_lengths c_h0_fractions c_h0_pulseTimes c_h0_pulseEnergies c_h0_sound c_h0_seen c_h1_count c_h1_front c_h1_least c_h1_window c_h1_pulses c_h1_lengths c_h1_fractions c_h1_pulseTimes c_h1_pulseEnergies c_h1_sound c_h1_seen c_h2_count c_h2_front c_h2_least c_h2_window c_h2_pulses c_h2_lengths c_h2_fractions c_h2_pulseTimes c_h2_pulseEnergies c_h2_sound c_h2_seen c_s_length c_s_command c_s_position c_s_fault c_s_bytes c_s_numbers o_w_near c_w_far c_w_echoes c_w_totals c_p_result c_p_endTime c_q_count c_q_front c_q_least c_q_window c_q_pulses c_q_lengths c_q_fractions c_q_pulseTimes c_q_pulseEnergies c_t_near c_t_far c_t_echoes c_t_totals)) (hf : Cf_A_fill_rr43 c_w_near x0 x1 = some o_w_near) : V X 0 0 (wL E a T c_waveIsFresh c_peelingIsFresh c_n_count c_n_front c_n_least c_n_window c_n_pulses c_n_lengths c_n_fractions c_n_pulseTimes c_n_pulseEnergies c_n_sound c_n_seen c_hcount c_hp c_h0_count c_h0_front c_h0_least c_h0_window c_h0_pulses c_h0_lengths c_h0_fractions c_h0_pulseTimes c_h0_pulseEnergies c_h0_sound c_h0_seen c_h1_count c_h1_front c_h1_least c_h1_window c_h1_pulses c_h1_lengths c_h1_fractions c_h1_pulseTimes c_h1_pulseEnergies c_h1_sound c_h1_seen c_h2_count c_h2_front c_h2_least c_h2_window c_h2_pulses c_h2_lengths c_h2_fractions c_h2_pulseTimes c_h2_pulseEnergies c_h2_sound c_h2_seen c_s_length c_s_command c_s_position c_s_fault c_s_bytes c_s_numbers c_w_near c_w_far c_w_echoes c_w_totals c_p_result c_p_endTime c_q_count c_q_front c_q_least c_q_window c_q_pulses c_q_lengths c_q_fractions c_q_pulseTimes c_q_pulseEnergies c_t_near c_t_far c_t_echoes c_t_totals) [(0, .ref (a (43 + x0.toNatClampNeg))), (1, .long x1)] 0 [] := by
  unfold Cf_A_fill_rr43 at hf
  refine v_iconst (v := 0) C dJ7_fill_d0a16_0 (by decide) ?_
  refine v_istore_n [(0, .ref (a (43 + x0.toNatClampNeg))), (1, .long x1), (3, .int (0 : Int32))] [1, 2, 0] C dJ7_fill_d0a16_1 rfl (by decide) rfl ?_
  refine v_aload_n 0 C dJ7_fill_d0a16_2 rfl rfl ?_
  refine Crn_43 hj0 C dJ7_fill_d0a16_3 ?_
  refine v_istore [(0, .ref (a (43 + x0.toNatClampNeg))), (1, .long x1), (3, .int (0 : Int32)), (4, .int (201 : Int32))] [1, 2, 3, 0] C dJ7_fill_d0a16_4 (by decide) rfl ?_
  obtain ⟨o_w_near_6, hc, hf⟩ := bd_some hf
  refine Ck_A_fill_rr43_6 C hj0 ?_ _ _ _ hc
  cases hf
  exact v_vret C hret dJ7_fill_d0a16_22
set_option maxRecDepth 100000 in
set_option maxHeartbeats 4000000 in
theorem Cm_A_fill_rr43 {D : va_G} {x0 : Int32} {x1 : Int64} (hj0 : inb x0 9) {o_w_near : Nat → Nat → Int64} (hf : Cf_A_fill_rr43 c_w_near x0 x1 = some o_w_near) : MetM (SFG E) yJ7_fill_d0a16 cJ7_fill_d0a16 5 none { frames := 0, cells := 0, slots := 0, locals := 0 } D T [.ref (a (43 + x0.toNatClampNeg)), .long x1] (wL E a T c_waveIsFresh c_peelingIsFresh c_n_count c_n_front c_n_least c_n_window c_n_pulses c_n_lengths c_n_fractions c_n_pulseTimes c_n_pulseEnergies c_n_sound c_n_seen c_hcount c_hp c_h0_count c_h0_front c_h0_least c_h0_window c_h0_pulses c_h0_lengths c_h0_fractions c_h0_pulseTimes c_h0_pulseEnergies c_h0_sound c_h0_seen c_h1_count c_h1_front c_h1_least c_h1_window c_h1_pulses c_h1_lengths c_h1_fractions c_h1_pulseTimes c_h1_pulseEnergies c_h1_sound c_h1_seen c_h2_count c_h2_front c_h2_least c_h2_window c_h2_pulses c_h2_lengths c_h2_fractions c_h2_pulseTimes c_h2_pulseEnergies c_h2_sound c_h2_seen c_s_length c_s_command c_s_position c_s_fault c_s_bytes c_s_numbers c_w_near c_w_far c_w_echoes c_w_totals c_p_result c_p_endTime c_q_count c_q_front c_q_least c_q_window c_q_pulses c_q_lengths c_q_fractions c_q_pulseTimes c_q_pulseEnergies c_t_near c_t_far c_t_echoes c_t_totals) none (wL E a T c_waveIsFresh c_peelingIsFresh c_n_count c_n_front c_n_least c_n_window c_n_pulses c_n_lengths c_n_fractions c_n_pulseTimes c_n_pulseEnergies c_n_sound c_n_seen c_hcount c_hp c_h0_count c_h0_front c_h0_least c_h0_window c_h0_pulses c_h0_lengths c_h0_fractions c_h0_pulseTimes c_h0_pulseEnergies c_h0_sound c_h0_seen c_h1_count c_h1_front c_h1_least c_h1_window c_h1_pulses c_h1_lengths c_h1_fractions c_h1_pulseTimes c_h1_pulseEnergies c_h1_sound c_h1_seen c_h2_count c_h2_front c_h2_least c_h2_window c_h2_pulses c_h2_lengths c_h2_fractions c_h2_pulseTimes c_h2_pulseEnergies c_h2_sound c_h2_seen c_s_length c_s_command c_s_position c_s_fault c_s_bytes c_s_numbers o_w_near c_w_far c_w_echoes c_w_totals c_p_result c_p_endTime c_q_count c_q_front c_q_least c_q_window c_q_pulses c_q_lengths c_q_fractions c_q_pulseTimes c_q_pulseEnergies c_t_near c_t_far c_t_echoes c_t_totals) :=
  MetM.of [(0, .ref (a (43 + x0.toNatClampNeg))), (1, .long x1)] (by decide) (Nat.le_of_ble_eq_true rfl) rfl (fun X C hret => Cb_A_fill_rr43 C hj0 hret hf)
def Cl_A_fill_rr52_6 (x0 : Int32) (x1 : Int64) (x4 : Int32) : Nat → (Nat → Nat → Int64) → Int32 → Option (Nat → Nat → Int64)
  | 0, _, _ => none
  | n + 1, c_w_far, x3 =>
    if x4 ≤ x3 then
      some c_w_far
    else
      chk (inb x3 201) <| nm (va_up c_w_far x0.toNatClampNeg (vp_updL (c_w_far x0.toNatClampNeg) x3.toNatClampNeg x1)) fun w_far_15 =>
      nm (x3 + (1 : Int32)) fun x3_16 =>
      Cl_A_fill_rr52_6 x0 x1 x4 n w_far_15 x3_16
set_option maxRecDepth 100000 in
set_option maxHeartbeats 4000000 in
theorem Ck_A_fill_rr52_6 (C : Cx X (SFG E) T cJ7_fill_d0a16 RJ7 none 5 0 0) {x0 : Int32} {x1 : Int64} {x4 : Int32} (hj0 : inb x0 9) {o_w_far : Nat → Nat → Int64} (hk : V X 0 0 (wL E a T c_waveIsFresh c_peelingIsFresh c_n_count c_n_front c_n_least c_n_window c_n_pulses c_n_lengths c_n_fractions c_n_pulseTimes c_n_pulseEnergies c_n_sound c_n_seen c_hcount c_hp c_h0_count c_h0_front c_h0_least c_h0_window c_h0_pulses c_h0_lengths c_h0_fractions c_h0_pulseTimes c_h0_pulseEnergies c_h0_sound c_h0_seen c_h1_count c_h1_front c_h1_least c_h1_window c_h1_pulses c_h1_lengths c_h1_fractions c_h1_pulseTimes c_h1_pulseEnergies c_h1_sound c_h1_seen c_h2_count c_h2_front c_h2_least c_h2_window c_h2_pulses c_h2_lengths c_h2_fractions c_h2_pulseTimes c_h2_pulseEnergies c_h2_sound c_h2_seen c_s_length c_s_command c_s_position c_s_fault c_s_bytes c_s_numbers c_w_near o_w_far c_w_echoes c_w_totals c_p_result c_p_endTime c_q_count c_q_front c_q_least c_q_window c_q_pulses c_q_lengths c_q_fractions c_q_pulseTimes c_q_pulseEnergies c_t_near c_t_far c_t_echoes c_t_totals) [] 22 []) : ∀ (n : Nat) (c_w_far : Nat → Nat → Int64) (x3 : Int32), Cl_A_fill_rr52_6 x0 x1 x4 n c_w_far x3 = some o_w_far → V X 0 0 (wL E a T c_waveIsFresh c_peelingIsFresh c_n_count c_n_front c_n_least c_n_window c_n_pulses c_n_lengths c_n_fractions c_n_pulseTimes c_n_pulseEnergies c_n_sound c_n_seen c_hcount c_hp c_h0_count c_h0_front c_h0_least c_h0_window c_h0_pulses c_h0_lengths c_h0_fractions c_h0_pulseTimes c_h0_pulseEnergies c_h0_sound c_h0_seen c_h1_count c_h1_front c_h1_least c_h1_window c_h1_pulses c_h1_lengths c_h1_fractions c_h1_pulseTimes c_h1_pulseEnergies c_h1_sound c_h1_seen c_h2_count c_h2_front c_h2_least c_h2_window c_h2_pulses c_h2_lengths c_h2_fractions c_h2_pulseTimes c_h2_pulseEnergies c_h2_sound c_h2_seen c_s_length c_s_command c_s_position c_s_fault c_s_bytes c_s_numbers c_w_near c_w_far c_w_echoes c_w_totals c_p_result c_p_endTime c_q_count c_q_front c_q_least c_q_window c_q_pulses c_q_lengths c_q_fractions c_q_pulseTimes c_q_pulseEnergies c_t_near c_t_far c_t_echoes c_t_totals) [(0, .ref (a (52 + x0.toNatClampNeg))), (1, .long x1), (3, .int x3), (4, .int x4)] 6 [] := by
  intro n
  induction n with
  | zero =>
    intro _ _ hf
    cases hf
  | succ n hrec =>
    intro c_w_far x3 hf
    rw [Cl_A_fill_rr52_6] at hf
    refine v_iload_n 2 C dJ7_fill_d0a16_6 rfl rfl ?_
    refine v_iload 3 C dJ7_fill_d0a16_7 rfl ?_
    refine v_icmp_ge 22 C dJ7_fill_d0a16_9 (by decide) hf (fun c hf => ?_) (fun c hf => ?_)
    · refine v_lv [] [] rfl ?_
      cases hf
      exact hk
    · refine v_aload_n 0 C dJ7_fill_d0a16_12 rfl rfl ?_
      refine v_iload_n 2 C dJ7_fill_d0a16_13 rfl rfl ?_
      refine v_lload_n 1 C dJ7_fill_d0a16_14 rfl rfl ?_
      refine Crs_52 hj0 C dJ7_fill_d0a16_15 hf (fun w_far_15 hf => ?_)
      refine v_iinc (fun x3_16 => [(0, .ref (a (52 + x0.toNatClampNeg))), (1, .long x1), (3, .int x3_16), (4, .int x4)]) [1, 2, 0, 3] C dJ7_fill_d0a16_16 (j := 2) rfl (dv := 1) (by decide) (by decide) (fun _ => rfl) hf (fun x3_16 hf => ?_)
      refine v_goto 6 C dJ7_fill_d0a16_19 (by decide) ?_
      exact hrec _ _ hf
def Cf_A_fill_rr52 (c_w_far : Nat → Nat → Int64) (x0 : Int32) (x1 : Int64) : Option (Nat → Nat → Int64) :=
  bd (Cl_A_fill_rr52_6 x0 x1 (201 : Int32) FUEL c_w_far (0 : Int32)) fun o_w_far_6 =>
  some o_w_far_6
set_option maxRecDepth 100000 in
set_option maxHeartbeats 4000000 in
theorem Cb_A_fill_rr52 (C : Cx X (SFG E) T cJ7_fill_d0a16 RJ7 none 5 0 0) {x0 : Int32} {x1 : Int64} (hj0 : inb x0 9) {o_w_far : Nat → Nat → Int64} (hret : RetOK X 0 0 none (wL E a T c_waveIsFresh c_peelingIsFresh c_n_count c_n_front c_n_least c_n_window c_n_pulses c_n_lengths c_n_fractions c_n_pulseTimes c_n_pulseEnergies c_n_sound c_n_seen c_hcount c_hp c_h0_count c_h0_front c_h0_least c_h0_window c_h0_pulses c_h0_lengths c_h0_fractions c_h0_pulseTimes c_h0_pulseEnergies c_h0_sound c_h0_seen c_h1_count c_h1_front c_h1_least c_h1_window c_h1_pulses c_h1_lengths c_h1_fractions c_h1_pulseTimes c_h1_pulseEnergies c_h1_sound c_h1_seen c_h2_count c_h2_front c_h2_least c_h2_window c_h2_pulses c_h2_lengths c_h2_fractions c_h2_pulseTimes c_h2_pulseEnergies c_h2_sound c_h2_seen c_s_length c_s_command c_s_position c_s_fault c_s_bytes c_s_numbers c_w_near o_w_far c_w_echoes c_w_totals c_p_result c_p_endTime c_q_count c_q_front c_q_least c_q_window c_q_pulses c_q_lengths c_q_fractions c_q_pulseTimes c_q_pulseEnergies c_t_near c_t_far c_t_echoes c_t_totals)) (hf : Cf_A_fill_rr52 c_w_far x0 x1 = some o_w_far) : V X 0 0 (wL E a T c_waveIsFresh c_peelingIsFresh c_n_count c_n_front c_n_least c_n_window c_n_pulses c_n_lengths c_n_fractions c_n_pulseTimes c_n_pulseEnergies c_n_sound c_n_seen c_hcount c_hp c_h0_count c_h0_front c_h0_least c_h0_window c_h0_pulses c_h0_lengths c_h0_fractions c_h0_pulseTimes c_h0_pulseEnergies c_h0_sound c_h0_seen c_h1_count c_h1_front c_h1_least c_h1_window c_h1_pulses c_h1_lengths c_h1_fractions c_h1_pulseTimes c_h1_pulseEnergies c_h1_sound c_h1_seen c_h2_count c_h2_front c_h2_least c_h2_window c_h2_pulses c_h2_lengths c_h2_fractions c_h2_pulseTimes c_h2_pulseEnergies c_h2_sound c_h2_seen c_s_length c_s_command c_s_position c_s_fault c_s_bytes c_s_numbers c_w_near c_w_far c_w_echoes c_w_totals c_p_result c_p_endTime c_q_count c_q_front c_q_least c_q_window c_q_pulses c_q_lengths c_q_fractions c_q_pulseTimes c_q_pulseEnergies c_t_near c_t_far c_t_echoes c_t_totals) [(0, .ref (a (52 + x0.toNatClampNeg))), (1, .long x1)] 0 [] := by
  unfold Cf_A_fill_rr52 at hf
  refine v_iconst (v := 0) C dJ7_fill_d0a16_0 (by decide) ?_
  refine v_istore_n [(0, .ref (a (52 + x0.toNatClampNeg))), (1, .long x1), (3, .int (0 : Int32))] [1, 2, 0] C dJ7_fill_d0a16_1 rfl (by decide) rfl ?_
  refine v_aload_n 0 C dJ7_fill_d0a16_2 rfl rfl ?_
  refine Crn_52 hj0 C dJ7_fill_d0a16_3 ?_
  refine v_istore [(0, .ref (a (52 + x0.toNatClampNeg))), (1, .long x1), (3, .int (0 : Int32)), (4, .int (201 : Int32))] [1, 2, 3, 0] C dJ7_fill_d0a16_4 (by decide) rfl ?_
  obtain ⟨o_w_far_6, hc, hf⟩ := bd_some hf
  refine Ck_A_fill_rr52_6 C hj0 ?_ _ _ _ hc
  cases hf
  exact v_vret C hret dJ7_fill_d0a16_22
set_option maxRecDepth 100000 in
set_option maxHeartbeats 4000000 in
theorem Cm_A_fill_rr52 {D : va_G} {x0 : Int32} {x1 : Int64} (hj0 : inb x0 9) {o_w_far : Nat → Nat → Int64} (hf : Cf_A_fill_rr52 c_w_far x0 x1 = some o_w_far) : MetM (SFG E) yJ7_fill_d0a16 cJ7_fill_d0a16 5 none { frames := 0, cells := 0, slots := 0, locals := 0 } D T [.ref (a (52 + x0.toNatClampNeg)), .long x1] (wL E a T c_waveIsFresh c_peelingIsFresh c_n_count c_n_front c_n_least c_n_window c_n_pulses c_n_lengths c_n_fractions c_n_pulseTimes c_n_pulseEnergies c_n_sound c_n_seen c_hcount c_hp c_h0_count c_h0_front c_h0_least c_h0_window c_h0_pulses c_h0_lengths c_h0_fractions c_h0_pulseTimes c_h0_pulseEnergies c_h0_sound c_h0_seen c_h1_count c_h1_front c_h1_least c_h1_window c_h1_pulses c_h1_lengths c_h1_fractions c_h1_pulseTimes c_h1_pulseEnergies c_h1_sound c_h1_seen c_h2_count c_h2_front c_h2_least c_h2_window c_h2_pulses c_h2_lengths c_h2_fractions c_h2_pulseTimes c_h2_pulseEnergies c_h2_sound c_h2_seen c_s_length c_s_command c_s_position c_s_fault c_s_bytes c_s_numbers c_w_near c_w_far c_w_echoes c_w_totals c_p_result c_p_endTime c_q_count c_q_front c_q_least c_q_window c_q_pulses c_q_lengths c_q_fractions c_q_pulseTimes c_q_pulseEnergies c_t_near c_t_far c_t_echoes c_t_totals) none (wL E a T c_waveIsFresh c_peelingIsFresh c_n_count c_n_front c_n_least c_n_window c_n_pulses c_n_lengths c_n_fractions c_n_pulseTimes c_n_pulseEnergies c_n_sound c_n_seen c_hcount c_hp c_h0_count c_h0_front c_h0_least c_h0_window c_h0_pulses c_h0_lengths c_h0_fractions c_h0_pulseTimes c_h0_pulseEnergies c_h0_sound c_h0_seen c_h1_count c_h1_front c_h1_least c_h1_window c_h1_pulses c_h1_lengths c_h1_fractions c_h1_pulseTimes c_h1_pulseEnergies c_h1_sound c_h1_seen c_h2_count c_h2_front c_h2_least c_h2_window c_h2_pulses c_h2_lengths c_h2_fractions c_h2_pulseTimes c_h2_pulseEnergies c_h2_sound c_h2_seen c_s_length c_s_command c_s_position c_s_fault c_s_bytes c_s_numbers c_w_near o_w_far c_w_echoes c_w_totals c_p_result c_p_endTime c_q_count c_q_front c_q_least c_q_window c_q_pulses c_q_lengths c_q_fractions c_q_pulseTimes c_q_pulseEnergies c_t_near c_t_far c_t_echoes c_t_totals) :=
  MetM.of [(0, .ref (a (52 + x0.toNatClampNeg))), (1, .long x1)] (by decide) (Nat.le_of_ble_eq_true rfl) rfl (fun X C hret => Cb_A_fill_rr52 C hj0 hret hf)
def Cl_A_fill_w_echoes_6 (x1 : Int64) (x4 : Int32) : Nat → (Nat → Int64) → Int32 → Option (Nat → Int64)
  | 0, _, _ => none
  | n + 1, c_w_echoes, x3 =>
    if x4 ≤ x3 then
      some c_w_echoes
    else
      chk (inb x3 201) <| nm (vp_updL c_w_echoes x3.toNatClampNeg x1) fun w_echoes_15 =>
      nm (x3 + (1 : Int32)) fun x3_16 =>
      Cl_A_fill_w_echoes_6 x1 x4 n w_echoes_15 x3_16
set_option maxRecDepth 100000 in
set_option maxHeartbeats 4000000 in
theorem Ck_A_fill_w_echoes_6 (C : Cx X (SFG E) T cJ7_fill_d0a16 RJ7 none 5 0 0) {x1 : Int64} {x4 : Int32} {o_w_echoes : Nat → Int64} (hk : V X 0 0 (wL E a T c_waveIsFresh c_peelingIsFresh c_n_count c_n_front c_n_least c_n_window c_n_pulses c_n_lengths c_n_fractions c_n_pulseTimes c_n_pulseEnergies c_n_sound c_n_seen c_hcount c_hp c_h0_count c_h0_front c_h0_least c_h0_window c_h0_pulses c_h0_lengths c_h0_fractions c_h0_pulseTimes c_h0_pulseEnergies c_h0_sound c_h0_seen c_h1_count c_h1_front c_h1_least c_h1_window c_h1_pulses c_h1_lengths c_h1_fractions c_h1_pulseTimes c_h1_pulseEnergies c_h1_sound c_h1_seen c_h2_count c_h2_front c_h2_least c_h2_window c_h2_pulses c_h2_lengths c_h2_fractions c_h2_pulseTimes c_h2_pulseEnergies c_h2_sound c_h2_seen c_s_length c_s_command c_s_position c_s_fault c_s_bytes c_s_numbers c_w_near c_w_far o_w_echoes c_w_totals c_p_result c_p_endTime c_q_count c_q_front c_q_least c_q_window c_q_pulses c_q_lengths c_q_fractions c_q_pulseTimes c_q_pulseEnergies c_t_near c_t_far c_t_echoes c_t_totals) [] 22 []) : ∀ (n : Nat) (c_w_echoes : Nat → Int64) (x3 : Int32), Cl_A_fill_w_echoes_6 x1 x4 n c_w_echoes x3 = some o_w_echoes → V X 0 0 (wL E a T c_waveIsFresh c_peelingIsFresh c_n_count c_n_front c_n_least c_n_window c_n_pulses c_n_lengths c_n_fractions c_n_pulseTimes c_n_pulseEnergies c_n_sound c_n_seen c_hcount c_hp c_h0_count c_h0_front c_h0_least c_h0_window c_h0_pulses c_h0_lengths c_h0_fractions c_h0_pulseTimes c_h0_pulseEnergies c_h0_sound c_h0_seen c_h1_count c_h1_front c_h1_least c_h1_window c_h1_pulses c_h1_lengths c_h1_fractions c_h1_pulseTimes c_h1_pulseEnergies c_h1_sound c_h1_seen c_h2_count c_h2_front c_h2_least c_h2_window c_h2_pulses c_h2_lengths c_h2_fractions c_h2_pulseTimes c_h2_pulseEnergies c_h2_sound c_h2_seen c_s_length c_s_command c_s_position c_s_fault c_s_bytes c_s_numbers c_w_near c_w_far c_w_echoes c_w_totals c_p_result c_p_endTime c_q_count c_q_front c_q_least c_q_window c_q_pulses c_q_lengths c_q_fractions c_q_pulseTimes c_q_pulseEnergies c_t_near c_t_far c_t_echoes c_t_totals) [(0, .ref (a 41)), (1, .long x1), (3, .int x3), (4, .int x4)] 6 [] := by
  intro n
  induction n with
  | zero =>
    intro _ _ hf
    cases hf
  | succ n hrec =>
    intro c_w_echoes x3 hf
    rw [Cl_A_fill_w_echoes_6] at hf
    refine v_iload_n 2 C dJ7_fill_d0a16_6 rfl rfl ?_
    refine v_iload 3 C dJ7_fill_d0a16_7 rfl ?_
    refine v_icmp_ge 22 C dJ7_fill_d0a16_9 (by decide) hf (fun c hf => ?_) (fun c hf => ?_)
    · refine v_lv [] [] rfl ?_
      cases hf
      exact hk
    · refine v_aload_n 0 C dJ7_fill_d0a16_12 rfl rfl ?_
      refine v_iload_n 2 C dJ7_fill_d0a16_13 rfl rfl ?_
      refine v_lload_n 1 C dJ7_fill_d0a16_14 rfl rfl ?_
      refine Cas_41 C dJ7_fill_d0a16_15 hf (fun w_echoes_15 hf => ?_)
      refine v_iinc (fun x3_16 => [(0, .ref (a 41)), (1, .long x1), (3, .int x3_16), (4, .int x4)]) [1, 2, 0, 3] C dJ7_fill_d0a16_16 (j := 2) rfl (dv := 1) (by decide) (by decide) (fun _ => rfl) hf (fun x3_16 hf => ?_)
      refine v_goto 6 C dJ7_fill_d0a16_19 (by decide) ?_
      exact hrec _ _ hf
def Cf_A_fill_w_echoes (c_w_echoes : Nat → Int64) (x1 : Int64) : Option (Nat → Int64) :=
  bd (Cl_A_fill_w_echoes_6 x1 (201 : Int32) FUEL c_w_echoes (0 : Int32)) fun o_w_echoes_6 =>
  some o_w_echoes_6
set_option maxRecDepth 100000 in
set_option maxHeartbeats 4000000 in
theorem Cb_A_fill_w_echoes (C : Cx X (SFG E) T cJ7_fill_d0a16 RJ7 none 5 0 0) {x1 : Int64} {o_w_echoes : Nat → Int64} (hret : RetOK X 0 0 none (wL E a T c_waveIsFresh c_peelingIsFresh c_n_count c_n_front c_n_least c_n_window c_n_pulses c_n_lengths c_n_fractions c_n_pulseTimes c_n_pulseEnergies c_n_sound c_n_seen c_hcount c_hp c_h0_count c_h0_front c_h0_least c_h0_window c_h0_pulses c_h0_lengths c_h0_fractions c_h0_pulseTimes c_h0_pulseEnergies c_h0_sound c_h0_seen c_h1_count c_h1_front c_h1_least c_h1_window c_h1_pulses c_h1_lengths c_h1_fractions c_h1_pulseTimes c_h1_pulseEnergies c_h1_sound c_h1_seen c_h2_count c_h2_front c_h2_least c_h2_window c_h2_pulses c_h2_lengths c_h2_fractions c_h2_pulseTimes c_h2_pulseEnergies c_h2_sound c_h2_seen c_s_length c_s_command c_s_position c_s_fault c_s_bytes c_s_numbers c_w_near c_w_far o_w_echoes c_w_totals c_p_result c_p_endTime c_q_count c_q_front c_q_least c_q_window c_q_pulses c_q_lengths c_q_fractions c_q_pulseTimes c_q_pulseEnergies c_t_near c_t_far c_t_echoes c_t_totals)) (hf : Cf_A_fill_w_echoes c_w_echoes x1 = some o_w_echoes) : V X 0 0 (wL E a T c_waveIsFresh c_peelingIsFresh c_n_count c_n_front c_n_least c_n_window c_n_pulses c_n_lengths c_n_fractions c_n_pulseTimes c_n_pulseEnergies c_n_sound c_n_seen c_hcount c_hp c_h0_count c_h0_front c_h0_least c_h0_window c_h0_pulses c_h0_lengths c_h0_fractions c_h0_pulseTimes c_h0_pulseEnergies c_h0_sound c_h0_seen c_h1_count c_h1_front c_h1_least c_h1_window c_h1_pulses c_h1_lengths c_h1_fractions c_h1_pulseTimes c_h1_pulseEnergies c_h1_sound c_h1_seen c_h2_count c_h2_front c_h2_least c_h2_window c_h2_pulses c_h2_lengths c_h2_fractions c_h2_pulseTimes c_h2_pulseEnergies c_h2_sound c_h2_seen c_s_length c_s_command c_s_position c_s_fault c_s_bytes c_s_numbers c_w_near c_w_far c_w_echoes c_w_totals c_p_result c_p_endTime c_q_count c_q_front c_q_least c_q_window c_q_pulses c_q_lengths c_q_fractions c_q_pulseTimes c_q_pulseEnergies c_t_near c_t_far c_t_echoes c_t_totals) [(0, .ref (a 41)), (1, .long x1)] 0 [] := by
  unfold Cf_A_fill_w_echoes at hf
  refine v_iconst (v := 0) C dJ7_fill_d0a16_0 (by decide) ?_
  refine v_istore_n [(0, .ref (a 41)), (1, .long x1), (3, .int (0 : Int32))] [1, 2, 0] C dJ7_fill_d0a16_1 rfl (by decide) rfl ?_
  refine v_aload_n 0 C dJ7_fill_d0a16_2 rfl rfl ?_
  refine Cln_41 C dJ7_fill_d0a16_3 ?_
  refine v_istore [(0, .ref (a 41)), (1, .long x1), (3, .int (0 : Int32)), (4, .int (201 : Int32))] [1, 2, 3, 0] C dJ7_fill_d0a16_4 (by decide) rfl ?_
  obtain ⟨o_w_echoes_6, hc, hf⟩ := bd_some hf
  refine Ck_A_fill_w_echoes_6 C ?_ _ _ _ hc
  cases hf
  exact v_vret C hret dJ7_fill_d0a16_22
set_option maxRecDepth 100000 in
set_option maxHeartbeats 4000000 in
theorem Cm_A_fill_w_echoes {D : va_G} {x1 : Int64} {o_w_echoes : Nat → Int64} (hf : Cf_A_fill_w_echoes c_w_echoes x1 = some o_w_echoes) : MetM (SFG E) yJ7_fill_d0a16 cJ7_fill_d0a16 5 none { frames := 0, cells := 0, slots := 0, locals := 0 } D T [.ref (a 41), .long x1] (wL E a T c_waveIsFresh c_peelingIsFresh c_n_count c_n_front c_n_least c_n_window c_n_pulses c_n_lengths c_n_fractions c_n_pulseTimes c_n_pulseEnergies c_n_sound c_n_seen c_hcount c_hp c_h0_count c_h0_front c_h0_least c_h0_window c_h0_pulses c_h0_lengths c_h0_fractions c_h0_pulseTimes c_h0_pulseEnergies c_h0_sound c_h0_seen c_h1_count c_h1_front c_h1_least c_h1_window c_h1_pulses c_h1_lengths c_h1_fractions c_h1_pulseTimes c_h1_pulseEnergies c_h1_sound c_h1_seen c_h2_count c_h2_front c_h2_least c_h2_window c_h2_pulses c_h2_lengths c_h2_fractions c_h2_pulseTimes c_h2_pulseEnergies c_h2_sound c_h2_seen c_s_length c_s_command c_s_position c_s_fault c_s_bytes c_s_numbers c_w_near c_w_far c_w_echoes c_w_totals c_p_result c_p_endTime c_q_count c_q_front c_q_least c_q_window c_q_pulses c_q_lengths c_q_fractions c_q_pulseTimes c_q_pulseEnergies c_t_near c_t_far c_t_echoes c_t_totals) none (wL E a T c_waveIsFresh c_peelingIsFresh c_n_count c_n_front c_n_least c_n_window c_n_pulses c_n_lengths c_n_fractions c_n_pulseTimes c_n_pulseEnergies c_n_sound c_n_seen c_hcount c_hp c_h0_count c_h0_front c_h0_least c_h0_window c_h0_pulses c_h0_lengths c_h0_fractions c_h0_pulseTimes c_h0_pulseEnergies c_h0_sound c_h0_seen c_h1_count c_h1_front c_h1_least c_h1_window c_h1_pulses c_h1_lengths c_h1_fractions c_h1_pulseTimes c_h1_pulseEnergies c_h1_sound c_h1_seen c_h2_count c_h2_front c_h2_least c_h2_window c_h2_pulses c_h2_lengths c_h2_fractions c_h2_pulseTimes c_h2_pulseEnergies c_h2_sound c_h2_seen c_s_length c_s_command c_s_position c_s_fault c_s_bytes c_s_numbers c_w_near c_w_far o_w_echoes c_w_totals c_p_result c_p_endTime c_q_count c_q_front c_q_least c_q_window c_q_pulses c_q_lengths c_q_fractions c_q_pulseTimes c_q_pulseEnergies c_t_near c_t_far c_t_echoes c_t_totals) :=
  MetM.of [(0, .ref (a 41)), (1, .long x1)] (by decide) (Nat.le_of_ble_eq_true rfl) rfl (fun X C hret => Cb_A_fill_w_echoes C hret hf)
def Cl_A_fill_w_totals_6 (x1 : Int64) (x4 : Int32) : Nat → (Nat → Int64) → Int32 → Option (Nat → Int64)
  | 0, _, _ => none
  | n + 1, c_w_totals, x3 =>
    if x4 ≤ x3 then
      some c_w_totals
    else
      chk (inb x3 9) <| nm (vp_updL c_w_totals x3.toNatClampNeg x1) fun w_totals_15 =>
      nm (x3 + (1 : Int32)) fun x3_16 =>
      Cl_A_fill_w_totals_6 x1 x4 n w_totals_15 x3_16
set_option maxRecDepth 100000 in
set_option maxHeartbeats 4000000 in
theorem Ck_A_fill_w_totals_6 (C : Cx X (SFG E) T cJ7_fill_d0a16 RJ7 none 5 0 0) {x1 : Int64} {x4 : Int32} {o_w_totals : Nat → Int64} (hk : V X 0 0 (wL E a T c_waveIsFresh c_peelingIsFresh c_n_count c_n_front c_n_least c_n_window c_n_pulses c_n_lengths c_n_fractions c_n_pulseTimes c_n_pulseEnergies c_n_sound c_n_seen c_hcount c_hp c_h0_count c_h0_front c_h0_least c_h0_window c_h0_pulses c_h0_lengths c_h0_fractions c_h0_pulseTimes c_h0_pulseEnergies c_h0_sound c_h0_seen c_h1_count c_h1_front c_h1_least c_h1_window c_h1_pulses c_h1_lengths c_h1_fractions c_h1_pulseTimes c_h1_pulseEnergies c_h1_sound c_h1_seen c_h2_count c_h2_front c_h2_least c_h2_window c_h2_pulses c_h2_lengths c_h2_fractions c_h2_pulseTimes c_h2_pulseEnergies c_h2_sound c_h2_seen c_s_length c_s_command c_s_position c_s_fault c_s_bytes c_s_numbers c_w_near c_w_far c_w_echoes o_w_totals c_p_result c_p_endTime c_q_count c_q_front c_q_least c_q_window c_q_pulses c_q_lengths c_q_fractions c_q_pulseTimes c_q_pulseEnergies c_t_near c_t_far c_t_echoes c_t_totals) [] 22 []) : ∀ (n : Nat) (c_w_totals : Nat → Int64) (x3 : Int32), Cl_A_fill_w_totals_6 x1 x4 n c_w_totals x3 = some o_w_totals → V X 0 0 (wL E a T c_waveIsFresh c_peelingIsFresh c_n_count c_n_front c_n_least c_n_window c_n_pulses c_n_lengths c_n_fractions c_n_pulseTimes c_n_pulseEnergies c_n_sound c_n_seen c_hcount c_hp c_h0_count c_h0_front c_h0_least c_h0_window c_h0_pulses c_h0_lengths c_h0_fractions c_h0_pulseTimes c_h0_pulseEnergies c_h0_sound c_h0_seen c_h1_count c_h1_front c_h1_least c_h1_window c_h1_pulses c_h1_lengths c_h1_fractions c_h1_pulseTimes c_h1_pulseEnergies c_h1_sound c_h1_seen c_h2_count c_h2_front c_h2_least c_h2_window c_h2_pulses c_h2_lengths c_h2_fractions c_h2_pulseTimes c_h2_pulseEnergies c_h2_sound c_h2_seen c_s_length c_s_command c_s_position c_s_fault c_s_bytes c_s_numbers c_w_near c_w_far c_w_echoes c_w_totals c_p_result c_p_endTime c_q_count c_q_front c_q_least c_q_window c_q_pulses c_q_lengths c_q_fractions c_q_pulseTimes c_q_pulseEnergies c_t_near c_t_far c_t_echoes c_t_totals) [(0, .ref (a 42)), (1, .long x1), (3, .int x3), (4, .int x4)] 6 [] := by
  intro n
  induction n with
  | zero =>
    intro _ _ hf
    cases hf
  | succ n hrec =>
    intro c_w_totals x3 hf
    rw [Cl_A_fill_w_totals_6] at hf
    refine v_iload_n 2 C dJ7_fill_d0a16_6 rfl rfl ?_
    refine v_iload 3 C dJ7_fill_d0a16_7 rfl ?_
    refine v_icmp_ge 22 C dJ7_fill_d0a16_9 (by decide) hf (fun c hf => ?_) (fun c hf => ?_)
    · refine v_lv [] [] rfl ?_
      cases hf
      exact hk
    · refine v_aload_n 0 C dJ7_fill_d0a16_12 rfl rfl ?_
      refine v_iload_n 2 C dJ7_fill_d0a16_13 rfl rfl ?_
      refine v_lload_n 1 C dJ7_fill_d0a16_14 rfl rfl ?_
      refine Cas_42 C dJ7_fill_d0a16_15 hf (fun w_totals_15 hf => ?_)
      refine v_iinc (fun x3_16 => [(0, .ref (a 42)), (1, .long x1), (3, .int x3_16), (4, .int x4)]) [1, 2, 0, 3] C dJ7_fill_d0a16_16 (j := 2) rfl (dv := 1) (by decide) (by decide) (fun _ => rfl) hf (fun x3_16 hf => ?_)
      refine v_goto 6 C dJ7_fill_d0a16_19 (by decide) ?_
      exact hrec _ _ hf
def Cf_A_fill_w_totals (c_w_totals : Nat → Int64) (x1 : Int64) : Option (Nat → Int64) :=
  bd (Cl_A_fill_w_totals_6 x1 (9 : Int32) FUEL c_w_totals (0 : Int32)) fun o_w_totals_6 =>
  some o_w_totals_6
set_option maxRecDepth 100000 in
set_option maxHeartbeats 4000000 in
theorem Cb_A_fill_w_totals (C : Cx X (SFG E) T cJ7_fill_d0a16 RJ7 none 5 0 0) {x1 : Int64} {o_w_totals : Nat → Int64} (hret : RetOK X 0 0 none (wL E a T c_waveIsFresh c_peelingIsFresh c_n_count c_n_front c_n_least c_n_window c_n_pulses c_n_lengths c_n_fractions c_n_pulseTimes c_n_pulseEnergies c_n_sound c_n_seen c_hcount c_hp c_h0_count c_h0_front c_h0_least c_h0_window c_h0_pulses c_h0_lengths c_h0_fractions c_h0_pulseTimes c_h0_pulseEnergies c_h0_sound c_h0_seen c_h1_count c_h1_front c_h1_least c_h1_window c_h1_pulses c_h1_lengths c_h1_fractions c_h1_pulseTimes c_h1_pulseEnergies c_h1_sound c_h1_seen c_h2_count c_h2_front c_h2_least c_h2_window c_h2_pulses c_h2_lengths c_h2_fractions c_h2_pulseTimes c_h2_pulseEnergies c_h2_sound c_h2_seen c_s_length c_s_command c_s_position c_s_fault c_s_bytes c_s_numbers c_w_near c_w_far c_w_echoes o_w_totals c_p_result c_p_endTime c_q_count c_q_front c_q_least c_q_window c_q_pulses c_q_lengths c_q_fractions c_q_pulseTimes c_q_pulseEnergies c_t_near c_t_far c_t_echoes c_t_totals)) (hf : Cf_A_fill_w_totals c_w_totals x1 = some o_w_totals) : V X 0 0 (wL E a T c_waveIsFresh c_peelingIsFresh c_n_count c_n_front c_n_least c_n_window c_n_pulses c_n_lengths c_n_fractions c_n_pulseTimes c_n_pulseEnergies c_n_sound c_n_seen c_hcount c_hp c_h0_count c_h0_front c_h0_least c_h0_window c_h0_pulses c_h0_lengths c_h0_fractions c_h0_pulseTimes c_h0_pulseEnergies c_h0_sound c_h0_seen c_h1_count c_h1_front c_h1_least c_h1_window c_h1_pulses c_h1_lengths c_h1_fractions c_h1_pulseTimes c_h1_pulseEnergies c_h1_sound c_h1_seen c_h2_count c_h2_front c_h2_least c_h2_window c_h2_pulses c_h2_lengths c_h2_fractions c_h2_pulseTimes c_h2_pulseEnergies c_h2_sound c_h2_seen c_s_length c_s_command c_s_position c_s_fault c_s_bytes c_s_numbers c_w_near c_w_far c_w_echoes c_w_totals c_p_result c_p_endTime c_q_count c_q_front c_q_least c_q_window c_q_pulses c_q_lengths c_q_fractions c_q_pulseTimes c_q_pulseEnergies c_t_near c_t_far c_t_echoes c_t_totals) [(0, .ref (a 42)), (1, .long x1)] 0 [] := by
  unfold Cf_A_fill_w_totals at hf
  refine v_iconst (v := 0) C dJ7_fill_d0a16_0 (by decide) ?_
  refine v_istore_n [(0, .ref (a 42)), (1, .long x1), (3, .int (0 : Int32))] [1, 2, 0] C dJ7_fill_d0a16_1 rfl (by decide) rfl ?_
  refine v_aload_n 0 C dJ7_fill_d0a16_2 rfl rfl ?_
  refine Cln_42 C dJ7_fill_d0a16_3 ?_
  refine v_istore [(0, .ref (a 42)), (1, .long x1), (3, .int (0 : Int32)), (4, .int (9 : Int32))] [1, 2, 3, 0] C dJ7_fill_d0a16_4 (by decide) rfl ?_
  obtain ⟨o_w_totals_6, hc, hf⟩ := bd_some hf
  refine Ck_A_fill_w_totals_6 C ?_ _ _ _ hc
  cases hf
  exact v_vret C hret dJ7_fill_d0a16_22
set_option maxRecDepth 100000 in
set_option maxHeartbeats 4000000 in
theorem Cm_A_fill_w_totals {D : va_G} {x1 : Int64} {o_w_totals : Nat → Int64} (hf : Cf_A_fill_w_totals c_w_totals x1 = some o_w_totals) : MetM (SFG E) yJ7_fill_d0a16 cJ7_fill_d0a16 5 none { frames := 0, cells := 0, slots := 0, locals := 0 } D T [.ref (a 42), .long x1] (wL E a T c_waveIsFresh c_peelingIsFresh c_n_count c_n_front c_n_least c_n_window c_n_pulses c_n_lengths c_n_fractions c_n_pulseTimes c_n_pulseEnergies c_n_sound c_n_seen c_hcount c_hp c_h0_count c_h0_front c_h0_least c_h0_window c_h0_pulses c_h0_lengths c_h0_fractions c_h0_pulseTimes c_h0_pulseEnergies c_h0_sound c_h0_seen c_h1_count c_h1_front c_h1_least c_h1_window c_h1_pulses c_h1_lengths c_h1_fractions c_h1_pulseTimes c_h1_pulseEnergies c_h1_sound c_h1_seen c_h2_count c_h2_front c_h2_least c_h2_window c_h2_pulses c_h2_lengths c_h2_fractions c_h2_pulseTimes c_h2_pulseEnergies c_h2_sound c_h2_seen c_s_length c_s_command c_s_position c_s_fault c_s_bytes c_s_numbers c_w_near c_w_far c_w_echoes c_w_totals c_p_result c_p_endTime c_q_count c_q_front c_q_least c_q_window c_q_pulses c_q_lengths c_q_fractions c_q_pulseTimes c_q_pulseEnergies c_t_near c_t_far c_t_echoes c_t_totals) none (wL E a T c_waveIsFresh c_peelingIsFresh c_n_count c_n_front c_n_least c_n_window c_n_pulses c_n_lengths c_n_fractions c_n_pulseTimes c_n_pulseEnergies c_n_sound c_n_seen c_hcount c_hp c_h0_count c_h0_front c_h0_least c_h0_window c_h0_pulses c_h0_lengths c_h0_fractions c_h0_pulseTimes c_h0_pulseEnergies c_h0_sound c_h0_seen c_h1_count c_h1_front c_h1_least c_h1_window c_h1_pulses c_h1_lengths c_h1_fractions c_h1_pulseTimes c_h1_pulseEnergies c_h1_sound c_h1_seen c_h2_count c_h2_front c_h2_least c_h2_window c_h2_pulses c_h2_lengths c_h2_fractions c_h2_pulseTimes c_h2_pulseEnergies c_h2_sound c_h2_seen c_s_length c_s_command c_s_position c_s_fault c_s_bytes c_s_numbers c_w_near c_w_far c_w_echoes o_w_totals c_p_result c_p_endTime c_q_count c_q_front c_q_least c_q_window c_q_pulses c_q_lengths c_q_fractions c_q_pulseTimes c_q_pulseEnergies c_t_near c_t_far c_t_echoes c_t_totals) :=
  MetM.of [(0, .ref (a 42)), (1, .long x1)] (by decide) (Nat.le_of_ble_eq_true rfl) rfl (fun X C hret => Cb_A_fill_w_totals C hret hf)
set_option maxRecDepth 100000 in
theorem Cc_A_fill_rr43 {x0 : Int32} {x1 : Int64} {cc : ByteArray} {own : String} {ret : Option FieldType} {nl fr lo pc ix : Nat} {lv : List (Nat × Value)} {rest : List Value} {β : Type} {K : (Nat → Nat → Int64) → Option β} {oo : β} (hl : Cond.methodLink own ix yJ7_fill_d0a16 ∈ wsG) (C : Cx X (SFG E) T cc own ret nl fr lo) (hj0 : inb x0 9) (hdg : decode cc pc = .ok (.invokestatic ix, 3)) (hroom : 0 + 1 ≤ fr ∧ 8 + (5 + 11) + 0 ≤ lo) (hst : (rest.map fun v => v.category).sum ≤ 8) (hf : bd (Cf_A_fill_rr43 c_w_near x0 x1) K = some oo) (kk : ∀ (o_w_near : Nat → Nat → Int64), K o_w_near = some oo → V X 0 0 (wL E a T c_waveIsFresh c_peelingIsFresh c_n_count c_n_front c_n_least c_n_window c_n_pulses c_n_lengths c_n_fractions c_n_pulseTimes c_n_pulseEnergies c_n_sound c_n_seen c_hcount c_hp c_h0_count c_h0_front c_h0_least c_h0_window c_h0_pulses c_h0_lengths c_h0_fractions c_h0_pulseTimes c_h0_pulseEnergies c_h0_sound c_h0_seen c_h1_count c_h1_front c_h1_least c_h1_window c_h1_pulses c_h1_lengths c_h1_fractions c_h1_pulseTimes c_h1_pulseEnergies c_h1_sound c_h1_seen c_h2_count c_h2_front c_h2_least c_h2_window c_h2_pulses c_h2_lengths c_h2_fractions c_h2_pulseTimes c_h2_pulseEnergies c_h2_sound c_h2_seen c_s_length c_s_command c_s_position c_s_fault c_s_bytes c_s_numbers o_w_near c_w_far c_w_echoes c_w_totals c_p_result c_p_endTime c_q_count c_q_front c_q_least c_q_window c_q_pulses c_q_lengths c_q_fractions c_q_pulseTimes c_q_pulseEnergies c_t_near c_t_far c_t_echoes c_t_totals) lv (pc + 3) rest) : V X 0 0 (wL E a T c_waveIsFresh c_peelingIsFresh c_n_count c_n_front c_n_least c_n_window c_n_pulses c_n_lengths c_n_fractions c_n_pulseTimes c_n_pulseEnergies c_n_sound c_n_seen c_hcount c_hp c_h0_count c_h0_front c_h0_least c_h0_window c_h0_pulses c_h0_lengths c_h0_fractions c_h0_pulseTimes c_h0_pulseEnergies c_h0_sound c_h0_seen c_h1_count c_h1_front c_h1_least c_h1_window c_h1_pulses c_h1_lengths c_h1_fractions c_h1_pulseTimes c_h1_pulseEnergies c_h1_sound c_h1_seen c_h2_count c_h2_front c_h2_least c_h2_window c_h2_pulses c_h2_lengths c_h2_fractions c_h2_pulseTimes c_h2_pulseEnergies c_h2_sound c_h2_seen c_s_length c_s_command c_s_position c_s_fault c_s_bytes c_s_numbers c_w_near c_w_far c_w_echoes c_w_totals c_p_result c_p_endTime c_q_count c_q_front c_q_least c_q_window c_q_pulses c_q_lengths c_q_fractions c_q_pulseTimes c_q_pulseEnergies c_t_near c_t_far c_t_echoes c_t_totals) lv pc (.long x1 :: .ref (a (43 + x0.toNatClampNeg)) :: rest) := by
  obtain ⟨o_w_near, hc, hk⟩ := bd_some hf
  exact v_callS2 (As := [.ref (a (43 + x0.toNatClampNeg)), .long x1]) (rest := rest) 2 C (CapOK.z X) (fun D => Cm_A_fill_rr43 hj0 hc) hl wcode_yJ7_fill_d0a16_cJ7_fill_d0a16_5_none wstatic_yJ7_fill_d0a16 winitialized_RJ7 (by decide +kernel) hroom ⟨rfl, rfl⟩ rfl hst hdg (kk o_w_near hk)
set_option maxRecDepth 100000 in
theorem Cc_A_fill_rr52 {x0 : Int32} {x1 : Int64} {cc : ByteArray} {own : String} {ret : Option FieldType} {nl fr lo pc ix : Nat} {lv : List (Nat × Value)} {rest : List Value} {β : Type} {K : (Nat → Nat → Int64) → Option β} {oo : β} (hl : Cond.methodLink own ix yJ7_fill_d0a16 ∈ wsG) (C : Cx X (SFG E) T cc own ret nl fr lo) (hj0 : inb x0 9) (hdg : decode cc pc = .ok (.invokestatic ix, 3)) (hroom : 0 + 1 ≤ fr ∧ 8 + (5 + 11) + 0 ≤ lo) (hst : (rest.map fun v => v.category).sum ≤ 8) (hf : bd (Cf_A_fill_rr52 c_w_far x0 x1) K = some oo) (kk : ∀ (o_w_far : Nat → Nat → Int64), K o_w_far = some oo → V X 0 0 (wL E a T c_waveIsFresh c_peelingIsFresh c_n_count c_n_front c_n_least c_n_window c_n_pulses c_n_lengths c_n_fractions c_n_pulseTimes c_n_pulseEnergies c_n_sound c_n_seen c_hcount c_hp c_h0_count c_h0_front c_h0_least c_h0_window c_h0_pulses c_h0_lengths c_h0_fractions c_h0_pulseTimes c_h0_pulseEnergies c_h0_sound c_h0_seen c_h1_count c_h1_front c_h1_least c_h1_window c_h1_pulses c_h1_lengths c_h1_fractions c_h1_pulseTimes c_h1_pulseEnergies c_h1_sound c_h1_seen c_h2_count c_h2_front c_h2_least c_h2_window c_h2_pulses c_h2_lengths c_h2_fractions c_h2_pulseTimes c_h2_pulseEnergies c_h2_sound c_h2_seen c_s_length c_s_command c_s_position c_s_fault c_s_bytes c_s_numbers c_w_near o_w_far c_w_echoes c_w_totals c_p_result c_p_endTime c_q_count c_q_front c_q_least c_q_window c_q_pulses c_q_lengths c_q_fractions c_q_pulseTimes c_q_pulseEnergies c_t_near c_t_far c_t_echoes c_t_totals) lv (pc + 3) rest) : V X 0 0 (wL E a T c_waveIsFresh c_peelingIsFresh c_n_count c_n_front c_n_least c_n_window c_n_pulses c_n_lengths c_n_fractions c_n_pulseTimes c_n_pulseEnergies c_n_sound c_n_seen c_hcount c_hp c_h0_count c_h0_front c_h0_least c_h0_window c_h0_pulses c_h0_lengths c_h0_fractions c_h0_pulseTimes c_h0_pulseEnergies c_h0_sound c_h0_seen c_h1_count c_h1_front c_h1_least c_h1_window c_h1_pulses c_h1_lengths c_h1_fractions c_h1_pulseTimes c_h1_pulseEnergies c_h1_sound c_h1_seen c_h2_count c_h2_front c_h2_least c_h2_window c_h2_pulses c_h2_lengths c_h2_fractions c_h2_pulseTimes c_h2_pulseEnergies c_h2_sound c_h2_seen c_s_length c_s_command c_s_position c_s_fault c_s_bytes c_s_numbers c_w_near c_w_far c_w_echoes c_w_totals c_p_result c_p_endTime c_q_count c_q_front c_q_least c_q_window c_q_pulses c_q_lengths c_q_fractions c_q_pulseTimes c_q_pulseEnergies c_t_near c_t_far c_t_echoes c_t_totals) lv pc (.long x1 :: .ref (a (52 + x0.toNatClampNeg)) :: rest) := by
  obtain ⟨o_w_far, hc, hk⟩ := bd_some hf
  exact v_callS2 (As := [.ref (a (52 + x0.toNatClampNeg)), .long x1]) (rest := rest) 2 C (CapOK.z X) (fun D => Cm_A_fill_rr52 hj0 hc) hl wcode_yJ7_fill_d0a16_cJ7_fill_d0a16_5_none wstatic_yJ7_fill_d0a16 winitialized_RJ7 (by decide +kernel) hroom ⟨rfl, rfl⟩ rfl hst hdg (kk o_w_far hk)
def Cl_W_clear_w_2  : Nat → (Nat → Nat → Int64) → (Nat → Nat → Int64) → Int32 → Option ((Nat → Nat → Int64) × (Nat → Nat → Int64))
  | 0, _, _, _ => none
  | n + 1, c_w_near, c_w_far, x1 =>
    if (8 : Int32) < x1 then
      some (c_w_near, c_w_far)
    else
      chk (inb x1 9) <|
      bd (Cf_A_fill_rr43 c_w_near x1 (0 : Int64)) fun w_near_15 =>
      chk (inb x1 9) <|
      bd (Cf_A_fill_rr52 c_w_far x1 (0 : Int64)) fun w_far_25 =>
      nm (x1 + (1 : Int32)) fun x1_28 =>
      Cl_W_clear_w_2 n w_near_15 w_far_25 x1_28
set_option maxRecDepth 100000 in
set_option maxHeartbeats 4000000 in
theorem Ck_W_clear_w_2 (C : Cx X (SFG E) T cX8_clear RX8 none 2 1 24)  {o_w_near : Nat → Nat → Int64} {o_w_far : Nat → Nat → Int64} (hk : V X 0 0 (wL E a T c_waveIsFresh c_peelingIsFresh c_n_count c_n_front c_n_least c_n_window c_n_pulses c_n_lengths c_n_fractions c_n_pulseTimes c_n_pulseEnergies c_n_sound c_n_seen c_hcount c_hp c_h0_count c_h0_front c_h0_least c_h0_window c_h0_pulses c_h0_lengths c_h0_fractions c_h0_pulseTimes c_h0_pulseEnergies c_h0_sound c_h0_seen c_h1_count c_h1_front c_h1_least c_h1_window c_h1_pulses c_h1_lengths c_h1_fractions c_h1_pulseTimes c_h1_pulseEnergies c_h1_sound c_h1_seen c_h2_count c_h2_front c_h2_least c_h2_window c_h2_pulses c_h2_lengths c_h2_fractions c_h2_pulseTimes c_h2_pulseEnergies c_h2_sound c_h2_seen c_s_length c_s_command c_s_position c_s_fault c_s_bytes c_s_numbers o_w_near o_w_far c_w_echoes c_w_totals c_p_result c_p_endTime c_q_count c_q_front c_q_least c_q_window c_q_pulses c_q_lengths c_q_fractions c_q_pulseTimes c_q_pulseEnergies c_t_near c_t_far c_t_echoes c_t_totals) [(0, .ref (a 38))] 34 []) : ∀ (n : Nat) (c_w_near : Nat → Nat → Int64) (c_w_far : Nat → Nat → Int64) (x1 : Int32), Cl_W_clear_w_2  n c_w_near c_w_far x1 = some (o_w_near, o_w_far) → V X 0 0 (wL E a T c_waveIsFresh c_peelingIsFresh c_n_count c_n_front c_n_least c_n_window c_n_pulses c_n_lengths c_n_fractions c_n_pulseTimes c_n_pulseEnergies c_n_sound c_n_seen c_hcount c_hp c_h0_count c_h0_front c_h0_least c_h0_window c_h0_pulses c_h0_lengths c_h0_fractions c_h0_pulseTimes c_h0_pulseEnergies c_h0_sound c_h0_seen c_h1_count c_h1_front c_h1_least c_h1_window c_h1_pulses c_h1_lengths c_h1_fractions c_h1_pulseTimes c_h1_pulseEnergies c_h1_sound c_h1_seen c_h2_count c_h2_front c_h2_least c_h2_window c_h2_pulses c_h2_lengths c_h2_fractions c_h2_pulseTimes c_h2_pulseEnergies c_h2_sound c_h2_seen c_s_length c_s_command c_s_position c_s_fault c_s_bytes c_s_numbers c_w_near c_w_far c_w_echoes c_w_totals c_p_result c_p_endTime c_q_count c_q_front c_q_least c_q_window c_q_pulses c_q_lengths c_q_fractions c_q_pulseTimes c_q_pulseEnergies c_t_near c_t_far c_t_echoes c_t_totals) [(0, .ref (a 38)), (1, .int x1)] 2 [] := by
  intro n
  induction n with
  | zero =>
    intro _ _ _ hf
    cases hf
  | succ n hrec =>
    intro c_w_near c_w_far x1 hf
    rw [Cl_W_clear_w_2] at hf
    refine v_iload_n 1 C dX8_clear_2 rfl rfl ?_
    refine v_bipush (v := 8) C dX8_clear_3 (by decide) ?_
    refine v_icmp_gt 34 C dX8_clear_5 (by decide) hf (fun c hf => ?_) (fun c hf => ?_)
    · refine v_lv [(0, .ref (a 38))] [0] rfl ?_
      cases hf
      exact hk
    · refine v_aload_n 0 C dX8_clear_8 rfl rfl ?_
      refine Cg_38_fromNear wfieldLink_RX8_11_LineEchoes_Wave_fromNear_J C dX8_clear_9 ?_
      refine v_iload_n 1 C dX8_clear_12 rfl rfl ?_
      refine Cao_39 C dX8_clear_13 hf (fun hj13 hf => ?_)
      refine v_lconst (v := 0) C dX8_clear_14 (by decide) ?_
      refine Cc_A_fill_rr43 wmethodLink_RX8_53_yJ7_fill_d0a16 C hj13 dX8_clear_15 (by decide) (Nat.le_of_ble_eq_true rfl) hf (fun w_near_15 hf => ?_)
      refine v_aload_n 0 C dX8_clear_18 rfl rfl ?_
      refine Cg_38_fromFar wfieldLink_RX8_16_LineEchoes_Wave_fromFar_J C dX8_clear_19 ?_
      refine v_iload_n 1 C dX8_clear_22 rfl rfl ?_
      refine Cao_40 C dX8_clear_23 hf (fun hj23 hf => ?_)
      refine v_lconst (v := 0) C dX8_clear_24 (by decide) ?_
      refine Cc_A_fill_rr52 wmethodLink_RX8_53_yJ7_fill_d0a16 C hj23 dX8_clear_25 (by decide) (Nat.le_of_ble_eq_true rfl) hf (fun w_far_25 hf => ?_)
      refine v_iinc (fun x1_28 => [(0, .ref (a 38)), (1, .int x1_28)]) [1, 0] C dX8_clear_28 (j := 1) rfl (dv := 1) (by decide) (by decide) (fun _ => rfl) hf (fun x1_28 hf => ?_)
      refine v_goto 2 C dX8_clear_31 (by decide) ?_
      exact hrec _ _ _ hf
set_option maxRecDepth 100000 in
theorem Cc_A_fill_w_echoes {x1 : Int64} {cc : ByteArray} {own : String} {ret : Option FieldType} {nl fr lo pc ix : Nat} {lv : List (Nat × Value)} {rest : List Value} {β : Type} {K : (Nat → Int64) → Option β} {oo : β} (hl : Cond.methodLink own ix yJ7_fill_d0a16 ∈ wsG) (C : Cx X (SFG E) T cc own ret nl fr lo) (hdg : decode cc pc = .ok (.invokestatic ix, 3)) (hroom : 0 + 1 ≤ fr ∧ 8 + (5 + 11) + 0 ≤ lo) (hst : (rest.map fun v => v.category).sum ≤ 8) (hf : bd (Cf_A_fill_w_echoes c_w_echoes x1) K = some oo) (kk : ∀ (o_w_echoes : Nat → Int64), K o_w_echoes = some oo → V X 0 0 (wL E a T c_waveIsFresh c_peelingIsFresh c_n_count c_n_front c_n_least c_n_window c_n_pulses c_n_lengths c_n_fractions c_n_pulseTimes c_n_pulseEnergies c_n_sound c_n_seen c_hcount c_hp c_h0_count c_h0_front c_h0_least c_h0_window c_h0_pulses c_h0_lengths c_h0_fractions c_h0_pulseTimes c_h0_pulseEnergies c_h0_sound c_h0_seen c_h1_count c_h1_front c_h1_least c_h1_window c_h1_pulses c_h1_lengths c_h1_fractions c_h1_pulseTimes c_h1_pulseEnergies c_h1_sound c_h1_seen c_h2_count c_h2_front c_h2_least c_h2_window c_h2_pulses c_h2_lengths c_h2_fractions c_h2_pulseTimes c_h2_pulseEnergies c_h2_sound c_h2_seen c_s_length c_s_command c_s_position c_s_fault c_s_bytes c_s_numbers c_w_near c_w_far o_w_echoes c_w_totals c_p_result c_p_endTime c_q_count c_q_front c_q_least c_q_window c_q_pulses c_q_lengths c_q_fractions c_q_pulseTimes c_q_pulseEnergies c_t_near c_t_far c_t_echoes c_t_totals) lv (pc + 3) rest) : V X 0 0 (wL E a T c_waveIsFresh c_peelingIsFresh c_n_count c_n_front c_n_least c_n_window c_n_pulses c_n_lengths c_n_fractions c_n_pulseTimes c_n_pulseEnergies c_n_sound c_n_seen c_hcount c_hp c_h0_count c_h0_front c_h0_least c_h0_window c_h0_pulses c_h0_lengths c_h0_fractions c_h0_pulseTimes c_h0_pulseEnergies c_h0_sound c_h0_seen c_h1_count c_h1_front c_h1_least c_h1_window c_h1_pulses c_h1_lengths c_h1_fractions c_h1_pulseTimes c_h1_pulseEnergies c_h1_sound c_h1_seen c_h2_count c_h2_front c_h2_least c_h2_window c_h2_pulses c_h2_lengths c_h2_fractions c_h2_pulseTimes c_h2_pulseEnergies c_h2_sound c_h2_seen c_s_length c_s_command c_s_position c_s_fault c_s_bytes c_s_numbers c_w_near c_w_far c_w_echoes c_w_totals c_p_result c_p_endTime c_q_count c_q_front c_q_least c_q_window c_q_pulses c_q_lengths c_q_fractions c_q_pulseTimes c_q_pulseEnergies c_t_near c_t_far c_t_echoes c_t_totals) lv pc (.long x1 :: .ref (a 41) :: rest) := by
  obtain ⟨o_w_echoes, hc, hk⟩ := bd_some hf
  exact v_callS2 (As := [.ref (a 41), .long x1]) (rest := rest) 2 C (CapOK.z X) (fun D => Cm_A_fill_w_echoes hc) hl wcode_yJ7_fill_d0a16_cJ7_fill_d0a16_5_none wstatic_yJ7_fill_d0a16 winitialized_RJ7 (by decide +kernel) hroom ⟨rfl, rfl⟩ rfl hst hdg (kk o_w_echoes hk)
set_option maxRecDepth 100000 in
theorem Cc_A_fill_w_totals {x1 : Int64} {cc : ByteArray} {own : String} {ret : Option FieldType} {nl fr lo pc ix : Nat} {lv : List (Nat × Value)} {rest : List Value} {β : Type} {K : (Nat → Int64) → Option β} {oo : β} (hl : Cond.methodLink own ix yJ7_fill_d0a16 ∈ wsG) (C : Cx X (SFG E) T cc own ret nl fr lo) (hdg : decode cc pc = .ok (.invokestatic ix, 3)) (hroom : 0 + 1 ≤ fr ∧ 8 + (5 + 11) + 0 ≤ lo) (hst : (rest.map fun v => v.category).sum ≤ 8) (hf : bd (Cf_A_fill_w_totals c_w_totals x1) K = some oo) (kk : ∀ (o_w_totals : Nat → Int64), K o_w_totals = some oo → V X 0 0 (wL E a T c_waveIsFresh c_peelingIsFresh c_n_count c_n_front c_n_least c_n_window c_n_pulses c_n_lengths c_n_fractions c_n_pulseTimes c_n_pulseEnergies c_n_sound c_n_seen c_hcount c_hp c_h0_count c_h0_front c_h0_least c_h0_window c_h0_pulses c_h0_lengths c_h0_fractions c_h0_pulseTimes c_h0_pulseEnergies c_h0_sound c_h0_seen c_h1_count c_h1_front c_h1_least c_h1_window c_h1_pulses c_h1_lengths c_h1_fractions c_h1_pulseTimes c_h1_pulseEnergies c_h1_sound c_h1_seen c_h2_count c_h2_front c_h2_least c_h2_window c_h2_pulses c_h2_lengths c_h2_fractions c_h2_pulseTimes c_h2_pulseEnergies c_h2_sound c_h2_seen c_s_length c_s_command c_s_position c_s_fault c_s_bytes c_s_numbers c_w_near c_w_far c_w_echoes o_w_totals c_p_result c_p_endTime c_q_count c_q_front c_q_least c_q_window c_q_pulses c_q_lengths c_q_fractions c_q_pulseTimes c_q_pulseEnergies c_t_near c_t_far c_t_echoes c_t_totals) lv (pc + 3) rest) : V X 0 0 (wL E a T c_waveIsFresh c_peelingIsFresh c_n_count c_n_front c_n_least c_n_window c_n_pulses c_n_lengths c_n_fractions c_n_pulseTimes c_n_pulseEnergies c_n_sound c_n_seen c_hcount c_hp c_h0_count c_h0_front c_h0_least c_h0_window c_h0_pulses c_h0_lengths c_h0_fractions c_h0_pulseTimes c_h0_pulseEnergies c_h0_sound c_h0_seen c_h1_count c_h1_front c_h1_least c_h1_window c_h1_pulses c_h1_lengths c_h1_fractions c_h1_pulseTimes c_h1_pulseEnergies c_h1_sound c_h1_seen c_h2_count c_h2_front c_h2_least c_h2_window c_h2_pulses c_h2_lengths c_h2_fractions c_h2_pulseTimes c_h2_pulseEnergies c_h2_sound c_h2_seen c_s_length c_s_command c_s_position c_s_fault c_s_bytes c_s_numbers c_w_near c_w_far c_w_echoes c_w_totals c_p_result c_p_endTime c_q_count c_q_front c_q_least c_q_window c_q_pulses c_q_lengths c_q_fractions c_q_pulseTimes c_q_pulseEnergies c_t_near c_t_far c_t_echoes c_t_totals) lv pc (.long x1 :: .ref (a 42) :: rest) := by
  obtain ⟨o_w_totals, hc, hk⟩ := bd_some hf
  exact v_callS2 (As := [.ref (a 42), .long x1]) (rest := rest) 2 C (CapOK.z X) (fun D => Cm_A_fill_w_totals hc) hl wcode_yJ7_fill_d0a16_cJ7_fill_d0a16_5_none wstatic_yJ7_fill_d0a16 winitialized_RJ7 (by decide +kernel) hroom ⟨rfl, rfl⟩ rfl hst hdg (kk o_w_totals hk)
def Cf_W_clear_w (c_w_near : Nat → Nat → Int64) (c_w_far : Nat → Nat → Int64) (c_w_echoes : Nat → Int64) (c_w_totals : Nat → Int64) : Option ((Nat → Nat → Int64) × (Nat → Nat → Int64) × (Nat → Int64) × (Nat → Int64)) :=
  bd (Cl_W_clear_w_2 FUEL c_w_near c_w_far (0 : Int32)) fun (o_w_near_2, o_w_far_2) =>
  bd (Cf_A_fill_w_echoes c_w_echoes (0 : Int64)) fun w_echoes_39 =>
  bd (Cf_A_fill_w_totals c_w_totals (0 : Int64)) fun w_totals_47 =>
  some (o_w_near_2, o_w_far_2, w_echoes_39, w_totals_47)
set_option maxRecDepth 100000 in
set_option maxHeartbeats 4000000 in
theorem Cb_W_clear_w (C : Cx X (SFG E) T cX8_clear RX8 none 2 1 24)  {o_w_near : Nat → Nat → Int64} {o_w_far : Nat → Nat → Int64} {o_w_echoes : Nat → Int64} {o_w_totals : Nat → Int64} (hret : RetOK X 0 0 none (wL E a T c_waveIsFresh c_peelingIsFresh c_n_count c_n_front c_n_least c_n_window c_n_pulses c_n_lengths c_n_fractions c_n_pulseTimes c_n_pulseEnergies c_n_sound c_n_seen c_hcount c_hp c_h0_count c_h0_front c_h0_least c_h0_window c_h0_pulses c_h0_lengths c_h0_fractions c_h0_pulseTimes c_h0_pulseEnergies c_h0_sound c_h0_seen c_h1_count c_h1_front c_h1_least c_h1_window c_h1_pulses c_h1_lengths c_h1_fractions c_h1_pulseTimes c_h1_pulseEnergies c_h1_sound c_h1_seen c_h2_count c_h2_front c_h2_least c_h2_window c_h2_pulses c_h2_lengths c_h2_fractions c_h2_pulseTimes c_h2_pulseEnergies c_h2_sound c_h2_seen c_s_length c_s_command c_s_position c_s_fault c_s_bytes c_s_numbers o_w_near o_w_far o_w_echoes o_w_totals c_p_result c_p_endTime c_q_count c_q_front c_q_least c_q_window c_q_pulses c_q_lengths c_q_fractions c_q_pulseTimes c_q_pulseEnergies c_t_near c_t_far c_t_echoes c_t_totals)) (hf : Cf_W_clear_w c_w_near c_w_far c_w_echoes c_w_totals = some (o_w_near, o_w_far, o_w_echoes, o_w_totals)) : V X 0 0 (wL E a T c_waveIsFresh c_peelingIsFresh c_n_count c_n_front c_n_least c_n_window c_n_pulses c_n_lengths c_n_fractions c_n_pulseTimes c_n_pulseEnergies c_n_sound c_n_seen c_hcount c_hp c_h0_count c_h0_front c_h0_least c_h0_window c_h0_pulses c_h0_lengths c_h0_fractions c_h0_pulseTimes c_h0_pulseEnergies c_h0_sound c_h0_seen c_h1_count c_h1_front c_h1_least c_h1_window c_h1_pulses c_h1_lengths c_h1_fractions c_h1_pulseTimes c_h1_pulseEnergies c_h1_sound c_h1_seen c_h2_count c_h2_front c_h2_least c_h2_window c_h2_pulses c_h2_lengths c_h2_fractions c_h2_pulseTimes c_h2_pulseEnergies c_h2_sound c_h2_seen c_s_length c_s_command c_s_position c_s_fault c_s_bytes c_s_numbers c_w_near c_w_far c_w_echoes c_w_totals c_p_result c_p_endTime c_q_count c_q_front c_q_least c_q_window c_q_pulses c_q_lengths c_q_fractions c_q_pulseTimes c_q_pulseEnergies c_t_near c_t_far c_t_echoes c_t_totals) [(0, .ref (a 38))] 0 [] := by
  unfold Cf_W_clear_w at hf
  refine v_iconst (v := 0) C dX8_clear_0 (by decide) ?_
  refine v_istore_n [(0, .ref (a 38)), (1, .int (0 : Int32))] [1, 0] C dX8_clear_1 rfl (by decide) rfl ?_
  obtain ⟨⟨o_w_near_2, o_w_far_2⟩, hc, hf⟩ := bd_some hf
  refine Ck_W_clear_w_2 C ?_ _ _ _ _ hc
  refine v_aload_n 0 C dX8_clear_34 rfl rfl ?_
  refine Cg_38_echoes wfieldLink_RX8_19_LineEchoes_Wave_echoes_J C dX8_clear_35 ?_
  refine v_lconst (v := 0) C dX8_clear_38 (by decide) ?_
  refine Cc_A_fill_w_echoes wmethodLink_RX8_53_yJ7_fill_d0a16 C dX8_clear_39 (by decide) (Nat.le_of_ble_eq_true rfl) hf (fun w_echoes_39 hf => ?_)
  refine v_aload_n 0 C dX8_clear_42 rfl rfl ?_
  refine Cg_38_totals wfieldLink_RX8_23_LineEchoes_Wave_totals_J C dX8_clear_43 ?_
  refine v_lconst (v := 0) C dX8_clear_46 (by decide) ?_
  refine Cc_A_fill_w_totals wmethodLink_RX8_53_yJ7_fill_d0a16 C dX8_clear_47 (by decide) (Nat.le_of_ble_eq_true rfl) hf (fun w_totals_47 hf => ?_)
  cases hf
  exact v_vret C hret dX8_clear_50
set_option maxRecDepth 100000 in
set_option maxHeartbeats 4000000 in
theorem Cm_W_clear_w {D : va_G}  {o_w_near : Nat → Nat → Int64} {o_w_far : Nat → Nat → Int64} {o_w_echoes : Nat → Int64} {o_w_totals : Nat → Int64} (hf : Cf_W_clear_w c_w_near c_w_far c_w_echoes c_w_totals = some (o_w_near, o_w_far, o_w_echoes, o_w_totals)) : MetM (SFG E) yX8_clear cX8_clear 2 none { frames := 1, cells := 0, slots := 0, locals := 24 } D T [.ref (a 38)] (wL E a T c_waveIsFresh c_peelingIsFresh c_n_count c_n_front c_n_least c_n_window c_n_pulses c_n_lengths c_n_fractions c_n_pulseTimes c_n_pulseEnergies c_n_sound c_n_seen c_hcount c_hp c_h0_count c_h0_front c_h0_least c_h0_window c_h0_pulses c_h0_lengths c_h0_fractions c_h0_pulseTimes c_h0_pulseEnergies c_h0_sound c_h0_seen c_h1_count c_h1_front c_h1_least c_h1_window c_h1_pulses c_h1_lengths c_h1_fractions c_h1_pulseTimes c_h1_pulseEnergies c_h1_sound c_h1_seen c_h2_count c_h2_front c_h2_least c_h2_window c_h2_pulses c_h2_lengths c_h2_fractions c_h2_pulseTimes c_h2_pulseEnergies c_h2_sound c_h2_seen c_s_length c_s_command c_s_position c_s_fault c_s_bytes c_s_numbers c_w_near c_w_far c_w_echoes c_w_totals c_p_result c_p_endTime c_q_count c_q_front c_q_least c_q_window c_q_pulses c_q_lengths c_q_fractions c_q_pulseTimes c_q_pulseEnergies c_t_near c_t_far c_t_echoes c_t_totals) none (wL E a T c_waveIsFresh c_peelingIsFresh c_n_count c_n_front c_n_least c_n_window c_n_pulses c_n_lengths c_n_fractions c_n_pulseTimes c_n_pulseEnergies c_n_sound c_n_seen c_hcount c_hp c_h0_count c_h0_front c_h0_least c_h0_window c_h0_pulses c_h0_lengths c_h0_fractions c_h0_pulseTimes c_h0_pulseEnergies c_h0_sound c_h0_seen c_h1_count c_h1_front c_h1_least c_h1_window c_h1_pulses c_h1_lengths c_h1_fractions c_h1_pulseTimes c_h1_pulseEnergies c_h1_sound c_h1_seen c_h2_count c_h2_front c_h2_least c_h2_window c_h2_pulses c_h2_lengths c_h2_fractions c_h2_pulseTimes c_h2_pulseEnergies c_h2_sound c_h2_seen c_s_length c_s_command c_s_position c_s_fault c_s_bytes c_s_numbers o_w_near o_w_far o_w_echoes o_w_totals c_p_result c_p_endTime c_q_count c_q_front c_q_least c_q_window c_q_pulses c_q_lengths c_q_fractions c_q_pulseTimes c_q_pulseEnergies c_t_near c_t_far c_t_echoes c_t_totals) :=
  MetM.of [(0, .ref (a 38))] (by decide) (Nat.le_of_ble_eq_true rfl) rfl (fun X C hret => Cb_W_clear_w C hret hf)
def Cf_W_addUpPulses_w_n_39 (rec : (Nat → Int64) → Int32 → Option (Nat → Int64)) (c_w_totals : Nat → Int64) (x2 : Int32) : Option (Nat → Int64) :=
  nm (x2 + (1 : Int32)) fun x2_39 =>
  rec c_w_totals x2_39
set_option maxRecDepth 100000 in
set_option maxHeartbeats 4000000 in
theorem Cb_W_addUpPulses_w_n_39 (C : Cx X (SFG E) T cX8_addUpPulses RX8 none 3 0 0) {rec : (Nat → Int64) → Int32 → Option (Nat → Int64)} {x2 : Int32} {o_w_totals : Nat → Int64} (hrec : ∀ (c_w_totals : Nat → Int64) (x2 : Int32), rec c_w_totals x2 = some o_w_totals → V X 0 0 (wL E a T c_waveIsFresh c_peelingIsFresh c_n_count c_n_front c_n_least c_n_window c_n_pulses c_n_lengths c_n_fractions c_n_pulseTimes c_n_pulseEnergies c_n_sound c_n_seen c_hcount c_hp c_h0_count c_h0_front c_h0_least c_h0_window c_h0_pulses c_h0_lengths c_h0_fractions c_h0_pulseTimes c_h0_pulseEnergies c_h0_sound c_h0_seen c_h1_count c_h1_front c_h1_least c_h1_window c_h1_pulses c_h1_lengths c_h1_fractions c_h1_pulseTimes c_h1_pulseEnergies c_h1_sound c_h1_seen c_h2_count c_h2_front c_h2_least c_h2_window c_h2_pulses c_h2_lengths c_h2_fractions c_h2_pulseTimes c_h2_pulseEnergies c_h2_sound c_h2_seen c_s_length c_s_command c_s_position c_s_fault c_s_bytes c_s_numbers c_w_near c_w_far c_w_echoes c_w_totals c_p_result c_p_endTime c_q_count c_q_front c_q_least c_q_window c_q_pulses c_q_lengths c_q_fractions c_q_pulseTimes c_q_pulseEnergies c_t_near c_t_far c_t_echoes c_t_totals) [(0, .ref (a 38)), (1, .ref (a 2)), (2, .int x2)] 2 []) (hk : V X 0 0 (wL E a T c_waveIsFresh c_peelingIsFresh c_n_count c_n_front c_n_least c_n_window c_n_pulses c_n_lengths c_n_fractions c_n_pulseTimes c_n_pulseEnergies c_n_sound c_n_seen c_hcount c_hp c_h0_count c_h0_front c_h0_least c_h0_window c_h0_pulses c_h0_lengths c_h0_fractions c_h0_pulseTimes c_h0_pulseEnergies c_h0_sound c_h0_seen c_h1_count c_h1_front c_h1_least c_h1_window c_h1_pulses c_h1_lengths c_h1_fractions c_h1_pulseTimes c_h1_pulseEnergies c_h1_sound c_h1_seen c_h2_count c_h2_front c_h2_least c_h2_window c_h2_pulses c_h2_lengths c_h2_fractions c_h2_pulseTimes c_h2_pulseEnergies c_h2_sound c_h2_seen c_s_length c_s_command c_s_position c_s_fault c_s_bytes c_s_numbers c_w_near c_w_far c_w_echoes o_w_totals c_p_result c_p_endTime c_q_count c_q_front c_q_least c_q_window c_q_pulses c_q_lengths c_q_fractions c_q_pulseTimes c_q_pulseEnergies c_t_near c_t_far c_t_echoes c_t_totals) [] 45 []) (hf : Cf_W_addUpPulses_w_n_39 rec c_w_totals x2 = some o_w_totals) : V X 0 0 (wL E a T c_waveIsFresh c_peelingIsFresh c_n_count c_n_front c_n_least c_n_window c_n_pulses c_n_lengths c_n_fractions c_n_pulseTimes c_n_pulseEnergies c_n_sound c_n_seen c_hcount c_hp c_h0_count c_h0_front c_h0_least c_h0_window c_h0_pulses c_h0_lengths c_h0_fractions c_h0_pulseTimes c_h0_pulseEnergies c_h0_sound c_h0_seen c_h1_count c_h1_front c_h1_least c_h1_window c_h1_pulses c_h1_lengths c_h1_fractions c_h1_pulseTimes c_h1_pulseEnergies c_h1_sound c_h1_seen c_h2_count c_h2_front c_h2_least c_h2_window c_h2_pulses c_h2_lengths c_h2_fractions c_h2_pulseTimes c_h2_pulseEnergies c_h2_sound c_h2_seen c_s_length c_s_command c_s_position c_s_fault c_s_bytes c_s_numbers c_w_near c_w_far c_w_echoes c_w_totals c_p_result c_p_endTime c_q_count c_q_front c_q_least c_q_window c_q_pulses c_q_lengths c_q_fractions c_q_pulseTimes c_q_pulseEnergies c_t_near c_t_far c_t_echoes c_t_totals) [(0, .ref (a 38)), (1, .ref (a 2)), (2, .int x2)] 39 [] := by
  unfold Cf_W_addUpPulses_w_n_39 at hf
  refine v_iinc (fun x2_39 => [(0, .ref (a 38)), (1, .ref (a 2)), (2, .int x2_39)]) [1, 2, 0] C dX8_addUpPulses_39 (j := 2) rfl (dv := 1) (by decide) (by decide) (fun _ => rfl) hf (fun x2_39 hf => ?_)
  refine v_goto 2 C dX8_addUpPulses_42 (by decide) ?_
  exact hrec _ _ hf
def Cl_W_addUpPulses_w_n_2 (c_n_window : Int32) (c_n_pulses : Int32) (c_n_pulseTimes : Nat → Int32) (c_n_pulseEnergies : Nat → Int32) : Nat → (Nat → Int64) → Int32 → Option (Nat → Int64)
  | 0, _, _ => none
  | n + 1, c_w_totals, x2 =>
    if c_n_pulses ≤ x2 then
      some c_w_totals
    else
      chk (inb x2 4) <| nm (c_n_pulseTimes x2.toNatClampNeg) fun z15 =>
      if c_n_window < z15 then
        Cf_W_addUpPulses_w_n_39 (Cl_W_addUpPulses_w_n_2 c_n_window c_n_pulses c_n_pulseTimes c_n_pulseEnergies n) c_w_totals x2
      else
        chk (inb (0 : Int32) 9) <| nm (c_w_totals (0 : Int32).toNatClampNeg) fun z29 =>
        chk (inb x2 4) <| nm (c_n_pulseEnergies x2.toNatClampNeg) fun z35 =>
        nm (z35.toInt64) fun z36 =>
        nm (z29 + z36) fun z37 =>
        chk (inb (0 : Int32) 9) <| nm (vp_updL c_w_totals (0 : Int32).toNatClampNeg z37) fun w_totals_38 =>
        Cf_W_addUpPulses_w_n_39 (Cl_W_addUpPulses_w_n_2 c_n_window c_n_pulses c_n_pulseTimes c_n_pulseEnergies n) w_totals_38 x2
set_option maxRecDepth 100000 in
set_option maxHeartbeats 4000000 in
theorem Ck_W_addUpPulses_w_n_2 (C : Cx X (SFG E) T cX8_addUpPulses RX8 none 3 0 0)  {o_w_totals : Nat → Int64} (hk : V X 0 0 (wL E a T c_waveIsFresh c_peelingIsFresh c_n_count c_n_front c_n_least c_n_window c_n_pulses c_n_lengths c_n_fractions c_n_pulseTimes c_n_pulseEnergies c_n_sound c_n_seen c_hcount c_hp c_h0_count c_h0_front c_h0_least c_h0_window c_h0_pulses c_h0_lengths c_h0_fractions c_h0_pulseTimes c_h0_pulseEnergies c_h0_sound c_h0_seen c_h1_count c_h1_front c_h1_least c_h1_window c_h1_pulses c_h1_lengths c_h1_fractions c_h1_pulseTimes c_h1_pulseEnergies c_h1_sound c_h1_seen c_h2_count c_h2_front c_h2_least c_h2_window c_h2_pulses c_h2_lengths c_h2_fractions c_h2_pulseTimes c_h2_pulseEnergies c_h2_sound c_h2_seen c_s_length c_s_command c_s_position c_s_fault c_s_bytes c_s_numbers c_w_near c_w_far c_w_echoes o_w_totals c_p_result c_p_endTime c_q_count c_q_front c_q_least c_q_window c_q_pulses c_q_lengths c_q_fractions c_q_pulseTimes c_q_pulseEnergies c_t_near c_t_far c_t_echoes c_t_totals) [] 45 []) : ∀ (n : Nat) (c_w_totals : Nat → Int64) (x2 : Int32), Cl_W_addUpPulses_w_n_2 c_n_window c_n_pulses c_n_pulseTimes c_n_pulseEnergies n c_w_totals x2 = some o_w_totals → V X 0 0 (wL E a T c_waveIsFresh c_peelingIsFresh c_n_count c_n_front c_n_least c_n_window c_n_pulses c_n_lengths c_n_fractions c_n_pulseTimes c_n_pulseEnergies c_n_sound c_n_seen c_hcount c_hp c_h0_count c_h0_front c_h0_least c_h0_window c_h0_pulses c_h0_lengths c_h0_fractions c_h0_pulseTimes c_h0_pulseEnergies c_h0_sound c_h0_seen c_h1_count c_h1_front c_h1_least c_h1_window c_h1_pulses c_h1_lengths c_h1_fractions c_h1_pulseTimes c_h1_pulseEnergies c_h1_sound c_h1_seen c_h2_count c_h2_front c_h2_least c_h2_window c_h2_pulses c_h2_lengths c_h2_fractions c_h2_pulseTimes c_h2_pulseEnergies c_h2_sound c_h2_seen c_s_length c_s_command c_s_position c_s_fault c_s_bytes c_s_numbers c_w_near c_w_far c_w_echoes c_w_totals c_p_result c_p_endTime c_q_count c_q_front c_q_least c_q_window c_q_pulses c_q_lengths c_q_fractions c_q_pulseTimes c_q_pulseEnergies c_t_near c_t_far c_t_echoes c_t_totals) [(0, .ref (a 38)), (1, .ref (a 2)), (2, .int x2)] 2 [] := by
  intro n
  induction n with
  | zero =>
    intro _ _ hf
    cases hf
  | succ n hrec =>
    intro c_w_totals x2 hf
    rw [Cl_W_addUpPulses_w_n_2] at hf
    refine v_iload_n 2 C dX8_addUpPulses_2 rfl rfl ?_
    refine v_aload_n 1 C dX8_addUpPulses_3 rfl rfl ?_
    refine Cg_2_pulses wfieldLink_RX8_59_LineEchoes_Bench_pulses_I C dX8_addUpPulses_4 ?_
    refine v_icmp_ge 45 C dX8_addUpPulses_7 (by decide) hf (fun c hf => ?_) (fun c hf => ?_)
    · refine v_lv [] [] rfl ?_
      cases hf
      exact hk
    · refine v_aload_n 1 C dX8_addUpPulses_10 rfl rfl ?_
      refine Cg_2_pulseTimes wfieldLink_RX8_62_LineEchoes_Bench_pulseTimes_I C dX8_addUpPulses_11 ?_
      refine v_iload_n 2 C dX8_addUpPulses_14 rfl rfl ?_
      refine Cal_5 C dX8_addUpPulses_15 hf (fun z15 hf => ?_)
      refine v_aload_n 1 C dX8_addUpPulses_16 rfl rfl ?_
      refine Cg_2_window wfieldLink_RX8_39_LineEchoes_Bench_window_I C dX8_addUpPulses_17 ?_
      refine v_icmp_gt 39 C dX8_addUpPulses_20 (by decide) hf (fun c hf => ?_) (fun c hf => ?_)
      · exact Cb_W_addUpPulses_w_n_39 C hrec hk hf
      · refine v_aload_n 0 C dX8_addUpPulses_23 rfl rfl ?_
        refine Cg_38_totals wfieldLink_RX8_23_LineEchoes_Wave_totals_J C dX8_addUpPulses_24 ?_
        refine v_iconst (v := 0) C dX8_addUpPulses_27 (by decide) ?_
        refine v_dup2_11 C dX8_addUpPulses_28 rfl rfl ?_
        refine Cal_42 C dX8_addUpPulses_29 hf (fun z29 hf => ?_)
        refine v_aload_n 1 C dX8_addUpPulses_30 rfl rfl ?_
        refine Cg_2_pulseEnergies wfieldLink_RX8_66_LineEchoes_Bench_pulseEnergies_I C dX8_addUpPulses_31 ?_
        refine v_iload_n 2 C dX8_addUpPulses_34 rfl rfl ?_
        refine Cal_6 C dX8_addUpPulses_35 hf (fun z35 hf => ?_)
        refine v_i2l C dX8_addUpPulses_36 hf (fun z36 hf => ?_)
        refine v_ladd C dX8_addUpPulses_37 hf (fun z37 hf => ?_)
        refine Cas_42 C dX8_addUpPulses_38 hf (fun w_totals_38 hf => ?_)
        exact Cb_W_addUpPulses_w_n_39 C hrec hk hf
def Cf_W_addUpPulses_w_n (c_n_window : Int32) (c_n_pulses : Int32) (c_n_pulseTimes : Nat → Int32) (c_n_pulseEnergies : Nat → Int32) (c_w_totals : Nat → Int64) : Option (Nat → Int64) :=
  bd (Cl_W_addUpPulses_w_n_2 c_n_window c_n_pulses c_n_pulseTimes c_n_pulseEnergies FUEL c_w_totals (0 : Int32)) fun o_w_totals_2 =>
  some o_w_totals_2
set_option maxRecDepth 100000 in
set_option maxHeartbeats 4000000 in
theorem Cb_W_addUpPulses_w_n (C : Cx X (SFG E) T cX8_addUpPulses RX8 none 3 0 0)  {o_w_totals : Nat → Int64} (hret : RetOK X 0 0 none (wL E a T c_waveIsFresh c_peelingIsFresh c_n_count c_n_front c_n_least c_n_window c_n_pulses c_n_lengths c_n_fractions c_n_pulseTimes c_n_pulseEnergies c_n_sound c_n_seen c_hcount c_hp c_h0_count c_h0_front c_h0_least c_h0_window c_h0_pulses c_h0_lengths c_h0_fractions c_h0_pulseTimes c_h0_pulseEnergies c_h0_sound c_h0_seen c_h1_count c_h1_front c_h1_least c_h1_window c_h1_pulses c_h1_lengths c_h1_fractions c_h1_pulseTimes c_h1_pulseEnergies c_h1_sound c_h1_seen c_h2_count c_h2_front c_h2_least c_h2_window c_h2_pulses c_h2_lengths c_h2_fractions c_h2_pulseTimes c_h2_pulseEnergies c_h2_sound c_h2_seen c_s_length c_s_command c_s_position c_s_fault c_s_bytes c_s_numbers c_w_near c_w_far c_w_echoes o_w_totals c_p_result c_p_endTime c_q_count c_q_front c_q_least c_q_window c_q_pulses c_q_lengths c_q_fractions c_q_pulseTimes c_q_pulseEnergies c_t_near c_t_far c_t_echoes c_t_totals)) (hf : Cf_W_addUpPulses_w_n c_n_window c_n_pulses c_n_pulseTimes c_n_pulseEnergies c_w_totals = some o_w_totals) : V X 0 0 (wL E a T c_waveIsFresh c_peelingIsFresh c_n_count c_n_front c_n_least c_n_window c_n_pulses c_n_lengths c_n_fractions c_n_pulseTimes c_n_pulseEnergies c_n_sound c_n_seen c_hcount c_hp c_h0_count c_h0_front c_h0_least c_h0_window c_h0_pulses c_h0_lengths c_h0_fractions c_h0_pulseTimes c_h0_pulseEnergies c_h0_sound c_h0_seen c_h1_count c_h1_front c_h1_least c_h1_window c_h1_pulses c_h1_lengths c_h1_fractions c_h1_pulseTimes c_h1_pulseEnergies c_h1_sound c_h1_seen c_h2_count c_h2_front c_h2_least c_h2_window c_h2_pulses c_h2_lengths c_h2_fractions c_h2_pulseTimes c_h2_pulseEnergies c_h2_sound c_h2_seen c_s_length c_s_command c_s_position c_s_fault c_s_bytes c_s_numbers c_w_near c_w_far c_w_echoes c_w_totals c_p_result c_p_endTime c_q_count c_q_front c_q_least c_q_window c_q_pulses c_q_lengths c_q_fractions c_q_pulseTimes c_q_pulseEnergies c_t_near c_t_far c_t_echoes c_t_totals) [(0, .ref (a 38)), (1, .ref (a 2))] 0 [] := by
  unfold Cf_W_addUpPulses_w_n at hf
  refine v_iconst (v := 0) C dX8_addUpPulses_0 (by decide) ?_
  refine v_istore_n [(0, .ref (a 38)), (1, .ref (a 2)), (2, .int (0 : Int32))] [1, 2, 0] C dX8_addUpPulses_1 rfl (by decide) rfl ?_
  obtain ⟨o_w_totals_2, hc, hf⟩ := bd_some hf
  refine Ck_W_addUpPulses_w_n_2 C ?_ _ _ _ hc
  cases hf
  exact v_vret C hret dX8_addUpPulses_45
set_option maxRecDepth 100000 in
set_option maxHeartbeats 4000000 in
theorem Cm_W_addUpPulses_w_n {D : va_G}  {o_w_totals : Nat → Int64} (hf : Cf_W_addUpPulses_w_n c_n_window c_n_pulses c_n_pulseTimes c_n_pulseEnergies c_w_totals = some o_w_totals) : MetM (SFG E) yX8_addUpPulses cX8_addUpPulses 3 none { frames := 0, cells := 0, slots := 0, locals := 0 } D T [.ref (a 38), .ref (a 2)] (wL E a T c_waveIsFresh c_peelingIsFresh c_n_count c_n_front c_n_least c_n_window c_n_pulses c_n_lengths c_n_fractions c_n_pulseTimes c_n_pulseEnergies c_n_sound c_n_seen c_hcount c_hp c_h0_count c_h0_front c_h0_least c_h0_window c_h0_pulses c_h0_lengths c_h0_fractions c_h0_pulseTimes c_h0_pulseEnergies c_h0_sound c_h0_seen c_h1_count c_h1_front c_h1_least c_h1_window c_h1_pulses c_h1_lengths c_h1_fractions c_h1_pulseTimes c_h1_pulseEnergies c_h1_sound c_h1_seen c_h2_count c_h2_front c_h2_least c_h2_window c_h2_pulses c_h2_lengths c_h2_fractions c_h2_pulseTimes c_h2_pulseEnergies c_h2_sound c_h2_seen c_s_length c_s_command c_s_position c_s_fault c_s_bytes c_s_numbers c_w_near c_w_far c_w_echoes c_w_totals c_p_result c_p_endTime c_q_count c_q_front c_q_least c_q_window c_q_pulses c_q_lengths c_q_fractions c_q_pulseTimes c_q_pulseEnergies c_t_near c_t_far c_t_echoes c_t_totals) none (wL E a T c_waveIsFresh c_peelingIsFresh c_n_count c_n_front c_n_least c_n_window c_n_pulses c_n_lengths c_n_fractions c_n_pulseTimes c_n_pulseEnergies c_n_sound c_n_seen c_hcount c_hp c_h0_count c_h0_front c_h0_least c_h0_window c_h0_pulses c_h0_lengths c_h0_fractions c_h0_pulseTimes c_h0_pulseEnergies c_h0_sound c_h0_seen c_h1_count c_h1_front c_h1_least c_h1_window c_h1_pulses c_h1_lengths c_h1_fractions c_h1_pulseTimes c_h1_pulseEnergies c_h1_sound c_h1_seen c_h2_count c_h2_front c_h2_least c_h2_window c_h2_pulses c_h2_lengths c_h2_fractions c_h2_pulseTimes c_h2_pulseEnergies c_h2_sound c_h2_seen c_s_length c_s_command c_s_position c_s_fault c_s_bytes c_s_numbers c_w_near c_w_far c_w_echoes o_w_totals c_p_result c_p_endTime c_q_count c_q_front c_q_least c_q_window c_q_pulses c_q_lengths c_q_fractions c_q_pulseTimes c_q_pulseEnergies c_t_near c_t_far c_t_echoes c_t_totals) :=
  MetM.of [(0, .ref (a 38)), (1, .ref (a 2))] (by decide) (Nat.le_of_ble_eq_true rfl) rfl (fun X C hret => Cb_W_addUpPulses_w_n C hret hf)
def Cf_L_turnedBack (x0 : Int64) (x2 : Int32) : Option Int64 :=
  nm (x2.toInt64) fun z2 =>
  nm (x0 * z2) fun z3 =>
  chk (¬ (1000 : Int64) = 0) <| nm (z3 / (1000 : Int64)) fun z7 =>
  some z7
set_option maxRecDepth 100000 in
set_option maxHeartbeats 4000000 in
theorem Cb_L_turnedBack (C : Cx X (SFG E) T cX9_turnedBack RX9 (some .long) 3 0 0) {x0 : Int64} {x2 : Int32} {r : Int64} (hret : RetOK X 0 0 (some (.long r)) w) (hf : Cf_L_turnedBack x0 x2 = some r) : V X 0 0 w [(0, .long x0), (2, .int x2)] 0 [] := by
  unfold Cf_L_turnedBack at hf
  refine v_lload_n 0 C dX9_turnedBack_0 rfl rfl ?_
  refine v_iload_n 1 C dX9_turnedBack_1 rfl rfl ?_
  refine v_i2l C dX9_turnedBack_2 hf (fun z2 hf => ?_)
  refine v_lmul C dX9_turnedBack_3 hf (fun z3 hf => ?_)
  refine v_ldc2 (v := 1000) C wconstantLong_RX9_100_1000 dX9_turnedBack_4 ?_
  refine v_ldiv C dX9_turnedBack_7 hf (fun z7 hf => ?_)
  cases hf
  exact v_lret C hret dX9_turnedBack_8
set_option maxRecDepth 100000 in
set_option maxHeartbeats 4000000 in
theorem Cm_L_turnedBack {D : va_G} {x0 : Int64} {x2 : Int32} {r : Int64} (hf : Cf_L_turnedBack x0 x2 = some r) : MetM (SFG E) yX9_turnedBack cX9_turnedBack 3 (some .long) { frames := 0, cells := 0, slots := 0, locals := 0 } D T [.long x0, .int x2] w (some (.long r)) w :=
  MetM.of [(0, .long x0), (2, .int x2)] (by decide) (Nat.le_of_ble_eq_true rfl) rfl (fun X C hret => Cb_L_turnedBack C hret hf)
def Cf_W_setOut_w_n_109 (c_w_near : Nat → Nat → Int64) (c_w_far : Nat → Nat → Int64) (c_w_totals : Nat → Int64) : Option ((Nat → Nat → Int64) × (Nat → Nat → Int64) × (Nat → Int64)) :=
  some (c_w_near, c_w_far, c_w_totals)
set_option maxRecDepth 100000 in
set_option maxHeartbeats 4000000 in
theorem Cb_W_setOut_w_n_109 (C : Cx X (SFG E) T cX8_setOut RX8 none 8 0 0)  {o_w_near : Nat → Nat → Int64} {o_w_far : Nat → Nat → Int64} {o_w_totals : Nat → Int64} (hret : RetOK X 0 0 none (wL E a T c_waveIsFresh c_peelingIsFresh c_n_count c_n_front c_n_least c_n_window c_n_pulses c_n_lengths c_n_fractions c_n_pulseTimes c_n_pulseEnergies c_n_sound c_n_seen c_hcount c_hp c_h0_count c_h0_front c_h0_least c_h0_window c_h0_pulses c_h0_lengths c_h0_fractions c_h0_pulseTimes c_h0_pulseEnergies c_h0_sound c_h0_seen c_h1_count c_h1_front c_h1_least c_h1_window c_h1_pulses c_h1_lengths c_h1_fractions c_h1_pulseTimes c_h1_pulseEnergies c_h1_sound c_h1_seen c_h2_count c_h2_front c_h2_least c_h2_window c_h2_pulses c_h2_lengths c_h2_fractions c_h2_pulseTimes c_h2_pulseEnergies c_h2_sound c_h2_seen c_s_length c_s_command c_s_position c_s_fault c_s_bytes c_s_numbers o_w_near o_w_far c_w_echoes o_w_totals c_p_result c_p_endTime c_q_count c_q_front c_q_least c_q_window c_q_pulses c_q_lengths c_q_fractions c_q_pulseTimes c_q_pulseEnergies c_t_near c_t_far c_t_echoes c_t_totals)) (hf : Cf_W_setOut_w_n_109 c_w_near c_w_far c_w_totals = some (o_w_near, o_w_far, o_w_totals)) : V X 0 0 (wL E a T c_waveIsFresh c_peelingIsFresh c_n_count c_n_front c_n_least c_n_window c_n_pulses c_n_lengths c_n_fractions c_n_pulseTimes c_n_pulseEnergies c_n_sound c_n_seen c_hcount c_hp c_h0_count c_h0_front c_h0_least c_h0_window c_h0_pulses c_h0_lengths c_h0_fractions c_h0_pulseTimes c_h0_pulseEnergies c_h0_sound c_h0_seen c_h1_count c_h1_front c_h1_least c_h1_window c_h1_pulses c_h1_lengths c_h1_fractions c_h1_pulseTimes c_h1_pulseEnergies c_h1_sound c_h1_seen c_h2_count c_h2_front c_h2_least c_h2_window c_h2_pulses c_h2_lengths c_h2_fractions c_h2_pulseTimes c_h2_pulseEnergies c_h2_sound c_h2_seen c_s_length c_s_command c_s_position c_s_fault c_s_bytes c_s_numbers c_w_near c_w_far c_w_echoes c_w_totals c_p_result c_p_endTime c_q_count c_q_front c_q_least c_q_window c_q_pulses c_q_lengths c_q_fractions c_q_pulseTimes c_q_pulseEnergies c_t_near c_t_far c_t_echoes c_t_totals) [] 109 [] := by
  unfold Cf_W_setOut_w_n_109 at hf
  cases hf
  exact v_vret C hret dX8_setOut_109
def Cf_W_setOut_w_n (c_n_least : Int32) (c_n_window : Int32) (c_n_lengths : Nat → Int32) (c_w_near : Nat → Nat → Int64) (c_w_far : Nat → Nat → Int64) (c_w_totals : Nat → Int64) (x2 : Int32) (x3 : Int32) (x4 : Int32) (x5 : Int64) : Option ((Nat → Nat → Int64) × (Nat → Nat → Int64) × (Nat → Int64)) :=
  if x5 = (0 : Int64) then
    some (c_w_near, c_w_far, c_w_totals)
  else
    chk (inb x2 8) <| nm (c_n_lengths x2.toNatClampNeg) fun z15 =>
    nm (x4 + z15) fun z16 =>
    nm (c_n_least.toInt64) fun z25 =>
    if z25 ≤ x5 then
      if z16 ≤ c_n_window then
        if x3 = 0 then
          chk (inb x2 9) <|
          chk (inb z16 201) <| nm (va_up c_w_far x2.toNatClampNeg (vp_updL (c_w_far x2.toNatClampNeg) z16.toNatClampNeg x5)) fun w_far_108 =>
          Cf_W_setOut_w_n_109 c_w_near w_far_108 c_w_totals
        else
          nm (x2 + (1 : Int32)) fun z88 =>
          chk (inb z88 9) <|
          chk (inb z16 201) <| nm (va_up c_w_near z88.toNatClampNeg (vp_updL (c_w_near z88.toNatClampNeg) z16.toNatClampNeg x5)) fun w_near_94 =>
          Cf_W_setOut_w_n_109 w_near_94 c_w_far c_w_totals
      else
        chk (inb (4 : Int32) 9) <| nm (c_w_totals (4 : Int32).toNatClampNeg) fun z70 =>
        nm (z70 + x5) fun z73 =>
        chk (inb (4 : Int32) 9) <| nm (vp_updL c_w_totals (4 : Int32).toNatClampNeg z73) fun w_totals_74 =>
        Cf_W_setOut_w_n_109 c_w_near c_w_far w_totals_74
    else
      chk (inb (3 : Int32) 9) <| nm (c_w_totals (3 : Int32).toNatClampNeg) fun z36 =>
      nm (z36 + x5) fun z39 =>
      chk (inb (3 : Int32) 9) <| nm (vp_updL c_w_totals (3 : Int32).toNatClampNeg z39) fun w_totals_40 =>
      chk (inb (6 : Int32) 9) <| nm (w_totals_40 (6 : Int32).toNatClampNeg) fun z48 =>
      nm (z48 + (1 : Int64)) fun z50 =>
      chk (inb (6 : Int32) 9) <| nm (vp_updL w_totals_40 (6 : Int32).toNatClampNeg z50) fun w_totals_51 =>
      Cf_W_setOut_w_n_109 c_w_near c_w_far w_totals_51
set_option maxRecDepth 100000 in
set_option maxHeartbeats 4000000 in
theorem Cb_W_setOut_w_n (C : Cx X (SFG E) T cX8_setOut RX8 none 8 0 0) {x2 : Int32} {x3 : Int32} {x4 : Int32} {x5 : Int64} {o_w_near : Nat → Nat → Int64} {o_w_far : Nat → Nat → Int64} {o_w_totals : Nat → Int64} (hret : RetOK X 0 0 none (wL E a T c_waveIsFresh c_peelingIsFresh c_n_count c_n_front c_n_least c_n_window c_n_pulses c_n_lengths c_n_fractions c_n_pulseTimes c_n_pulseEnergies c_n_sound c_n_seen c_hcount c_hp c_h0_count c_h0_front c_h0_least c_h0_window c_h0_pulses c_h0_lengths c_h0_fractions c_h0_pulseTimes c_h0_pulseEnergies c_h0_sound c_h0_seen c_h1_count c_h1_front c_h1_least c_h1_window c_h1_pulses c_h1_lengths c_h1_fractions c_h1_pulseTimes c_h1_pulseEnergies c_h1_sound c_h1_seen c_h2_count c_h2_front c_h2_least c_h2_window c_h2_pulses c_h2_lengths c_h2_fractions c_h2_pulseTimes c_h2_pulseEnergies c_h2_sound c_h2_seen c_s_length c_s_command c_s_position c_s_fault c_s_bytes c_s_numbers o_w_near o_w_far c_w_echoes o_w_totals c_p_result c_p_endTime c_q_count c_q_front c_q_least c_q_window c_q_pulses c_q_lengths c_q_fractions c_q_pulseTimes c_q_pulseEnergies c_t_near c_t_far c_t_echoes c_t_totals)) (hf : Cf_W_setOut_w_n c_n_least c_n_window c_n_lengths c_w_near c_w_far c_w_totals x2 x3 x4 x5 = some (o_w_near, o_w_far, o_w_totals)) : V X 0 0 (wL E a T c_waveIsFresh c_peelingIsFresh c_n_count c_n_front c_n_least c_n_window c_n_pulses c_n_lengths c_n_fractions c_n_pulseTimes c_n_pulseEnergies c_n_sound c_n_seen c_hcount c_hp c_h0_count c_h0_front c_h0_least c_h0_window c_h0_pulses c_h0_lengths c_h0_fractions c_h0_pulseTimes c_h0_pulseEnergies c_h0_sound c_h0_seen c_h1_count c_h1_front c_h1_least c_h1_window c_h1_pulses c_h1_lengths c_h1_fractions c_h1_pulseTimes c_h1_pulseEnergies c_h1_sound c_h1_seen c_h2_count c_h2_front c_h2_least c_h2_window c_h2_pulses c_h2_lengths c_h2_fractions c_h2_pulseTimes c_h2_pulseEnergies c_h2_sound c_h2_seen c_s_length c_s_command c_s_position c_s_fault c_s_bytes c_s_numbers c_w_near c_w_far c_w_echoes c_w_totals c_p_result c_p_endTime c_q_count c_q_front c_q_least c_q_window c_q_pulses c_q_lengths c_q_fractions c_q_pulseTimes c_q_pulseEnergies c_t_near c_t_far c_t_echoes c_t_totals) [(0, .ref (a 38)), (1, .ref (a 2)), (2, .int x2), (3, .int x3), (4, .int x4), (5, .long x5)] 0 [] := by
  unfold Cf_W_setOut_w_n at hf
  refine v_lload 5 C dX8_setOut_0 rfl ?_
  refine v_lconst (v := 0) C dX8_setOut_2 (by decide) ?_
  refine v_lcmp_ne 8 C dX8_setOut_3 dX8_setOut_4 (by decide) hf (fun c hf => ?_) (fun c hf => ?_)
  · cases hf
    exact v_vret C hret dX8_setOut_7
  · refine v_iload 4 C dX8_setOut_8 rfl ?_
    refine v_aload_n 1 C dX8_setOut_10 rfl rfl ?_
    refine Cg_2_lengths wfieldLink_RX8_93_LineEchoes_Bench_lengths_I C dX8_setOut_11 ?_
    refine v_iload_n 2 C dX8_setOut_14 rfl rfl ?_
    refine Cal_3 C dX8_setOut_15 hf (fun z15 hf => ?_)
    refine v_iadd C dX8_setOut_16 hf (fun z16 hf => ?_)
    refine v_istore [(0, .ref (a 38)), (1, .ref (a 2)), (2, .int x2), (3, .int x3), (5, .long x5), (7, .int z16)] [1, 2, 3, 4, 6, 0] C dX8_setOut_17 (by decide) rfl ?_
    refine v_lload 4 C dX8_setOut_19 rfl ?_
    refine v_aload_n 1 C dX8_setOut_21 rfl rfl ?_
    refine Cg_2_least wfieldLink_RX8_96_LineEchoes_Bench_least_I C dX8_setOut_22 ?_
    refine v_i2l C dX8_setOut_25 hf (fun z25 hf => ?_)
    refine v_lcmp_ge 55 C dX8_setOut_26 dX8_setOut_27 (by decide) hf (fun c hf => ?_) (fun c hf => ?_)
    · refine v_iload 5 C dX8_setOut_55 rfl ?_
      refine v_aload_n 1 C dX8_setOut_57 rfl rfl ?_
      refine Cg_2_window wfieldLink_RX8_39_LineEchoes_Bench_window_I C dX8_setOut_58 ?_
      refine v_icmp_le 78 C dX8_setOut_61 (by decide) hf (fun c hf => ?_) (fun c hf => ?_)
      · refine v_iload_n 3 C dX8_setOut_78 rfl rfl ?_
        refine v_if_eq 98 C dX8_setOut_79 (by decide) hf (fun c hf => ?_) (fun c hf => ?_)
        · refine v_aload_n 0 C dX8_setOut_98 rfl rfl ?_
          refine Cg_38_fromFar wfieldLink_RX8_16_LineEchoes_Wave_fromFar_J C dX8_setOut_99 ?_
          refine v_iload_n 2 C dX8_setOut_102 rfl rfl ?_
          refine Cao_40 C dX8_setOut_103 hf (fun hj103 hf => ?_)
          refine v_iload 5 C dX8_setOut_104 rfl ?_
          refine v_lload 4 C dX8_setOut_106 rfl ?_
          refine Crs_52 hj103 C dX8_setOut_108 hf (fun w_far_108 hf => ?_)
          refine v_lv [] [] rfl ?_
          exact Cb_W_setOut_w_n_109 C hret hf
        · refine v_aload_n 0 C dX8_setOut_82 rfl rfl ?_
          refine Cg_38_fromNear wfieldLink_RX8_11_LineEchoes_Wave_fromNear_J C dX8_setOut_83 ?_
          refine v_iload_n 2 C dX8_setOut_86 rfl rfl ?_
          refine v_iconst (v := 1) C dX8_setOut_87 (by decide) ?_
          refine v_iadd C dX8_setOut_88 hf (fun z88 hf => ?_)
          refine Cao_39 C dX8_setOut_89 hf (fun hj89 hf => ?_)
          refine v_iload 5 C dX8_setOut_90 rfl ?_
          refine v_lload 4 C dX8_setOut_92 rfl ?_
          refine Crs_43 hj89 C dX8_setOut_94 hf (fun w_near_94 hf => ?_)
          refine v_goto 109 C dX8_setOut_95 (by decide) ?_
          refine v_lv [] [] rfl ?_
          exact Cb_W_setOut_w_n_109 C hret hf
      · refine v_aload_n 0 C dX8_setOut_64 rfl rfl ?_
        refine Cg_38_totals wfieldLink_RX8_23_LineEchoes_Wave_totals_J C dX8_setOut_65 ?_
        refine v_iconst (v := 4) C dX8_setOut_68 (by decide) ?_
        refine v_dup2_11 C dX8_setOut_69 rfl rfl ?_
        refine Cal_42 C dX8_setOut_70 hf (fun z70 hf => ?_)
        refine v_lload 4 C dX8_setOut_71 rfl ?_
        refine v_ladd C dX8_setOut_73 hf (fun z73 hf => ?_)
        refine Cas_42 C dX8_setOut_74 hf (fun w_totals_74 hf => ?_)
        refine v_goto 109 C dX8_setOut_75 (by decide) ?_
        refine v_lv [] [] rfl ?_
        exact Cb_W_setOut_w_n_109 C hret hf
    · refine v_aload_n 0 C dX8_setOut_30 rfl rfl ?_
      refine Cg_38_totals wfieldLink_RX8_23_LineEchoes_Wave_totals_J C dX8_setOut_31 ?_
      refine v_iconst (v := 3) C dX8_setOut_34 (by decide) ?_
      refine v_dup2_11 C dX8_setOut_35 rfl rfl ?_
      refine Cal_42 C dX8_setOut_36 hf (fun z36 hf => ?_)
      refine v_lload 4 C dX8_setOut_37 rfl ?_
      refine v_ladd C dX8_setOut_39 hf (fun z39 hf => ?_)
      refine Cas_42 C dX8_setOut_40 hf (fun w_totals_40 hf => ?_)
      refine v_aload_n 0 C dX8_setOut_41 rfl rfl ?_
      refine Cg_38_totals wfieldLink_RX8_23_LineEchoes_Wave_totals_J C dX8_setOut_42 ?_
      refine v_bipush (v := 6) C dX8_setOut_45 (by decide) ?_
      refine v_dup2_11 C dX8_setOut_47 rfl rfl ?_
      refine Cal_42 C dX8_setOut_48 hf (fun z48 hf => ?_)
      refine v_lconst (v := 1) C dX8_setOut_49 (by decide) ?_
      refine v_ladd C dX8_setOut_50 hf (fun z50 hf => ?_)
      refine Cas_42 C dX8_setOut_51 hf (fun w_totals_51 hf => ?_)
      refine v_goto 109 C dX8_setOut_52 (by decide) ?_
      refine v_lv [] [] rfl ?_
      exact Cb_W_setOut_w_n_109 C hret hf
set_option maxRecDepth 100000 in
set_option maxHeartbeats 4000000 in
theorem Cm_W_setOut_w_n {D : va_G} {x2 : Int32} {x3 : Int32} {x4 : Int32} {x5 : Int64} {o_w_near : Nat → Nat → Int64} {o_w_far : Nat → Nat → Int64} {o_w_totals : Nat → Int64} (hf : Cf_W_setOut_w_n c_n_least c_n_window c_n_lengths c_w_near c_w_far c_w_totals x2 x3 x4 x5 = some (o_w_near, o_w_far, o_w_totals)) : MetM (SFG E) yX8_setOut cX8_setOut 8 none { frames := 0, cells := 0, slots := 0, locals := 0 } D T [.ref (a 38), .ref (a 2), .int x2, .int x3, .int x4, .long x5] (wL E a T c_waveIsFresh c_peelingIsFresh c_n_count c_n_front c_n_least c_n_window c_n_pulses c_n_lengths c_n_fractions c_n_pulseTimes c_n_pulseEnergies c_n_sound c_n_seen c_hcount c_hp c_h0_count c_h0_front c_h0_least c_h0_window c_h0_pulses c_h0_lengths c_h0_fractions c_h0_pulseTimes c_h0_pulseEnergies c_h0_sound c_h0_seen c_h1_count c_h1_front c_h1_least c_h1_window c_h1_pulses c_h1_lengths c_h1_fractions c_h1_pulseTimes c_h1_pulseEnergies c_h1_sound c_h1_seen c_h2_count c_h2_front c_h2_least c_h2_window c_h2_pulses c_h2_lengths c_h2_fractions c_h2_pulseTimes c_h2_pulseEnergies c_h2_sound c_h2_seen c_s_length c_s_command c_s_position c_s_fault c_s_bytes c_s_numbers c_w_near c_w_far c_w_echoes c_w_totals c_p_result c_p_endTime c_q_count c_q_front c_q_least c_q_window c_q_pulses c_q_lengths c_q_fractions c_q_pulseTimes c_q_pulseEnergies c_t_near c_t_far c_t_echoes c_t_totals) none (wL E a T c_waveIsFresh c_peelingIsFresh c_n_count c_n_front c_n_least c_n_window c_n_pulses c_n_lengths c_n_fractions c_n_pulseTimes c_n_pulseEnergies c_n_sound c_n_seen c_hcount c_hp c_h0_count c_h0_front c_h0_least c_h0_window c_h0_pulses c_h0_lengths c_h0_fractions c_h0_pulseTimes c_h0_pulseEnergies c_h0_sound c_h0_seen c_h1_count c_h1_front c_h1_least c_h1_window c_h1_pulses c_h1_lengths c_h1_fractions c_h1_pulseTimes c_h1_pulseEnergies c_h1_sound c_h1_seen c_h2_count c_h2_front c_h2_least c_h2_window c_h2_pulses c_h2_lengths c_h2_fractions c_h2_pulseTimes c_h2_pulseEnergies c_h2_sound c_h2_seen c_s_length c_s_command c_s_position c_s_fault c_s_bytes c_s_numbers o_w_near o_w_far c_w_echoes o_w_totals c_p_result c_p_endTime c_q_count c_q_front c_q_least c_q_window c_q_pulses c_q_lengths c_q_fractions c_q_pulseTimes c_q_pulseEnergies c_t_near c_t_far c_t_echoes c_t_totals) :=
  MetM.of [(0, .ref (a 38)), (1, .ref (a 2)), (2, .int x2), (3, .int x3), (4, .int x4), (5, .long x5)] (by decide) (Nat.le_of_ble_eq_true rfl) rfl (fun X C hret => Cb_W_setOut_w_n C hret hf)
def Cf_W_meetFront_w_n_82 (rec : Int64 → Int32 → Int32 → Option (Int64 × Int32)) (x2 : Int32) (x5 : Int64) (x7 : Int32) (x8 : Int32) : Option (Int64 × Int32) :=
  nm (x8 + (1 : Int32)) fun x8_82 =>
  rec x5 x7 x8_82
set_option maxRecDepth 100000 in
set_option maxHeartbeats 4000000 in
theorem Cb_W_meetFront_w_n_82 (C : Cx X (SFG E) T cX8_meetFront RX8 none 9 1 27) {rec : Int64 → Int32 → Int32 → Option (Int64 × Int32)} {x2 : Int32} {x5 : Int64} {x7 : Int32} {x8 : Int32} {y5 : Int64} {y7 : Int32} (hrec : ∀ (x5 : Int64) (x7 : Int32) (x8 : Int32), rec x5 x7 x8 = some (y5, y7) → V X 0 0 (wL E a T c_waveIsFresh c_peelingIsFresh c_n_count c_n_front c_n_least c_n_window c_n_pulses c_n_lengths c_n_fractions c_n_pulseTimes c_n_pulseEnergies c_n_sound c_n_seen c_hcount c_hp c_h0_count c_h0_front c_h0_least c_h0_window c_h0_pulses c_h0_lengths c_h0_fractions c_h0_pulseTimes c_h0_pulseEnergies c_h0_sound c_h0_seen c_h1_count c_h1_front c_h1_least c_h1_window c_h1_pulses c_h1_lengths c_h1_fractions c_h1_pulseTimes c_h1_pulseEnergies c_h1_sound c_h1_seen c_h2_count c_h2_front c_h2_least c_h2_window c_h2_pulses c_h2_lengths c_h2_fractions c_h2_pulseTimes c_h2_pulseEnergies c_h2_sound c_h2_seen c_s_length c_s_command c_s_position c_s_fault c_s_bytes c_s_numbers c_w_near c_w_far c_w_echoes c_w_totals c_p_result c_p_endTime c_q_count c_q_front c_q_least c_q_window c_q_pulses c_q_lengths c_q_fractions c_q_pulseTimes c_q_pulseEnergies c_t_near c_t_far c_t_echoes c_t_totals) [(0, .ref (a 38)), (1, .ref (a 2)), (2, .int x2), (5, .long x5), (7, .int x7), (8, .int x8)] 46 []) (hk : V X 0 0 (wL E a T c_waveIsFresh c_peelingIsFresh c_n_count c_n_front c_n_least c_n_window c_n_pulses c_n_lengths c_n_fractions c_n_pulseTimes c_n_pulseEnergies c_n_sound c_n_seen c_hcount c_hp c_h0_count c_h0_front c_h0_least c_h0_window c_h0_pulses c_h0_lengths c_h0_fractions c_h0_pulseTimes c_h0_pulseEnergies c_h0_sound c_h0_seen c_h1_count c_h1_front c_h1_least c_h1_window c_h1_pulses c_h1_lengths c_h1_fractions c_h1_pulseTimes c_h1_pulseEnergies c_h1_sound c_h1_seen c_h2_count c_h2_front c_h2_least c_h2_window c_h2_pulses c_h2_lengths c_h2_fractions c_h2_pulseTimes c_h2_pulseEnergies c_h2_sound c_h2_seen c_s_length c_s_command c_s_position c_s_fault c_s_bytes c_s_numbers c_w_near c_w_far c_w_echoes c_w_totals c_p_result c_p_endTime c_q_count c_q_front c_q_least c_q_window c_q_pulses c_q_lengths c_q_fractions c_q_pulseTimes c_q_pulseEnergies c_t_near c_t_far c_t_echoes c_t_totals) [(0, .ref (a 38)), (1, .ref (a 2)), (2, .int x2), (5, .long y5), (7, .int y7)] 88 []) (hf : Cf_W_meetFront_w_n_82 rec x2 x5 x7 x8 = some (y5, y7)) : V X 0 0 (wL E a T c_waveIsFresh c_peelingIsFresh c_n_count c_n_front c_n_least c_n_window c_n_pulses c_n_lengths c_n_fractions c_n_pulseTimes c_n_pulseEnergies c_n_sound c_n_seen c_hcount c_hp c_h0_count c_h0_front c_h0_least c_h0_window c_h0_pulses c_h0_lengths c_h0_fractions c_h0_pulseTimes c_h0_pulseEnergies c_h0_sound c_h0_seen c_h1_count c_h1_front c_h1_least c_h1_window c_h1_pulses c_h1_lengths c_h1_fractions c_h1_pulseTimes c_h1_pulseEnergies c_h1_sound c_h1_seen c_h2_count c_h2_front c_h2_least c_h2_window c_h2_pulses c_h2_lengths c_h2_fractions c_h2_pulseTimes c_h2_pulseEnergies c_h2_sound c_h2_seen c_s_length c_s_command c_s_position c_s_fault c_s_bytes c_s_numbers c_w_near c_w_far c_w_echoes c_w_totals c_p_result c_p_endTime c_q_count c_q_front c_q_least c_q_window c_q_pulses c_q_lengths c_q_fractions c_q_pulseTimes c_q_pulseEnergies c_t_near c_t_far c_t_echoes c_t_totals) [(0, .ref (a 38)), (1, .ref (a 2)), (2, .int x2), (5, .long x5), (7, .int x7), (8, .int x8)] 82 [] := by
  unfold Cf_W_meetFront_w_n_82 at hf
  refine v_iinc (fun x8_82 => [(0, .ref (a 38)), (1, .ref (a 2)), (2, .int x2), (5, .long x5), (7, .int x7), (8, .int x8_82)]) [1, 2, 3, 4, 5, 0] C dX8_meetFront_82 (j := 5) rfl (dv := 1) (by decide) (by decide) (fun _ => rfl) hf (fun x8_82 hf => ?_)
  refine v_goto 46 C dX8_meetFront_85 (by decide) ?_
  exact hrec _ _ _ hf
def Cl_W_meetFront_w_n_46 (c_n_pulses : Int32) (c_n_pulseTimes : Nat → Int32) (c_n_pulseEnergies : Nat → Int32) (x2 : Int32) : Nat → Int64 → Int32 → Int32 → Option (Int64 × Int32)
  | 0, _, _, _ => none
  | n + 1, x5, x7, x8 =>
    if c_n_pulses ≤ x8 then
      some (x5, x7)
    else
      chk (inb x8 4) <| nm (c_n_pulseTimes x8.toNatClampNeg) fun z61 =>
      if z61 = x2 then
        chk (inb x8 4) <| nm (c_n_pulseEnergies x8.toNatClampNeg) fun z74 =>
        nm (z74.toInt64) fun z75 =>
        nm (x5 + z75) fun z76 =>
        nm (x7 + (1 : Int32)) fun x7_79 =>
        Cf_W_meetFront_w_n_82 (Cl_W_meetFront_w_n_46 c_n_pulses c_n_pulseTimes c_n_pulseEnergies x2 n) x2 z76 x7_79 x8
      else
        Cf_W_meetFront_w_n_82 (Cl_W_meetFront_w_n_46 c_n_pulses c_n_pulseTimes c_n_pulseEnergies x2 n) x2 x5 x7 x8
set_option maxRecDepth 100000 in
set_option maxHeartbeats 4000000 in
theorem Ck_W_meetFront_w_n_46 (C : Cx X (SFG E) T cX8_meetFront RX8 none 9 1 27) {x2 : Int32} {y5 : Int64} {y7 : Int32} (hk : V X 0 0 (wL E a T c_waveIsFresh c_peelingIsFresh c_n_count c_n_front c_n_least c_n_window c_n_pulses c_n_lengths c_n_fractions c_n_pulseTimes c_n_pulseEnergies c_n_sound c_n_seen c_hcount c_hp c_h0_count c_h0_front c_h0_least c_h0_window c_h0_pulses c_h0_lengths c_h0_fractions c_h0_pulseTimes c_h0_pulseEnergies c_h0_sound c_h0_seen c_h1_count c_h1_front c_h1_least c_h1_window c_h1_pulses c_h1_lengths c_h1_fractions c_h1_pulseTimes c_h1_pulseEnergies c_h1_sound c_h1_seen c_h2_count c_h2_front c_h2_least c_h2_window c_h2_pulses c_h2_lengths c_h2_fractions c_h2_pulseTimes c_h2_pulseEnergies c_h2_sound c_h2_seen c_s_length c_s_command c_s_position c_s_fault c_s_bytes c_s_numbers c_w_near c_w_far c_w_echoes c_w_totals c_p_result c_p_endTime c_q_count c_q_front c_q_least c_q_window c_q_pulses c_q_lengths c_q_fractions c_q_pulseTimes c_q_pulseEnergies c_t_near c_t_far c_t_echoes c_t_totals) [(0, .ref (a 38)), (1, .ref (a 2)), (2, .int x2), (5, .long y5), (7, .int y7)] 88 []) : ∀ (n : Nat) (x5 : Int64) (x7 : Int32) (x8 : Int32), Cl_W_meetFront_w_n_46 c_n_pulses c_n_pulseTimes c_n_pulseEnergies x2 n x5 x7 x8 = some (y5, y7) → V X 0 0 (wL E a T c_waveIsFresh c_peelingIsFresh c_n_count c_n_front c_n_least c_n_window c_n_pulses c_n_lengths c_n_fractions c_n_pulseTimes c_n_pulseEnergies c_n_sound c_n_seen c_hcount c_hp c_h0_count c_h0_front c_h0_least c_h0_window c_h0_pulses c_h0_lengths c_h0_fractions c_h0_pulseTimes c_h0_pulseEnergies c_h0_sound c_h0_seen c_h1_count c_h1_front c_h1_least c_h1_window c_h1_pulses c_h1_lengths c_h1_fractions c_h1_pulseTimes c_h1_pulseEnergies c_h1_sound c_h1_seen c_h2_count c_h2_front c_h2_least c_h2_window c_h2_pulses c_h2_lengths c_h2_fractions c_h2_pulseTimes c_h2_pulseEnergies c_h2_sound c_h2_seen c_s_length c_s_command c_s_position c_s_fault c_s_bytes c_s_numbers c_w_near c_w_far c_w_echoes c_w_totals c_p_result c_p_endTime c_q_count c_q_front c_q_least c_q_window c_q_pulses c_q_lengths c_q_fractions c_q_pulseTimes c_q_pulseEnergies c_t_near c_t_far c_t_echoes c_t_totals) [(0, .ref (a 38)), (1, .ref (a 2)), (2, .int x2), (5, .long x5), (7, .int x7), (8, .int x8)] 46 [] := by
  intro n
  induction n with
  | zero =>
    intro _ _ _ hf
    cases hf
  | succ n hrec =>
    intro x5 x7 x8 hf
    rw [Cl_W_meetFront_w_n_46] at hf
    refine v_iload 5 C dX8_meetFront_46 rfl ?_
    refine v_aload_n 1 C dX8_meetFront_48 rfl rfl ?_
    refine Cg_2_pulses wfieldLink_RX8_59_LineEchoes_Bench_pulses_I C dX8_meetFront_49 ?_
    refine v_icmp_ge 88 C dX8_meetFront_52 (by decide) hf (fun c hf => ?_) (fun c hf => ?_)
    · refine v_lv [(0, .ref (a 38)), (1, .ref (a 2)), (2, .int x2), (5, .long x5), (7, .int x7)] [0, 1, 2, 3, 4] rfl ?_
      cases hf
      exact hk
    · refine v_aload_n 1 C dX8_meetFront_55 rfl rfl ?_
      refine Cg_2_pulseTimes wfieldLink_RX8_62_LineEchoes_Bench_pulseTimes_I C dX8_meetFront_56 ?_
      refine v_iload 5 C dX8_meetFront_59 rfl ?_
      refine Cal_5 C dX8_meetFront_61 hf (fun z61 hf => ?_)
      refine v_iload_n 2 C dX8_meetFront_62 rfl rfl ?_
      refine v_icmp_ne 82 C dX8_meetFront_63 (by decide) hf (fun c hf => ?_) (fun c hf => ?_)
      · refine v_lload 3 C dX8_meetFront_66 rfl ?_
        refine v_aload_n 1 C dX8_meetFront_68 rfl rfl ?_
        refine Cg_2_pulseEnergies wfieldLink_RX8_66_LineEchoes_Bench_pulseEnergies_I C dX8_meetFront_69 ?_
        refine v_iload 5 C dX8_meetFront_72 rfl ?_
        refine Cal_6 C dX8_meetFront_74 hf (fun z74 hf => ?_)
        refine v_i2l C dX8_meetFront_75 hf (fun z75 hf => ?_)
        refine v_ladd C dX8_meetFront_76 hf (fun z76 hf => ?_)
        refine v_lstore [(0, .ref (a 38)), (1, .ref (a 2)), (2, .int x2), (5, .long z76), (7, .int x7), (8, .int x8)] [1, 2, 3, 0, 4, 5] C dX8_meetFront_77 (by decide) rfl ?_
        refine v_iinc (fun x7_79 => [(0, .ref (a 38)), (1, .ref (a 2)), (2, .int x2), (5, .long z76), (7, .int x7_79), (8, .int x8)]) [1, 2, 3, 4, 0, 5] C dX8_meetFront_79 (j := 4) rfl (dv := 1) (by decide) (by decide) (fun _ => rfl) hf (fun x7_79 hf => ?_)
        exact Cb_W_meetFront_w_n_82 C hrec hk hf
      · exact Cb_W_meetFront_w_n_82 C hrec hk hf
set_option maxRecDepth 100000 in
theorem Cc_W_setOut_w_n {x2 : Int32} {x3 : Int32} {x4 : Int32} {x5 : Int64} {cc : ByteArray} {own : String} {ret : Option FieldType} {nl fr lo pc ix : Nat} {lv : List (Nat × Value)} {rest : List Value} {β : Type} {K : ((Nat → Nat → Int64) × (Nat → Nat → Int64) × (Nat → Int64)) → Option β} {oo : β} (hl : Cond.methodLink own ix yX8_setOut ∈ wsG) (C : Cx X (SFG E) T cc own ret nl fr lo) (hdg : decode cc pc = .ok (.invokevirtual ix, 3)) (hroom : 0 + 1 ≤ fr ∧ 8 + (8 + 11) + 0 ≤ lo) (hst : (rest.map fun v => v.category).sum ≤ 8) (hf : bd (Cf_W_setOut_w_n c_n_least c_n_window c_n_lengths c_w_near c_w_far c_w_totals x2 x3 x4 x5) K = some oo) (kk : ∀ (o_w_near : Nat → Nat → Int64) (o_w_far : Nat → Nat → Int64) (o_w_totals : Nat → Int64), K (o_w_near, o_w_far, o_w_totals) = some oo → V X 0 0 (wL E a T c_waveIsFresh c_peelingIsFresh c_n_count c_n_front c_n_least c_n_window c_n_pulses c_n_lengths c_n_fractions c_n_pulseTimes c_n_pulseEnergies c_n_sound c_n_seen c_hcount c_hp c_h0_count c_h0_front c_h0_least c_h0_window c_h0_pulses c_h0_lengths c_h0_fractions c_h0_pulseTimes c_h0_pulseEnergies c_h0_sound c_h0_seen c_h1_count c_h1_front c_h1_least c_h1_window c_h1_pulses c_h1_lengths c_h1_fractions c_h1_pulseTimes c_h1_pulseEnergies c_h1_sound c_h1_seen c_h2_count c_h2_front c_h2_least c_h2_window c_h2_pulses c_h2_lengths c_h2_fractions c_h2_pulseTimes c_h2_pulseEnergies c_h2_sound c_h2_seen c_s_length c_s_command c_s_position c_s_fault c_s_bytes c_s_numbers o_w_near o_w_far c_w_echoes o_w_totals c_p_result c_p_endTime c_q_count c_q_front c_q_least c_q_window c_q_pulses c_q_lengths c_q_fractions c_q_pulseTimes c_q_pulseEnergies c_t_near c_t_far c_t_echoes c_t_totals) lv (pc + 3) rest) : V X 0 0 (wL E a T c_waveIsFresh c_peelingIsFresh c_n_count c_n_front c_n_least c_n_window c_n_pulses c_n_lengths c_n_fractions c_n_pulseTimes c_n_pulseEnergies c_n_sound c_n_seen c_hcount c_hp c_h0_count c_h0_front c_h0_least c_h0_window c_h0_pulses c_h0_lengths c_h0_fractions c_h0_pulseTimes c_h0_pulseEnergies c_h0_sound c_h0_seen c_h1_count c_h1_front c_h1_least c_h1_window c_h1_pulses c_h1_lengths c_h1_fractions c_h1_pulseTimes c_h1_pulseEnergies c_h1_sound c_h1_seen c_h2_count c_h2_front c_h2_least c_h2_window c_h2_pulses c_h2_lengths c_h2_fractions c_h2_pulseTimes c_h2_pulseEnergies c_h2_sound c_h2_seen c_s_length c_s_command c_s_position c_s_fault c_s_bytes c_s_numbers c_w_near c_w_far c_w_echoes c_w_totals c_p_result c_p_endTime c_q_count c_q_front c_q_least c_q_window c_q_pulses c_q_lengths c_q_fractions c_q_pulseTimes c_q_pulseEnergies c_t_near c_t_far c_t_echoes c_t_totals) lv pc (.long x5 :: .int x4 :: .int x3 :: .int x2 :: .ref (a 2) :: .ref (a 38) :: rest) := by
  obtain ⟨⟨o_w_near, o_w_far, o_w_totals⟩, hc, hk⟩ := bd_some hf
  exact v_callV (As := [.ref (a 2), .int x2, .int x3, .int x4, .long x5]) (rest := rest) (q0 := 38) 5 C (CapOK.z X) (fun D => Cm_W_setOut_w_n hc) (goodV hl winstanceMethod_yX8_setOut wselects_RX8_yX8_setOut_yX8_setOut winitialized_RX8 wcode_yX8_setOut_cX8_setOut_8_none) (by decide +kernel) hroom ⟨rfl, rfl⟩ rfl rfl rfl hst hdg (kk o_w_near o_w_far o_w_totals hk)
def Cf_W_meetFront_w_n_104 (c_n_least : Int32) (c_n_window : Int32) (c_n_lengths : Nat → Int32) (c_w_near : Nat → Nat → Int64) (c_w_far : Nat → Nat → Int64) (c_w_echoes : Nat → Int64) (c_w_totals : Nat → Int64) (x2 : Int32) (x5 : Int64) : Option ((Nat → Nat → Int64) × (Nat → Nat → Int64) × (Nat → Int64) × (Nat → Int64)) :=
  bd (Cf_W_setOut_w_n c_n_least c_n_window c_n_lengths c_w_near c_w_far c_w_totals (0 : Int32) (1 : Int32) x2 x5) fun (w_near_111, w_far_111, w_totals_111) =>
  some (w_near_111, w_far_111, c_w_echoes, w_totals_111)
set_option maxRecDepth 100000 in
set_option maxHeartbeats 4000000 in
theorem Cb_W_meetFront_w_n_104 (C : Cx X (SFG E) T cX8_meetFront RX8 none 9 1 27) {x2 : Int32} {x5 : Int64} {o_w_near : Nat → Nat → Int64} {o_w_far : Nat → Nat → Int64} {o_w_echoes : Nat → Int64} {o_w_totals : Nat → Int64} (hret : RetOK X 0 0 none (wL E a T c_waveIsFresh c_peelingIsFresh c_n_count c_n_front c_n_least c_n_window c_n_pulses c_n_lengths c_n_fractions c_n_pulseTimes c_n_pulseEnergies c_n_sound c_n_seen c_hcount c_hp c_h0_count c_h0_front c_h0_least c_h0_window c_h0_pulses c_h0_lengths c_h0_fractions c_h0_pulseTimes c_h0_pulseEnergies c_h0_sound c_h0_seen c_h1_count c_h1_front c_h1_least c_h1_window c_h1_pulses c_h1_lengths c_h1_fractions c_h1_pulseTimes c_h1_pulseEnergies c_h1_sound c_h1_seen c_h2_count c_h2_front c_h2_least c_h2_window c_h2_pulses c_h2_lengths c_h2_fractions c_h2_pulseTimes c_h2_pulseEnergies c_h2_sound c_h2_seen c_s_length c_s_command c_s_position c_s_fault c_s_bytes c_s_numbers o_w_near o_w_far o_w_echoes o_w_totals c_p_result c_p_endTime c_q_count c_q_front c_q_least c_q_window c_q_pulses c_q_lengths c_q_fractions c_q_pulseTimes c_q_pulseEnergies c_t_near c_t_far c_t_echoes c_t_totals)) (hf : Cf_W_meetFront_w_n_104 c_n_least c_n_window c_n_lengths c_w_near c_w_far c_w_echoes c_w_totals x2 x5 = some (o_w_near, o_w_far, o_w_echoes, o_w_totals)) : V X 0 0 (wL E a T c_waveIsFresh c_peelingIsFresh c_n_count c_n_front c_n_least c_n_window c_n_pulses c_n_lengths c_n_fractions c_n_pulseTimes c_n_pulseEnergies c_n_sound c_n_seen c_hcount c_hp c_h0_count c_h0_front c_h0_least c_h0_window c_h0_pulses c_h0_lengths c_h0_fractions c_h0_pulseTimes c_h0_pulseEnergies c_h0_sound c_h0_seen c_h1_count c_h1_front c_h1_least c_h1_window c_h1_pulses c_h1_lengths c_h1_fractions c_h1_pulseTimes c_h1_pulseEnergies c_h1_sound c_h1_seen c_h2_count c_h2_front c_h2_least c_h2_window c_h2_pulses c_h2_lengths c_h2_fractions c_h2_pulseTimes c_h2_pulseEnergies c_h2_sound c_h2_seen c_s_length c_s_command c_s_position c_s_fault c_s_bytes c_s_numbers c_w_near c_w_far c_w_echoes c_w_totals c_p_result c_p_endTime c_q_count c_q_front c_q_least c_q_window c_q_pulses c_q_lengths c_q_fractions c_q_pulseTimes c_q_pulseEnergies c_t_near c_t_far c_t_echoes c_t_totals) [(0, .ref (a 38)), (1, .ref (a 2)), (2, .int x2), (5, .long x5)] 104 [] := by
  unfold Cf_W_meetFront_w_n_104 at hf
  refine v_aload_n 0 C dX8_meetFront_104 rfl rfl ?_
  refine v_aload_n 1 C dX8_meetFront_105 rfl rfl ?_
  refine v_iconst (v := 0) C dX8_meetFront_106 (by decide) ?_
  refine v_iconst (v := 1) C dX8_meetFront_107 (by decide) ?_
  refine v_iload_n 2 C dX8_meetFront_108 rfl rfl ?_
  refine v_lload 3 C dX8_meetFront_109 rfl ?_
  refine Cc_W_setOut_w_n wmethodLink_RX8_82_yX8_setOut C dX8_meetFront_111 (by decide) (Nat.le_of_ble_eq_true rfl) hf (fun w_near_111 w_far_111 w_totals_111 hf => ?_)
  cases hf
  exact v_vret C hret dX8_meetFront_114
end CM0
