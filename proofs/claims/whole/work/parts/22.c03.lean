section CM3
variable {X : CxT} {G : SG} {T : Nat → ClassId} {E : Nat → Nat → Nat} {a : Nat → Nat} {w : va_W} {c_waveIsFresh : Int32} {c_peelingIsFresh : Int32} {c_n_count : Int32} {c_n_front : Int32} {c_n_least : Int32} {c_n_window : Int32} {c_n_pulses : Int32} {c_n_lengths : Nat → Int32} {c_n_fractions : Nat → Int32} {c_n_pulseTimes : Nat → Int32} {c_n_pulseEnergies : Nat → Int32} {c_n_sound : Nat → Int64} {c_n_seen : Nat → Int64} {c_hcount : Int32} {c_hp : Nat → Nat} {c_h0_count : Int32} {c_h0_front : Int32} {c_h0_least : Int32} {c_h0_window : Int32} {c_h0_pulses : Int32} {c_h0_lengths : Nat → Int32} {c_h0_fractions : Nat → Int32} {c_h0_pulseTimes : Nat → Int32} {c_h0_pulseEnergies : Nat → Int32} {c_h0_sound : Nat → Int64} {c_h0_seen : Nat → Int64} {c_h1_count : Int32} {c_h1_front : Int32} {c_h1_least : Int32} {c_h1_window : Int32} {c_h1_pulses : Int32} {c_h1_lengths : Nat → Int32} {c_h1_fractions : Nat → Int32} {c_h1_pulseTimes : Nat → Int32} {c_h1_pulseEnergies : Nat → Int32} {c_h1_sound : Nat → Int64} {c_h1_seen : Nat → Int64} {c_h2_count : Int32} {c_h2_front : Int32} {c_h2_least : Int32} {c_h2_window : Int32} {c_h2_pulses : Int32} {c_h2_lengths : Nat → Int32} {c_h2_fractions : Nat → Int32} {c_h2_pulseTimes : Nat → Int32} {c_h2_pulseEnergies : Nat → Int32} {c_h2_sound : Nat → Int64} {c_h2_seen : Nat → Int64} {c_s_length : Int32} {c_s_command : Nat} {c_s_position : Int32} {c_s_fault : Int32} {c_s_bytes : Nat → Int32} {c_s_numbers : Nat → Int32} {c_w_near : Nat → Nat → Int64} {c_w_far : Nat → Nat → Int64} {c_w_echoes : Nat → Int64} {c_w_totals : Nat → Int64} {c_p_result : Int32} {c_p_endTime : Int32} {c_q_count : Int32} {c_q_front : Int32} {c_q_least : Int32} {c_q_window : Int32} {c_q_pulses : Int32} {c_q_lengths : Nat → Int32} {c_q_fractions : Nat → Int32} {c_q_pulseTimes : Nat → Int32} {c_q_pulseEnergies : Nat → Int32} {c_t_near : Nat → Nat → Int64} {c_t_far : Nat → Nat → Int64} {c_t_echoes : Nat → Int64} {c_t_totals : Nat → Int64}
def Cf_P_energyBeyondEnd_peel (c_q_count : Int32) (c_q_least : Int32) (c_q_fractions : Nat → Int32) (c_q_pulseEnergies : Nat → Int32) (c_t_near : Nat → Nat → Int64) (x1 : Int32) : Option Int64 :=
  if c_q_count = 0 then
    chk (inb (0 : Int32) 4) <| nm (c_q_pulseEnergies (0 : Int32).toNatClampNeg) fun z19 =>
    nm (z19.toInt64) fun z20 =>
    bd (Cf_P_kept_peel c_q_least z20) fun r21 =>
    some r21
  else
    chk (inb c_q_count 9) <|
    chk (inb x1 201) <| nm (c_t_near c_q_count.toNatClampNeg x1.toNatClampNeg) fun z41 =>
    nm (c_q_count - (1 : Int32)) fun z61 =>
    chk (inb z61 8) <| nm (c_q_fractions z61.toNatClampNeg) fun z62 =>
    bd (Cf_L_turnedBack z41 z62) fun r63 =>
    nm (z41 - r63) fun z66 =>
    bd (Cf_P_kept_peel c_q_least z66) fun r67 =>
    some r67
set_option maxRecDepth 100000 in
set_option maxHeartbeats 4000000 in
theorem Cb_P_energyBeyondEnd_peel (C : Cx X (SFG E) T cX4_energyBeyondEnd RX4 (some .long) 4 1 22) {x1 : Int32} {r : Int64} (hret : RetOK X 0 0 (some (.long r)) (wL E a T c_waveIsFresh c_peelingIsFresh c_n_count c_n_front c_n_least c_n_window c_n_pulses c_n_lengths c_n_fractions c_n_pulseTimes c_n_pulseEnergies c_n_sound c_n_seen c_hcount c_hp c_h0_count c_h0_front c_h0_least c_h0_window c_h0_pulses c_h0_lengths c_h0_fractions c_h0_pulseTimes c_h0_pulseEnergies c_h0_sound c_h0_seen c_h1_count c_h1_front c_h1_least c_h1_window c_h1_pulses c_h1_lengths c_h1_fractions c_h1_pulseTimes c_h1_pulseEnergies c_h1_sound c_h1_seen c_h2_count c_h2_front c_h2_least c_h2_window c_h2_pulses c_h2_lengths c_h2_fractions c_h2_pulseTimes c_h2_pulseEnergies c_h2_sound c_h2_seen c_s_length c_s_command c_s_position c_s_fault c_s_bytes c_s_numbers c_w_near c_w_far c_w_echoes c_w_totals c_p_result c_p_endTime c_q_count c_q_front c_q_least c_q_window c_q_pulses c_q_lengths c_q_fractions c_q_pulseTimes c_q_pulseEnergies c_t_near c_t_far c_t_echoes c_t_totals)) (hf : Cf_P_energyBeyondEnd_peel c_q_count c_q_least c_q_fractions c_q_pulseEnergies c_t_near x1 = some r) : V X 0 0 (wL E a T c_waveIsFresh c_peelingIsFresh c_n_count c_n_front c_n_least c_n_window c_n_pulses c_n_lengths c_n_fractions c_n_pulseTimes c_n_pulseEnergies c_n_sound c_n_seen c_hcount c_hp c_h0_count c_h0_front c_h0_least c_h0_window c_h0_pulses c_h0_lengths c_h0_fractions c_h0_pulseTimes c_h0_pulseEnergies c_h0_sound c_h0_seen c_h1_count c_h1_front c_h1_least c_h1_window c_h1_pulses c_h1_lengths c_h1_fractions c_h1_pulseTimes c_h1_pulseEnergies c_h1_sound c_h1_seen c_h2_count c_h2_front c_h2_least c_h2_window c_h2_pulses c_h2_lengths c_h2_fractions c_h2_pulseTimes c_h2_pulseEnergies c_h2_sound c_h2_seen c_s_length c_s_command c_s_position c_s_fault c_s_bytes c_s_numbers c_w_near c_w_far c_w_echoes c_w_totals c_p_result c_p_endTime c_q_count c_q_front c_q_least c_q_window c_q_pulses c_q_lengths c_q_fractions c_q_pulseTimes c_q_pulseEnergies c_t_near c_t_far c_t_echoes c_t_totals) [(0, .ref (a 61)), (1, .int x1)] 0 [] := by
  unfold Cf_P_energyBeyondEnd_peel at hf
  refine v_aload_n 0 C dX4_energyBeyondEnd_0 rfl rfl ?_
  refine Cg_61_line wfieldLink_RX4_12_LineEchoes_Peeling_line_LLineEchoes_Bench C dX4_energyBeyondEnd_1 ?_
  refine Cg_62_count wfieldLink_RX4_52_LineEchoes_Bench_count_I C dX4_energyBeyondEnd_4 ?_
  refine v_if_ne 25 C dX4_energyBeyondEnd_7 (by decide) hf (fun c hf => ?_) (fun c hf => ?_)
  · refine v_aload_n 0 C dX4_energyBeyondEnd_10 rfl rfl ?_
    refine v_aload_n 0 C dX4_energyBeyondEnd_11 rfl rfl ?_
    refine Cg_61_line wfieldLink_RX4_12_LineEchoes_Peeling_line_LLineEchoes_Bench C dX4_energyBeyondEnd_12 ?_
    refine Cg_62_pulseEnergies wfieldLink_RX4_81_LineEchoes_Bench_pulseEnergies_I C dX4_energyBeyondEnd_15 ?_
    refine v_iconst (v := 0) C dX4_energyBeyondEnd_18 (by decide) ?_
    refine Cal_66 C dX4_energyBeyondEnd_19 hf (fun z19 hf => ?_)
    refine v_i2l C dX4_energyBeyondEnd_20 hf (fun z20 hf => ?_)
    refine Cc_P_kept_peel wmethodLink_RX4_102_yX4_kept C dX4_energyBeyondEnd_21 (by decide) (Nat.le_of_ble_eq_true rfl) hf (fun r21 hf => ?_)
    cases hf
    exact v_lret C hret dX4_energyBeyondEnd_24
  · refine v_aload_n 0 C dX4_energyBeyondEnd_25 rfl rfl ?_
    refine Cg_61_trial wfieldLink_RX4_28_LineEchoes_Peeling_trial_LLineEchoes_Wave C dX4_energyBeyondEnd_26 ?_
    refine Cg_67_fromNear wfieldLink_RX4_106_LineEchoes_Wave_fromNear_J C dX4_energyBeyondEnd_29 ?_
    refine v_aload_n 0 C dX4_energyBeyondEnd_32 rfl rfl ?_
    refine Cg_61_line wfieldLink_RX4_12_LineEchoes_Peeling_line_LLineEchoes_Bench C dX4_energyBeyondEnd_33 ?_
    refine Cg_62_count wfieldLink_RX4_52_LineEchoes_Bench_count_I C dX4_energyBeyondEnd_36 ?_
    refine Cao_68 C dX4_energyBeyondEnd_39 hf (fun hj39 hf => ?_)
    refine v_iload_n 1 C dX4_energyBeyondEnd_40 rfl rfl ?_
    refine Crl_72 hj39 C dX4_energyBeyondEnd_41 hf (fun z41 hf => ?_)
    refine v_lstore_n [(0, .ref (a 61)), (2, .long z41)] [1, 0] C dX4_energyBeyondEnd_42 rfl (by decide) rfl ?_
    refine v_aload_n 0 C dX4_energyBeyondEnd_43 rfl rfl ?_
    refine v_lload_n 1 C dX4_energyBeyondEnd_44 rfl rfl ?_
    refine v_lload_n 1 C dX4_energyBeyondEnd_45 rfl rfl ?_
    refine v_aload_n 0 C dX4_energyBeyondEnd_46 rfl rfl ?_
    refine Cg_61_line wfieldLink_RX4_12_LineEchoes_Peeling_line_LLineEchoes_Bench C dX4_energyBeyondEnd_47 ?_
    refine Cg_62_fractions wfieldLink_RX4_110_LineEchoes_Bench_fractions_I C dX4_energyBeyondEnd_50 ?_
    refine v_aload_n 0 C dX4_energyBeyondEnd_53 rfl rfl ?_
    refine Cg_61_line wfieldLink_RX4_12_LineEchoes_Peeling_line_LLineEchoes_Bench C dX4_energyBeyondEnd_54 ?_
    refine Cg_62_count wfieldLink_RX4_52_LineEchoes_Bench_count_I C dX4_energyBeyondEnd_57 ?_
    refine v_iconst (v := 1) C dX4_energyBeyondEnd_60 (by decide) ?_
    refine v_isub C dX4_energyBeyondEnd_61 hf (fun z61 hf => ?_)
    refine Cal_64 C dX4_energyBeyondEnd_62 hf (fun z62 hf => ?_)
    refine Cc_L_turnedBack_N nest3 C dX4_energyBeyondEnd_63 (by decide) (Nat.le_of_ble_eq_true rfl) hf (fun r63 hf => ?_)
    refine v_lsub C dX4_energyBeyondEnd_66 hf (fun z66 hf => ?_)
    refine Cc_P_kept_peel wmethodLink_RX4_102_yX4_kept C dX4_energyBeyondEnd_67 (by decide) (Nat.le_of_ble_eq_true rfl) hf (fun r67 hf => ?_)
    cases hf
    exact v_lret C hret dX4_energyBeyondEnd_70
set_option maxRecDepth 100000 in
set_option maxHeartbeats 4000000 in
theorem Cm_P_energyBeyondEnd_peel {D : va_G} {x1 : Int32} {r : Int64} (hf : Cf_P_energyBeyondEnd_peel c_q_count c_q_least c_q_fractions c_q_pulseEnergies c_t_near x1 = some r) : MetM (SFG E) yX4_energyBeyondEnd cX4_energyBeyondEnd 4 (some .long) { frames := 1, cells := 0, slots := 0, locals := 22 } D T [.ref (a 61), .int x1] (wL E a T c_waveIsFresh c_peelingIsFresh c_n_count c_n_front c_n_least c_n_window c_n_pulses c_n_lengths c_n_fractions c_n_pulseTimes c_n_pulseEnergies c_n_sound c_n_seen c_hcount c_hp c_h0_count c_h0_front c_h0_least c_h0_window c_h0_pulses c_h0_lengths c_h0_fractions c_h0_pulseTimes c_h0_pulseEnergies c_h0_sound c_h0_seen c_h1_count c_h1_front c_h1_least c_h1_window c_h1_pulses c_h1_lengths c_h1_fractions c_h1_pulseTimes c_h1_pulseEnergies c_h1_sound c_h1_seen c_h2_count c_h2_front c_h2_least c_h2_window c_h2_pulses c_h2_lengths c_h2_fractions c_h2_pulseTimes c_h2_pulseEnergies c_h2_sound c_h2_seen c_s_length c_s_command c_s_position c_s_fault c_s_bytes c_s_numbers c_w_near c_w_far c_w_echoes c_w_totals c_p_result c_p_endTime c_q_count c_q_front c_q_least c_q_window c_q_pulses c_q_lengths c_q_fractions c_q_pulseTimes c_q_pulseEnergies c_t_near c_t_far c_t_echoes c_t_totals) (some (.long r)) (wL E a T c_waveIsFresh c_peelingIsFresh c_n_count c_n_front c_n_least c_n_window c_n_pulses c_n_lengths c_n_fractions c_n_pulseTimes c_n_pulseEnergies c_n_sound c_n_seen c_hcount c_hp c_h0_count c_h0_front c_h0_least c_h0_window c_h0_pulses c_h0_lengths c_h0_fractions c_h0_pulseTimes c_h0_pulseEnergies c_h0_sound c_h0_seen c_h1_count c_h1_front c_h1_least c_h1_window c_h1_pulses c_h1_lengths c_h1_fractions c_h1_pulseTimes c_h1_pulseEnergies c_h1_sound c_h1_seen c_h2_count c_h2_front c_h2_least c_h2_window c_h2_pulses c_h2_lengths c_h2_fractions c_h2_pulseTimes c_h2_pulseEnergies c_h2_sound c_h2_seen c_s_length c_s_command c_s_position c_s_fault c_s_bytes c_s_numbers c_w_near c_w_far c_w_echoes c_w_totals c_p_result c_p_endTime c_q_count c_q_front c_q_least c_q_window c_q_pulses c_q_lengths c_q_fractions c_q_pulseTimes c_q_pulseEnergies c_t_near c_t_far c_t_echoes c_t_totals) :=
  MetM.of [(0, .ref (a 61)), (1, .int x1)] (by decide) (Nat.le_of_ble_eq_true rfl) rfl (fun X C hret => Cb_P_energyBeyondEnd_peel C hret hf)
def Cl_P_echoOfNewEnd_peel_24 (c_q_least : Int32) (c_q_lengths : Nat → Int32) (c_q_fractions : Nat → Int32) (c_t_near : Nat → Nat → Int64) : Nat → Int64 → Int32 → Int32 → Option Int64
  | 0, _, _, _ => none
  | n + 1, x5, x7, x8 =>
    if x8 < (1 : Int32) then
      some x5
    else
      nm (x8 - (1 : Int32)) fun z40 =>
      chk (inb z40 8) <| nm (c_q_fractions z40.toNatClampNeg) fun z41 =>
      chk (inb x8 9) <|
      chk (inb x7 201) <| nm (c_t_near x8.toNatClampNeg x7.toNatClampNeg) fun z56 =>
      bd (Cf_L_turnedBack x5 z41) fun r66 =>
      nm (x5 - r66) fun z69 =>
      bd (Cf_L_turnedBack z56 z41) fun r74 =>
      nm (z69 + r74) fun z77 =>
      bd (Cf_P_kept_peel c_q_least z77) fun r78 =>
      nm (x8 - (1 : Int32)) fun z95 =>
      chk (inb z95 8) <| nm (c_q_lengths z95.toNatClampNeg) fun z96 =>
      nm (x7 + z96) fun z97 =>
      nm (x8 + (-1 : Int32)) fun x8_100 =>
      Cl_P_echoOfNewEnd_peel_24 c_q_least c_q_lengths c_q_fractions c_t_near n r78 z97 x8_100
set_option maxRecDepth 100000 in
set_option maxHeartbeats 4000000 in
theorem Ck_P_echoOfNewEnd_peel_24 (C : Cx X (SFG E) T cX4_echoOfNewEnd RX4 (some .long) 12 1 22)  {y5 : Int64} (hk : V X 0 0 (wL E a T c_waveIsFresh c_peelingIsFresh c_n_count c_n_front c_n_least c_n_window c_n_pulses c_n_lengths c_n_fractions c_n_pulseTimes c_n_pulseEnergies c_n_sound c_n_seen c_hcount c_hp c_h0_count c_h0_front c_h0_least c_h0_window c_h0_pulses c_h0_lengths c_h0_fractions c_h0_pulseTimes c_h0_pulseEnergies c_h0_sound c_h0_seen c_h1_count c_h1_front c_h1_least c_h1_window c_h1_pulses c_h1_lengths c_h1_fractions c_h1_pulseTimes c_h1_pulseEnergies c_h1_sound c_h1_seen c_h2_count c_h2_front c_h2_least c_h2_window c_h2_pulses c_h2_lengths c_h2_fractions c_h2_pulseTimes c_h2_pulseEnergies c_h2_sound c_h2_seen c_s_length c_s_command c_s_position c_s_fault c_s_bytes c_s_numbers c_w_near c_w_far c_w_echoes c_w_totals c_p_result c_p_endTime c_q_count c_q_front c_q_least c_q_window c_q_pulses c_q_lengths c_q_fractions c_q_pulseTimes c_q_pulseEnergies c_t_near c_t_far c_t_echoes c_t_totals) [(0, .ref (a 61)), (5, .long y5)] 106 []) : ∀ (n : Nat) (x5 : Int64) (x7 : Int32) (x8 : Int32), Cl_P_echoOfNewEnd_peel_24 c_q_least c_q_lengths c_q_fractions c_t_near n x5 x7 x8 = some y5 → V X 0 0 (wL E a T c_waveIsFresh c_peelingIsFresh c_n_count c_n_front c_n_least c_n_window c_n_pulses c_n_lengths c_n_fractions c_n_pulseTimes c_n_pulseEnergies c_n_sound c_n_seen c_hcount c_hp c_h0_count c_h0_front c_h0_least c_h0_window c_h0_pulses c_h0_lengths c_h0_fractions c_h0_pulseTimes c_h0_pulseEnergies c_h0_sound c_h0_seen c_h1_count c_h1_front c_h1_least c_h1_window c_h1_pulses c_h1_lengths c_h1_fractions c_h1_pulseTimes c_h1_pulseEnergies c_h1_sound c_h1_seen c_h2_count c_h2_front c_h2_least c_h2_window c_h2_pulses c_h2_lengths c_h2_fractions c_h2_pulseTimes c_h2_pulseEnergies c_h2_sound c_h2_seen c_s_length c_s_command c_s_position c_s_fault c_s_bytes c_s_numbers c_w_near c_w_far c_w_echoes c_w_totals c_p_result c_p_endTime c_q_count c_q_front c_q_least c_q_window c_q_pulses c_q_lengths c_q_fractions c_q_pulseTimes c_q_pulseEnergies c_t_near c_t_far c_t_echoes c_t_totals) [(0, .ref (a 61)), (5, .long x5), (7, .int x7), (8, .int x8)] 24 [] := by
  intro n
  induction n with
  | zero =>
    intro _ _ _ hf
    cases hf
  | succ n hrec =>
    intro x5 x7 x8 hf
    rw [Cl_P_echoOfNewEnd_peel_24] at hf
    refine v_iload 3 C dX4_echoOfNewEnd_24 rfl ?_
    refine v_iconst (v := 1) C dX4_echoOfNewEnd_26 (by decide) ?_
    refine v_icmp_lt 106 C dX4_echoOfNewEnd_27 (by decide) hf (fun c hf => ?_) (fun c hf => ?_)
    · refine v_lv [(0, .ref (a 61)), (5, .long x5)] [0, 1] rfl ?_
      cases hf
      exact hk
    · refine v_aload_n 0 C dX4_echoOfNewEnd_30 rfl rfl ?_
      refine Cg_61_line wfieldLink_RX4_12_LineEchoes_Peeling_line_LLineEchoes_Bench C dX4_echoOfNewEnd_31 ?_
      refine Cg_62_fractions wfieldLink_RX4_110_LineEchoes_Bench_fractions_I C dX4_echoOfNewEnd_34 ?_
      refine v_iload 3 C dX4_echoOfNewEnd_37 rfl ?_
      refine v_iconst (v := 1) C dX4_echoOfNewEnd_39 (by decide) ?_
      refine v_isub C dX4_echoOfNewEnd_40 hf (fun z40 hf => ?_)
      refine Cal_64 C dX4_echoOfNewEnd_41 hf (fun z41 hf => ?_)
      refine v_istore [(0, .ref (a 61)), (5, .long x5), (7, .int x7), (8, .int x8), (9, .int z41)] [1, 2, 3, 4, 0] C dX4_echoOfNewEnd_42 (by decide) rfl ?_
      refine v_aload_n 0 C dX4_echoOfNewEnd_44 rfl rfl ?_
      refine Cg_61_trial wfieldLink_RX4_28_LineEchoes_Peeling_trial_LLineEchoes_Wave C dX4_echoOfNewEnd_45 ?_
      refine Cg_67_fromNear wfieldLink_RX4_106_LineEchoes_Wave_fromNear_J C dX4_echoOfNewEnd_48 ?_
      refine v_iload 3 C dX4_echoOfNewEnd_51 rfl ?_
      refine Cao_68 C dX4_echoOfNewEnd_53 hf (fun hj53 hf => ?_)
      refine v_iload 2 C dX4_echoOfNewEnd_54 rfl ?_
      refine Crl_72 hj53 C dX4_echoOfNewEnd_56 hf (fun z56 hf => ?_)
      refine v_lstore [(0, .ref (a 61)), (5, .long x5), (7, .int x7), (8, .int x8), (9, .int z41), (10, .long z56)] [1, 2, 3, 4, 5, 0] C dX4_echoOfNewEnd_57 (by decide) rfl ?_
      refine v_aload_n 0 C dX4_echoOfNewEnd_59 rfl rfl ?_
      refine v_lload 1 C dX4_echoOfNewEnd_60 rfl ?_
      refine v_lload 1 C dX4_echoOfNewEnd_62 rfl ?_
      refine v_iload 4 C dX4_echoOfNewEnd_64 rfl ?_
      refine Cc_L_turnedBack_N nest3 C dX4_echoOfNewEnd_66 (by decide) (Nat.le_of_ble_eq_true rfl) hf (fun r66 hf => ?_)
      refine v_lsub C dX4_echoOfNewEnd_69 hf (fun z69 hf => ?_)
      refine v_lload 5 C dX4_echoOfNewEnd_70 rfl ?_
      refine v_iload 4 C dX4_echoOfNewEnd_72 rfl ?_
      refine Cc_L_turnedBack_N nest3 C dX4_echoOfNewEnd_74 (by decide) (Nat.le_of_ble_eq_true rfl) hf (fun r74 hf => ?_)
      refine v_ladd C dX4_echoOfNewEnd_77 hf (fun z77 hf => ?_)
      refine Cc_P_kept_peel wmethodLink_RX4_102_yX4_kept C dX4_echoOfNewEnd_78 (by decide) (Nat.le_of_ble_eq_true rfl) hf (fun r78 hf => ?_)
      refine v_lstore [(0, .ref (a 61)), (5, .long r78), (7, .int x7), (8, .int x8)] [1, 0, 2, 3] C dX4_echoOfNewEnd_81 (by decide) rfl ?_
      refine v_iload 2 C dX4_echoOfNewEnd_83 rfl ?_
      refine v_aload_n 0 C dX4_echoOfNewEnd_85 rfl rfl ?_
      refine Cg_61_line wfieldLink_RX4_12_LineEchoes_Peeling_line_LLineEchoes_Bench C dX4_echoOfNewEnd_86 ?_
      refine Cg_62_lengths wfieldLink_RX4_117_LineEchoes_Bench_lengths_I C dX4_echoOfNewEnd_89 ?_
      refine v_iload 3 C dX4_echoOfNewEnd_92 rfl ?_
      refine v_iconst (v := 1) C dX4_echoOfNewEnd_94 (by decide) ?_
      refine v_isub C dX4_echoOfNewEnd_95 hf (fun z95 hf => ?_)
      refine Cal_63 C dX4_echoOfNewEnd_96 hf (fun z96 hf => ?_)
      refine v_iadd C dX4_echoOfNewEnd_97 hf (fun z97 hf => ?_)
      refine v_istore [(0, .ref (a 61)), (5, .long r78), (7, .int z97), (8, .int x8)] [1, 2, 0, 3] C dX4_echoOfNewEnd_98 (by decide) rfl ?_
      refine v_iinc (fun x8_100 => [(0, .ref (a 61)), (5, .long r78), (7, .int z97), (8, .int x8_100)]) [1, 2, 3, 0] C dX4_echoOfNewEnd_100 (j := 3) rfl (dv := -1) (by decide) (by decide) (fun _ => rfl) hf (fun x8_100 hf => ?_)
      refine v_goto 24 C dX4_echoOfNewEnd_103 (by decide) ?_
      exact hrec _ _ _ hf
def Cf_P_echoOfNewEnd_peel (c_q_count : Int32) (c_q_front : Int32) (c_q_least : Int32) (c_q_lengths : Nat → Int32) (c_q_fractions : Nat → Int32) (c_t_near : Nat → Nat → Int64) (x1 : Int64) (x3 : Int32) (x4 : Int32) : Option Int64 :=
  bd (Cf_L_turnedBack x1 x3) fun r3 =>
  bd (Cf_P_kept_peel c_q_least r3) fun r6 =>
  bd (Cl_P_echoOfNewEnd_peel_24 c_q_least c_q_lengths c_q_fractions c_t_near FUEL r6 x4 c_q_count) fun y5_24 =>
  bd (Cf_L_turnedBack y5_24 c_q_front) fun r117 =>
  nm (y5_24 - r117) fun z120 =>
  some z120
set_option maxRecDepth 100000 in
set_option maxHeartbeats 4000000 in
theorem Cb_P_echoOfNewEnd_peel (C : Cx X (SFG E) T cX4_echoOfNewEnd RX4 (some .long) 12 1 22) {x1 : Int64} {x3 : Int32} {x4 : Int32} {r : Int64} (hret : RetOK X 0 0 (some (.long r)) (wL E a T c_waveIsFresh c_peelingIsFresh c_n_count c_n_front c_n_least c_n_window c_n_pulses c_n_lengths c_n_fractions c_n_pulseTimes c_n_pulseEnergies c_n_sound c_n_seen c_hcount c_hp c_h0_count c_h0_front c_h0_least c_h0_window c_h0_pulses c_h0_lengths c_h0_fractions c_h0_pulseTimes c_h0_pulseEnergies c_h0_sound c_h0_seen c_h1_count c_h1_front c_h1_least c_h1_window c_h1_pulses c_h1_lengths c_h1_fractions c_h1_pulseTimes c_h1_pulseEnergies c_h1_sound c_h1_seen c_h2_count c_h2_front c_h2_least c_h2_window c_h2_pulses c_h2_lengths c_h2_fractions c_h2_pulseTimes c_h2_pulseEnergies c_h2_sound c_h2_seen c_s_length c_s_command c_s_position c_s_fault c_s_bytes c_s_numbers c_w_near c_w_far c_w_echoes c_w_totals c_p_result c_p_endTime c_q_count c_q_front c_q_least c_q_window c_q_pulses c_q_lengths c_q_fractions c_q_pulseTimes c_q_pulseEnergies c_t_near c_t_far c_t_echoes c_t_totals)) (hf : Cf_P_echoOfNewEnd_peel c_q_count c_q_front c_q_least c_q_lengths c_q_fractions c_t_near x1 x3 x4 = some r) : V X 0 0 (wL E a T c_waveIsFresh c_peelingIsFresh c_n_count c_n_front c_n_least c_n_window c_n_pulses c_n_lengths c_n_fractions c_n_pulseTimes c_n_pulseEnergies c_n_sound c_n_seen c_hcount c_hp c_h0_count c_h0_front c_h0_least c_h0_window c_h0_pulses c_h0_lengths c_h0_fractions c_h0_pulseTimes c_h0_pulseEnergies c_h0_sound c_h0_seen c_h1_count c_h1_front c_h1_least c_h1_window c_h1_pulses c_h1_lengths c_h1_fractions c_h1_pulseTimes c_h1_pulseEnergies c_h1_sound c_h1_seen c_h2_count c_h2_front c_h2_least c_h2_window c_h2_pulses c_h2_lengths c_h2_fractions c_h2_pulseTimes c_h2_pulseEnergies c_h2_sound c_h2_seen c_s_length c_s_command c_s_position c_s_fault c_s_bytes c_s_numbers c_w_near c_w_far c_w_echoes c_w_totals c_p_result c_p_endTime c_q_count c_q_front c_q_least c_q_window c_q_pulses c_q_lengths c_q_fractions c_q_pulseTimes c_q_pulseEnergies c_t_near c_t_far c_t_echoes c_t_totals) [(0, .ref (a 61)), (1, .long x1), (3, .int x3), (4, .int x4)] 0 [] := by
  unfold Cf_P_echoOfNewEnd_peel at hf
  refine v_aload_n 0 C dX4_echoOfNewEnd_0 rfl rfl ?_
  refine v_lload_n 1 C dX4_echoOfNewEnd_1 rfl rfl ?_
  refine v_iload_n 2 C dX4_echoOfNewEnd_2 rfl rfl ?_
  refine Cc_L_turnedBack_N nest3 C dX4_echoOfNewEnd_3 (by decide) (Nat.le_of_ble_eq_true rfl) hf (fun r3 hf => ?_)
  refine Cc_P_kept_peel wmethodLink_RX4_102_yX4_kept C dX4_echoOfNewEnd_6 (by decide) (Nat.le_of_ble_eq_true rfl) hf (fun r6 hf => ?_)
  refine v_lstore [(0, .ref (a 61)), (4, .int x4), (5, .long r6)] [1, 4, 0] C dX4_echoOfNewEnd_9 (by decide) rfl ?_
  refine v_iload 1 C dX4_echoOfNewEnd_11 rfl ?_
  refine v_istore [(0, .ref (a 61)), (5, .long r6), (7, .int x4)] [1, 3, 0] C dX4_echoOfNewEnd_13 (by decide) rfl ?_
  refine v_aload_n 0 C dX4_echoOfNewEnd_15 rfl rfl ?_
  refine Cg_61_line wfieldLink_RX4_12_LineEchoes_Peeling_line_LLineEchoes_Bench C dX4_echoOfNewEnd_16 ?_
  refine Cg_62_count wfieldLink_RX4_52_LineEchoes_Bench_count_I C dX4_echoOfNewEnd_19 ?_
  refine v_istore [(0, .ref (a 61)), (5, .long r6), (7, .int x4), (8, .int c_q_count)] [1, 2, 3, 0] C dX4_echoOfNewEnd_22 (by decide) rfl ?_
  obtain ⟨y5_24, hc, hf⟩ := bd_some hf
  refine Ck_P_echoOfNewEnd_peel_24 C ?_ _ _ _ _ hc
  refine v_lload 1 C dX4_echoOfNewEnd_106 rfl ?_
  refine v_lload 1 C dX4_echoOfNewEnd_108 rfl ?_
  refine v_aload_n 0 C dX4_echoOfNewEnd_110 rfl rfl ?_
  refine Cg_61_line wfieldLink_RX4_12_LineEchoes_Peeling_line_LLineEchoes_Bench C dX4_echoOfNewEnd_111 ?_
  refine Cg_62_front wfieldLink_RX4_120_LineEchoes_Bench_front_I C dX4_echoOfNewEnd_114 ?_
  refine Cc_L_turnedBack_N nest3 C dX4_echoOfNewEnd_117 (by decide) (Nat.le_of_ble_eq_true rfl) hf (fun r117 hf => ?_)
  refine v_lsub C dX4_echoOfNewEnd_120 hf (fun z120 hf => ?_)
  cases hf
  exact v_lret C hret dX4_echoOfNewEnd_121
set_option maxRecDepth 100000 in
set_option maxHeartbeats 4000000 in
theorem Cm_P_echoOfNewEnd_peel {D : va_G} {x1 : Int64} {x3 : Int32} {x4 : Int32} {r : Int64} (hf : Cf_P_echoOfNewEnd_peel c_q_count c_q_front c_q_least c_q_lengths c_q_fractions c_t_near x1 x3 x4 = some r) : MetM (SFG E) yX4_echoOfNewEnd cX4_echoOfNewEnd 12 (some .long) { frames := 1, cells := 0, slots := 0, locals := 22 } D T [.ref (a 61), .long x1, .int x3, .int x4] (wL E a T c_waveIsFresh c_peelingIsFresh c_n_count c_n_front c_n_least c_n_window c_n_pulses c_n_lengths c_n_fractions c_n_pulseTimes c_n_pulseEnergies c_n_sound c_n_seen c_hcount c_hp c_h0_count c_h0_front c_h0_least c_h0_window c_h0_pulses c_h0_lengths c_h0_fractions c_h0_pulseTimes c_h0_pulseEnergies c_h0_sound c_h0_seen c_h1_count c_h1_front c_h1_least c_h1_window c_h1_pulses c_h1_lengths c_h1_fractions c_h1_pulseTimes c_h1_pulseEnergies c_h1_sound c_h1_seen c_h2_count c_h2_front c_h2_least c_h2_window c_h2_pulses c_h2_lengths c_h2_fractions c_h2_pulseTimes c_h2_pulseEnergies c_h2_sound c_h2_seen c_s_length c_s_command c_s_position c_s_fault c_s_bytes c_s_numbers c_w_near c_w_far c_w_echoes c_w_totals c_p_result c_p_endTime c_q_count c_q_front c_q_least c_q_window c_q_pulses c_q_lengths c_q_fractions c_q_pulseTimes c_q_pulseEnergies c_t_near c_t_far c_t_echoes c_t_totals) (some (.long r)) (wL E a T c_waveIsFresh c_peelingIsFresh c_n_count c_n_front c_n_least c_n_window c_n_pulses c_n_lengths c_n_fractions c_n_pulseTimes c_n_pulseEnergies c_n_sound c_n_seen c_hcount c_hp c_h0_count c_h0_front c_h0_least c_h0_window c_h0_pulses c_h0_lengths c_h0_fractions c_h0_pulseTimes c_h0_pulseEnergies c_h0_sound c_h0_seen c_h1_count c_h1_front c_h1_least c_h1_window c_h1_pulses c_h1_lengths c_h1_fractions c_h1_pulseTimes c_h1_pulseEnergies c_h1_sound c_h1_seen c_h2_count c_h2_front c_h2_least c_h2_window c_h2_pulses c_h2_lengths c_h2_fractions c_h2_pulseTimes c_h2_pulseEnergies c_h2_sound c_h2_seen c_s_length c_s_command c_s_position c_s_fault c_s_bytes c_s_numbers c_w_near c_w_far c_w_echoes c_w_totals c_p_result c_p_endTime c_q_count c_q_front c_q_least c_q_window c_q_pulses c_q_lengths c_q_fractions c_q_pulseTimes c_q_pulseEnergies c_t_near c_t_far c_t_echoes c_t_totals) :=
  MetM.of [(0, .ref (a 61)), (1, .long x1), (3, .int x3), (4, .int x4)] (by decide) (Nat.le_of_ble_eq_true rfl) rfl (fun X C hret => Cb_P_echoOfNewEnd_peel C hret hf)
def Cf_P_smallestFraction_peel_55 (rec : Int32 → Int32 → Option Int32) (x1 : Int32) (x2 : Int32) (x3 : Int64) (x5 : Int64) (x7 : Int32) (x8 : Int32) : Option Int32 :=
  chk (¬ (2 : Int32) = 0) <| nm (x8 / (2 : Int32)) fun z58 =>
  rec x7 z58
set_option maxRecDepth 100000 in
set_option maxHeartbeats 4000000 in
theorem Cb_P_smallestFraction_peel_55 (C : Cx X (SFG E) T cX4_smallestFraction RX4 (some .int) 10 2 53) {rec : Int32 → Int32 → Option Int32} {x1 : Int32} {x2 : Int32} {x3 : Int64} {x5 : Int64} {x7 : Int32} {x8 : Int32} {y7 : Int32} (hrec : ∀ (x7 : Int32) (x8 : Int32), rec x7 x8 = some y7 → V X 0 0 (wL E a T c_waveIsFresh c_peelingIsFresh c_n_count c_n_front c_n_least c_n_window c_n_pulses c_n_lengths c_n_fractions c_n_pulseTimes c_n_pulseEnergies c_n_sound c_n_seen c_hcount c_hp c_h0_count c_h0_front c_h0_least c_h0_window c_h0_pulses c_h0_lengths c_h0_fractions c_h0_pulseTimes c_h0_pulseEnergies c_h0_sound c_h0_seen c_h1_count c_h1_front c_h1_least c_h1_window c_h1_pulses c_h1_lengths c_h1_fractions c_h1_pulseTimes c_h1_pulseEnergies c_h1_sound c_h1_seen c_h2_count c_h2_front c_h2_least c_h2_window c_h2_pulses c_h2_lengths c_h2_fractions c_h2_pulseTimes c_h2_pulseEnergies c_h2_sound c_h2_seen c_s_length c_s_command c_s_position c_s_fault c_s_bytes c_s_numbers c_w_near c_w_far c_w_echoes c_w_totals c_p_result c_p_endTime c_q_count c_q_front c_q_least c_q_window c_q_pulses c_q_lengths c_q_fractions c_q_pulseTimes c_q_pulseEnergies c_t_near c_t_far c_t_echoes c_t_totals) [(0, .ref (a 61)), (1, .int x1), (2, .int x2), (3, .long x3), (5, .long x5), (7, .int x7), (8, .int x8)] 15 []) (hk : V X 0 0 (wL E a T c_waveIsFresh c_peelingIsFresh c_n_count c_n_front c_n_least c_n_window c_n_pulses c_n_lengths c_n_fractions c_n_pulseTimes c_n_pulseEnergies c_n_sound c_n_seen c_hcount c_hp c_h0_count c_h0_front c_h0_least c_h0_window c_h0_pulses c_h0_lengths c_h0_fractions c_h0_pulseTimes c_h0_pulseEnergies c_h0_sound c_h0_seen c_h1_count c_h1_front c_h1_least c_h1_window c_h1_pulses c_h1_lengths c_h1_fractions c_h1_pulseTimes c_h1_pulseEnergies c_h1_sound c_h1_seen c_h2_count c_h2_front c_h2_least c_h2_window c_h2_pulses c_h2_lengths c_h2_fractions c_h2_pulseTimes c_h2_pulseEnergies c_h2_sound c_h2_seen c_s_length c_s_command c_s_position c_s_fault c_s_bytes c_s_numbers c_w_near c_w_far c_w_echoes c_w_totals c_p_result c_p_endTime c_q_count c_q_front c_q_least c_q_window c_q_pulses c_q_lengths c_q_fractions c_q_pulseTimes c_q_pulseEnergies c_t_near c_t_far c_t_echoes c_t_totals) [(0, .ref (a 61)), (1, .int x1), (2, .int x2), (3, .long x3), (5, .long x5), (7, .int y7)] 64 []) (hf : Cf_P_smallestFraction_peel_55 rec x1 x2 x3 x5 x7 x8 = some y7) : V X 0 0 (wL E a T c_waveIsFresh c_peelingIsFresh c_n_count c_n_front c_n_least c_n_window c_n_pulses c_n_lengths c_n_fractions c_n_pulseTimes c_n_pulseEnergies c_n_sound c_n_seen c_hcount c_hp c_h0_count c_h0_front c_h0_least c_h0_window c_h0_pulses c_h0_lengths c_h0_fractions c_h0_pulseTimes c_h0_pulseEnergies c_h0_sound c_h0_seen c_h1_count c_h1_front c_h1_least c_h1_window c_h1_pulses c_h1_lengths c_h1_fractions c_h1_pulseTimes c_h1_pulseEnergies c_h1_sound c_h1_seen c_h2_count c_h2_front c_h2_least c_h2_window c_h2_pulses c_h2_lengths c_h2_fractions c_h2_pulseTimes c_h2_pulseEnergies c_h2_sound c_h2_seen c_s_length c_s_command c_s_position c_s_fault c_s_bytes c_s_numbers c_w_near c_w_far c_w_echoes c_w_totals c_p_result c_p_endTime c_q_count c_q_front c_q_least c_q_window c_q_pulses c_q_lengths c_q_fractions c_q_pulseTimes c_q_pulseEnergies c_t_near c_t_far c_t_echoes c_t_totals) [(0, .ref (a 61)), (1, .int x1), (2, .int x2), (3, .long x3), (5, .long x5), (7, .int x7), (8, .int x8)] 55 [] := by
  unfold Cf_P_smallestFraction_peel_55 at hf
  refine v_iload 6 C dX4_smallestFraction_55 rfl ?_
  refine v_iconst (v := 2) C dX4_smallestFraction_57 (by decide) ?_
  refine v_idiv C dX4_smallestFraction_58 hf (fun z58 hf => ?_)
  refine v_istore [(0, .ref (a 61)), (1, .int x1), (2, .int x2), (3, .long x3), (5, .long x5), (7, .int x7), (8, .int z58)] [1, 2, 3, 4, 5, 6, 0] C dX4_smallestFraction_59 (by decide) rfl ?_
  refine v_goto 15 C dX4_smallestFraction_61 (by decide) ?_
  exact hrec _ _ hf
set_option maxRecDepth 100000 in
theorem Cc_P_echoOfNewEnd_peel {x1 : Int64} {x3 : Int32} {x4 : Int32} {cc : ByteArray} {own : String} {ret : Option FieldType} {nl fr lo pc ix : Nat} {lv : List (Nat × Value)} {rest : List Value} {β : Type} {K : Int64 → Option β} {oo : β} (hl : Cond.methodLink own ix yX4_echoOfNewEnd ∈ wsG) (C : Cx X (SFG E) T cc own ret nl fr lo) (hdg : decode cc pc = .ok (.invokevirtual ix, 3)) (hroom : 1 + 1 ≤ fr ∧ 8 + (12 + 11) + 22 ≤ lo) (hst : (rest.map fun v => v.category).sum ≤ 8) (hf : bd (Cf_P_echoOfNewEnd_peel c_q_count c_q_front c_q_least c_q_lengths c_q_fractions c_t_near x1 x3 x4) K = some oo) (kk : ∀ (r : Int64), K r = some oo → V X 0 0 (wL E a T c_waveIsFresh c_peelingIsFresh c_n_count c_n_front c_n_least c_n_window c_n_pulses c_n_lengths c_n_fractions c_n_pulseTimes c_n_pulseEnergies c_n_sound c_n_seen c_hcount c_hp c_h0_count c_h0_front c_h0_least c_h0_window c_h0_pulses c_h0_lengths c_h0_fractions c_h0_pulseTimes c_h0_pulseEnergies c_h0_sound c_h0_seen c_h1_count c_h1_front c_h1_least c_h1_window c_h1_pulses c_h1_lengths c_h1_fractions c_h1_pulseTimes c_h1_pulseEnergies c_h1_sound c_h1_seen c_h2_count c_h2_front c_h2_least c_h2_window c_h2_pulses c_h2_lengths c_h2_fractions c_h2_pulseTimes c_h2_pulseEnergies c_h2_sound c_h2_seen c_s_length c_s_command c_s_position c_s_fault c_s_bytes c_s_numbers c_w_near c_w_far c_w_echoes c_w_totals c_p_result c_p_endTime c_q_count c_q_front c_q_least c_q_window c_q_pulses c_q_lengths c_q_fractions c_q_pulseTimes c_q_pulseEnergies c_t_near c_t_far c_t_echoes c_t_totals) lv (pc + 3) (.long r :: rest)) : V X 0 0 (wL E a T c_waveIsFresh c_peelingIsFresh c_n_count c_n_front c_n_least c_n_window c_n_pulses c_n_lengths c_n_fractions c_n_pulseTimes c_n_pulseEnergies c_n_sound c_n_seen c_hcount c_hp c_h0_count c_h0_front c_h0_least c_h0_window c_h0_pulses c_h0_lengths c_h0_fractions c_h0_pulseTimes c_h0_pulseEnergies c_h0_sound c_h0_seen c_h1_count c_h1_front c_h1_least c_h1_window c_h1_pulses c_h1_lengths c_h1_fractions c_h1_pulseTimes c_h1_pulseEnergies c_h1_sound c_h1_seen c_h2_count c_h2_front c_h2_least c_h2_window c_h2_pulses c_h2_lengths c_h2_fractions c_h2_pulseTimes c_h2_pulseEnergies c_h2_sound c_h2_seen c_s_length c_s_command c_s_position c_s_fault c_s_bytes c_s_numbers c_w_near c_w_far c_w_echoes c_w_totals c_p_result c_p_endTime c_q_count c_q_front c_q_least c_q_window c_q_pulses c_q_lengths c_q_fractions c_q_pulseTimes c_q_pulseEnergies c_t_near c_t_far c_t_echoes c_t_totals) lv pc (.int x4 :: .int x3 :: .long x1 :: .ref (a 61) :: rest) := by
  obtain ⟨r, hc, hk⟩ := bd_some hf
  exact v_callV (As := [.long x1, .int x3, .int x4]) (rest := rest) (q0 := 61) 3 C (CapOK.z X) (fun D => Cm_P_echoOfNewEnd_peel hc) (goodV hl winstanceMethod_yX4_echoOfNewEnd wselects_RX4_yX4_echoOfNewEnd_yX4_echoOfNewEnd winitialized_RX4 wcode_yX4_echoOfNewEnd_cX4_echoOfNewEnd_12_some_long) (by decide +kernel) hroom ⟨rfl, rfl⟩ rfl rfl rfl hst hdg (kk r hk)
def Cl_P_smallestFraction_peel_15 (c_q_count : Int32) (c_q_front : Int32) (c_q_least : Int32) (c_q_lengths : Nat → Int32) (c_q_fractions : Nat → Int32) (c_t_near : Nat → Nat → Int64) (x1 : Int32) (x2 : Int32) (x3 : Int64) (x5 : Int64) : Nat → Int32 → Int32 → Option Int32
  | 0, _, _ => none
  | n + 1, x7, x8 =>
    if x8 ≤ 0 then
      some x7
    else
      nm (x7 + x8) fun z24 =>
      if (1000 : Int32) < z24 then
        Cf_P_smallestFraction_peel_55 (Cl_P_smallestFraction_peel_15 c_q_count c_q_front c_q_least c_q_lengths c_q_fractions c_t_near x1 x2 x3 x5 n) x1 x2 x3 x5 x7 x8
      else
        nm (x1 - x2) fun z42 =>
        bd (Cf_P_echoOfNewEnd_peel c_q_count c_q_front c_q_least c_q_lengths c_q_fractions c_t_near x5 z24 z42) fun r43 =>
        if x3 ≤ r43 then
          Cf_P_smallestFraction_peel_55 (Cl_P_smallestFraction_peel_15 c_q_count c_q_front c_q_least c_q_lengths c_q_fractions c_t_near x1 x2 x3 x5 n) x1 x2 x3 x5 x7 x8
        else
          Cf_P_smallestFraction_peel_55 (Cl_P_smallestFraction_peel_15 c_q_count c_q_front c_q_least c_q_lengths c_q_fractions c_t_near x1 x2 x3 x5 n) x1 x2 x3 x5 z24 x8
set_option maxRecDepth 100000 in
set_option maxHeartbeats 4000000 in
theorem Ck_P_smallestFraction_peel_15 (C : Cx X (SFG E) T cX4_smallestFraction RX4 (some .int) 10 2 53) {x1 : Int32} {x2 : Int32} {x3 : Int64} {x5 : Int64} {y7 : Int32} (hk : V X 0 0 (wL E a T c_waveIsFresh c_peelingIsFresh c_n_count c_n_front c_n_least c_n_window c_n_pulses c_n_lengths c_n_fractions c_n_pulseTimes c_n_pulseEnergies c_n_sound c_n_seen c_hcount c_hp c_h0_count c_h0_front c_h0_least c_h0_window c_h0_pulses c_h0_lengths c_h0_fractions c_h0_pulseTimes c_h0_pulseEnergies c_h0_sound c_h0_seen c_h1_count c_h1_front c_h1_least c_h1_window c_h1_pulses c_h1_lengths c_h1_fractions c_h1_pulseTimes c_h1_pulseEnergies c_h1_sound c_h1_seen c_h2_count c_h2_front c_h2_least c_h2_window c_h2_pulses c_h2_lengths c_h2_fractions c_h2_pulseTimes c_h2_pulseEnergies c_h2_sound c_h2_seen c_s_length c_s_command c_s_position c_s_fault c_s_bytes c_s_numbers c_w_near c_w_far c_w_echoes c_w_totals c_p_result c_p_endTime c_q_count c_q_front c_q_least c_q_window c_q_pulses c_q_lengths c_q_fractions c_q_pulseTimes c_q_pulseEnergies c_t_near c_t_far c_t_echoes c_t_totals) [(0, .ref (a 61)), (1, .int x1), (2, .int x2), (3, .long x3), (5, .long x5), (7, .int y7)] 64 []) : ∀ (n : Nat) (x7 : Int32) (x8 : Int32), Cl_P_smallestFraction_peel_15 c_q_count c_q_front c_q_least c_q_lengths c_q_fractions c_t_near x1 x2 x3 x5 n x7 x8 = some y7 → V X 0 0 (wL E a T c_waveIsFresh c_peelingIsFresh c_n_count c_n_front c_n_least c_n_window c_n_pulses c_n_lengths c_n_fractions c_n_pulseTimes c_n_pulseEnergies c_n_sound c_n_seen c_hcount c_hp c_h0_count c_h0_front c_h0_least c_h0_window c_h0_pulses c_h0_lengths c_h0_fractions c_h0_pulseTimes c_h0_pulseEnergies c_h0_sound c_h0_seen c_h1_count c_h1_front c_h1_least c_h1_window c_h1_pulses c_h1_lengths c_h1_fractions c_h1_pulseTimes c_h1_pulseEnergies c_h1_sound c_h1_seen c_h2_count c_h2_front c_h2_least c_h2_window c_h2_pulses c_h2_lengths c_h2_fractions c_h2_pulseTimes c_h2_pulseEnergies c_h2_sound c_h2_seen c_s_length c_s_command c_s_position c_s_fault c_s_bytes c_s_numbers c_w_near c_w_far c_w_echoes c_w_totals c_p_result c_p_endTime c_q_count c_q_front c_q_least c_q_window c_q_pulses c_q_lengths c_q_fractions c_q_pulseTimes c_q_pulseEnergies c_t_near c_t_far c_t_echoes c_t_totals) [(0, .ref (a 61)), (1, .int x1), (2, .int x2), (3, .long x3), (5, .long x5), (7, .int x7), (8, .int x8)] 15 [] := by
  intro n
  induction n with
  | zero =>
    intro _ _ hf
    cases hf
  | succ n hrec =>
    intro x7 x8 hf
    rw [Cl_P_smallestFraction_peel_15] at hf
    refine v_iload 6 C dX4_smallestFraction_15 rfl ?_
    refine v_if_le 64 C dX4_smallestFraction_17 (by decide) hf (fun c hf => ?_) (fun c hf => ?_)
    · refine v_lv [(0, .ref (a 61)), (1, .int x1), (2, .int x2), (3, .long x3), (5, .long x5), (7, .int x7)] [0, 1, 2, 3, 4, 5] rfl ?_
      cases hf
      exact hk
    · refine v_iload 5 C dX4_smallestFraction_20 rfl ?_
      refine v_iload 6 C dX4_smallestFraction_22 rfl ?_
      refine v_iadd C dX4_smallestFraction_24 hf (fun z24 hf => ?_)
      refine v_istore [(0, .ref (a 61)), (1, .int x1), (2, .int x2), (3, .long x3), (5, .long x5), (7, .int x7), (8, .int x8), (9, .int z24)] [1, 2, 3, 4, 5, 6, 7, 0] C dX4_smallestFraction_25 (by decide) rfl ?_
      refine v_iload 7 C dX4_smallestFraction_27 rfl ?_
      refine v_sipush (v := 1000) C dX4_smallestFraction_29 (by decide) ?_
      refine v_icmp_gt 55 C dX4_smallestFraction_32 (by decide) hf (fun c hf => ?_) (fun c hf => ?_)
      · refine v_lv [(0, .ref (a 61)), (1, .int x1), (2, .int x2), (3, .long x3), (5, .long x5), (7, .int x7), (8, .int x8)] [0, 1, 2, 3, 4, 5, 6] rfl ?_
        exact Cb_P_smallestFraction_peel_55 C hrec hk hf
      · refine v_aload_n 0 C dX4_smallestFraction_35 rfl rfl ?_
        refine v_lload 4 C dX4_smallestFraction_36 rfl ?_
        refine v_iload 7 C dX4_smallestFraction_38 rfl ?_
        refine v_iload_n 1 C dX4_smallestFraction_40 rfl rfl ?_
        refine v_iload_n 2 C dX4_smallestFraction_41 rfl rfl ?_
        refine v_isub C dX4_smallestFraction_42 hf (fun z42 hf => ?_)
        refine Cc_P_echoOfNewEnd_peel wmethodLink_RX4_98_yX4_echoOfNewEnd C dX4_smallestFraction_43 (by decide) (Nat.le_of_ble_eq_true rfl) hf (fun r43 hf => ?_)
        refine v_lload_n 3 C dX4_smallestFraction_46 rfl rfl ?_
        refine v_lcmp_ge 55 C dX4_smallestFraction_47 dX4_smallestFraction_48 (by decide) hf (fun c hf => ?_) (fun c hf => ?_)
        · refine v_lv [(0, .ref (a 61)), (1, .int x1), (2, .int x2), (3, .long x3), (5, .long x5), (7, .int x7), (8, .int x8)] [0, 1, 2, 3, 4, 5, 6] rfl ?_
          exact Cb_P_smallestFraction_peel_55 C hrec hk hf
        · refine v_iload 7 C dX4_smallestFraction_51 rfl ?_
          refine v_istore [(0, .ref (a 61)), (1, .int x1), (2, .int x2), (3, .long x3), (5, .long x5), (7, .int z24), (8, .int x8)] [1, 2, 3, 4, 5, 0, 6] C dX4_smallestFraction_53 (by decide) rfl ?_
          exact Cb_P_smallestFraction_peel_55 C hrec hk hf
def Cf_P_smallestFraction_peel_112 (s0 : Int32) : Option Int32 :=
  some s0
set_option maxRecDepth 100000 in
set_option maxHeartbeats 4000000 in
theorem Cb_P_smallestFraction_peel_112 (C : Cx X (SFG E) T cX4_smallestFraction RX4 (some .int) 10 2 53) {s0 : Int32} {r : Int32} (hret : RetOK X 0 0 (some (.int r)) (wL E a T c_waveIsFresh c_peelingIsFresh c_n_count c_n_front c_n_least c_n_window c_n_pulses c_n_lengths c_n_fractions c_n_pulseTimes c_n_pulseEnergies c_n_sound c_n_seen c_hcount c_hp c_h0_count c_h0_front c_h0_least c_h0_window c_h0_pulses c_h0_lengths c_h0_fractions c_h0_pulseTimes c_h0_pulseEnergies c_h0_sound c_h0_seen c_h1_count c_h1_front c_h1_least c_h1_window c_h1_pulses c_h1_lengths c_h1_fractions c_h1_pulseTimes c_h1_pulseEnergies c_h1_sound c_h1_seen c_h2_count c_h2_front c_h2_least c_h2_window c_h2_pulses c_h2_lengths c_h2_fractions c_h2_pulseTimes c_h2_pulseEnergies c_h2_sound c_h2_seen c_s_length c_s_command c_s_position c_s_fault c_s_bytes c_s_numbers c_w_near c_w_far c_w_echoes c_w_totals c_p_result c_p_endTime c_q_count c_q_front c_q_least c_q_window c_q_pulses c_q_lengths c_q_fractions c_q_pulseTimes c_q_pulseEnergies c_t_near c_t_far c_t_echoes c_t_totals)) (hf : Cf_P_smallestFraction_peel_112 s0 = some r) : V X 0 0 (wL E a T c_waveIsFresh c_peelingIsFresh c_n_count c_n_front c_n_least c_n_window c_n_pulses c_n_lengths c_n_fractions c_n_pulseTimes c_n_pulseEnergies c_n_sound c_n_seen c_hcount c_hp c_h0_count c_h0_front c_h0_least c_h0_window c_h0_pulses c_h0_lengths c_h0_fractions c_h0_pulseTimes c_h0_pulseEnergies c_h0_sound c_h0_seen c_h1_count c_h1_front c_h1_least c_h1_window c_h1_pulses c_h1_lengths c_h1_fractions c_h1_pulseTimes c_h1_pulseEnergies c_h1_sound c_h1_seen c_h2_count c_h2_front c_h2_least c_h2_window c_h2_pulses c_h2_lengths c_h2_fractions c_h2_pulseTimes c_h2_pulseEnergies c_h2_sound c_h2_seen c_s_length c_s_command c_s_position c_s_fault c_s_bytes c_s_numbers c_w_near c_w_far c_w_echoes c_w_totals c_p_result c_p_endTime c_q_count c_q_front c_q_least c_q_window c_q_pulses c_q_lengths c_q_fractions c_q_pulseTimes c_q_pulseEnergies c_t_near c_t_far c_t_echoes c_t_totals) [] 112 [.int s0] := by
  unfold Cf_P_smallestFraction_peel_112 at hf
  cases hf
  exact v_iret C hret dX4_smallestFraction_112
def Cf_P_smallestFraction_peel_99 (x8 : Int32) (s0 : Int32) : Option Int32 :=
  if s0 = 0 then
    Cf_P_smallestFraction_peel_112 (-1 : Int32)
  else
    Cf_P_smallestFraction_peel_112 x8
set_option maxRecDepth 100000 in
set_option maxHeartbeats 4000000 in
theorem Cb_P_smallestFraction_peel_99 (C : Cx X (SFG E) T cX4_smallestFraction RX4 (some .int) 10 2 53) {x8 : Int32} {s0 : Int32} {r : Int32} (hret : RetOK X 0 0 (some (.int r)) (wL E a T c_waveIsFresh c_peelingIsFresh c_n_count c_n_front c_n_least c_n_window c_n_pulses c_n_lengths c_n_fractions c_n_pulseTimes c_n_pulseEnergies c_n_sound c_n_seen c_hcount c_hp c_h0_count c_h0_front c_h0_least c_h0_window c_h0_pulses c_h0_lengths c_h0_fractions c_h0_pulseTimes c_h0_pulseEnergies c_h0_sound c_h0_seen c_h1_count c_h1_front c_h1_least c_h1_window c_h1_pulses c_h1_lengths c_h1_fractions c_h1_pulseTimes c_h1_pulseEnergies c_h1_sound c_h1_seen c_h2_count c_h2_front c_h2_least c_h2_window c_h2_pulses c_h2_lengths c_h2_fractions c_h2_pulseTimes c_h2_pulseEnergies c_h2_sound c_h2_seen c_s_length c_s_command c_s_position c_s_fault c_s_bytes c_s_numbers c_w_near c_w_far c_w_echoes c_w_totals c_p_result c_p_endTime c_q_count c_q_front c_q_least c_q_window c_q_pulses c_q_lengths c_q_fractions c_q_pulseTimes c_q_pulseEnergies c_t_near c_t_far c_t_echoes c_t_totals)) (hf : Cf_P_smallestFraction_peel_99 x8 s0 = some r) : V X 0 0 (wL E a T c_waveIsFresh c_peelingIsFresh c_n_count c_n_front c_n_least c_n_window c_n_pulses c_n_lengths c_n_fractions c_n_pulseTimes c_n_pulseEnergies c_n_sound c_n_seen c_hcount c_hp c_h0_count c_h0_front c_h0_least c_h0_window c_h0_pulses c_h0_lengths c_h0_fractions c_h0_pulseTimes c_h0_pulseEnergies c_h0_sound c_h0_seen c_h1_count c_h1_front c_h1_least c_h1_window c_h1_pulses c_h1_lengths c_h1_fractions c_h1_pulseTimes c_h1_pulseEnergies c_h1_sound c_h1_seen c_h2_count c_h2_front c_h2_least c_h2_window c_h2_pulses c_h2_lengths c_h2_fractions c_h2_pulseTimes c_h2_pulseEnergies c_h2_sound c_h2_seen c_s_length c_s_command c_s_position c_s_fault c_s_bytes c_s_numbers c_w_near c_w_far c_w_echoes c_w_totals c_p_result c_p_endTime c_q_count c_q_front c_q_least c_q_window c_q_pulses c_q_lengths c_q_fractions c_q_pulseTimes c_q_pulseEnergies c_t_near c_t_far c_t_echoes c_t_totals) [(8, .int x8)] 99 [.int s0] := by
  unfold Cf_P_smallestFraction_peel_99 at hf
  refine v_istore [(8, .int x8), (9, .int s0)] [1, 0] C dX4_smallestFraction_99 (by decide) rfl ?_
  refine v_iload 1 C dX4_smallestFraction_101 rfl ?_
  refine v_if_eq 111 C dX4_smallestFraction_103 (by decide) hf (fun c hf => ?_) (fun c hf => ?_)
  · refine v_iconst (v := -1) C dX4_smallestFraction_111 (by decide) ?_
    refine v_lv [] [] rfl ?_
    exact Cb_P_smallestFraction_peel_112 C hret hf
  · refine v_iload 0 C dX4_smallestFraction_106 rfl ?_
    refine v_goto 112 C dX4_smallestFraction_108 (by decide) ?_
    refine v_lv [] [] rfl ?_
    exact Cb_P_smallestFraction_peel_112 C hret hf
def Cf_P_smallestFraction_peel_98 (x8 : Int32) : Option Int32 :=
  Cf_P_smallestFraction_peel_99 x8 (0 : Int32)
set_option maxRecDepth 100000 in
set_option maxHeartbeats 4000000 in
theorem Cb_P_smallestFraction_peel_98 (C : Cx X (SFG E) T cX4_smallestFraction RX4 (some .int) 10 2 53) {x8 : Int32} {r : Int32} (hret : RetOK X 0 0 (some (.int r)) (wL E a T c_waveIsFresh c_peelingIsFresh c_n_count c_n_front c_n_least c_n_window c_n_pulses c_n_lengths c_n_fractions c_n_pulseTimes c_n_pulseEnergies c_n_sound c_n_seen c_hcount c_hp c_h0_count c_h0_front c_h0_least c_h0_window c_h0_pulses c_h0_lengths c_h0_fractions c_h0_pulseTimes c_h0_pulseEnergies c_h0_sound c_h0_seen c_h1_count c_h1_front c_h1_least c_h1_window c_h1_pulses c_h1_lengths c_h1_fractions c_h1_pulseTimes c_h1_pulseEnergies c_h1_sound c_h1_seen c_h2_count c_h2_front c_h2_least c_h2_window c_h2_pulses c_h2_lengths c_h2_fractions c_h2_pulseTimes c_h2_pulseEnergies c_h2_sound c_h2_seen c_s_length c_s_command c_s_position c_s_fault c_s_bytes c_s_numbers c_w_near c_w_far c_w_echoes c_w_totals c_p_result c_p_endTime c_q_count c_q_front c_q_least c_q_window c_q_pulses c_q_lengths c_q_fractions c_q_pulseTimes c_q_pulseEnergies c_t_near c_t_far c_t_echoes c_t_totals)) (hf : Cf_P_smallestFraction_peel_98 x8 = some r) : V X 0 0 (wL E a T c_waveIsFresh c_peelingIsFresh c_n_count c_n_front c_n_least c_n_window c_n_pulses c_n_lengths c_n_fractions c_n_pulseTimes c_n_pulseEnergies c_n_sound c_n_seen c_hcount c_hp c_h0_count c_h0_front c_h0_least c_h0_window c_h0_pulses c_h0_lengths c_h0_fractions c_h0_pulseTimes c_h0_pulseEnergies c_h0_sound c_h0_seen c_h1_count c_h1_front c_h1_least c_h1_window c_h1_pulses c_h1_lengths c_h1_fractions c_h1_pulseTimes c_h1_pulseEnergies c_h1_sound c_h1_seen c_h2_count c_h2_front c_h2_least c_h2_window c_h2_pulses c_h2_lengths c_h2_fractions c_h2_pulseTimes c_h2_pulseEnergies c_h2_sound c_h2_seen c_s_length c_s_command c_s_position c_s_fault c_s_bytes c_s_numbers c_w_near c_w_far c_w_echoes c_w_totals c_p_result c_p_endTime c_q_count c_q_front c_q_least c_q_window c_q_pulses c_q_lengths c_q_fractions c_q_pulseTimes c_q_pulseEnergies c_t_near c_t_far c_t_echoes c_t_totals) [(8, .int x8)] 98 [] := by
  unfold Cf_P_smallestFraction_peel_98 at hf
  refine v_iconst (v := 0) C dX4_smallestFraction_98 (by decide) ?_
  exact Cb_P_smallestFraction_peel_99 C hret hf
set_option maxRecDepth 100000 in
theorem Cc_P_energyBeyondEnd_peel {x1 : Int32} {cc : ByteArray} {own : String} {ret : Option FieldType} {nl fr lo pc ix : Nat} {lv : List (Nat × Value)} {rest : List Value} {β : Type} {K : Int64 → Option β} {oo : β} (hl : Cond.methodLink own ix yX4_energyBeyondEnd ∈ wsG) (C : Cx X (SFG E) T cc own ret nl fr lo) (hdg : decode cc pc = .ok (.invokevirtual ix, 3)) (hroom : 1 + 1 ≤ fr ∧ 8 + (4 + 11) + 22 ≤ lo) (hst : (rest.map fun v => v.category).sum ≤ 8) (hf : bd (Cf_P_energyBeyondEnd_peel c_q_count c_q_least c_q_fractions c_q_pulseEnergies c_t_near x1) K = some oo) (kk : ∀ (r : Int64), K r = some oo → V X 0 0 (wL E a T c_waveIsFresh c_peelingIsFresh c_n_count c_n_front c_n_least c_n_window c_n_pulses c_n_lengths c_n_fractions c_n_pulseTimes c_n_pulseEnergies c_n_sound c_n_seen c_hcount c_hp c_h0_count c_h0_front c_h0_least c_h0_window c_h0_pulses c_h0_lengths c_h0_fractions c_h0_pulseTimes c_h0_pulseEnergies c_h0_sound c_h0_seen c_h1_count c_h1_front c_h1_least c_h1_window c_h1_pulses c_h1_lengths c_h1_fractions c_h1_pulseTimes c_h1_pulseEnergies c_h1_sound c_h1_seen c_h2_count c_h2_front c_h2_least c_h2_window c_h2_pulses c_h2_lengths c_h2_fractions c_h2_pulseTimes c_h2_pulseEnergies c_h2_sound c_h2_seen c_s_length c_s_command c_s_position c_s_fault c_s_bytes c_s_numbers c_w_near c_w_far c_w_echoes c_w_totals c_p_result c_p_endTime c_q_count c_q_front c_q_least c_q_window c_q_pulses c_q_lengths c_q_fractions c_q_pulseTimes c_q_pulseEnergies c_t_near c_t_far c_t_echoes c_t_totals) lv (pc + 3) (.long r :: rest)) : V X 0 0 (wL E a T c_waveIsFresh c_peelingIsFresh c_n_count c_n_front c_n_least c_n_window c_n_pulses c_n_lengths c_n_fractions c_n_pulseTimes c_n_pulseEnergies c_n_sound c_n_seen c_hcount c_hp c_h0_count c_h0_front c_h0_least c_h0_window c_h0_pulses c_h0_lengths c_h0_fractions c_h0_pulseTimes c_h0_pulseEnergies c_h0_sound c_h0_seen c_h1_count c_h1_front c_h1_least c_h1_window c_h1_pulses c_h1_lengths c_h1_fractions c_h1_pulseTimes c_h1_pulseEnergies c_h1_sound c_h1_seen c_h2_count c_h2_front c_h2_least c_h2_window c_h2_pulses c_h2_lengths c_h2_fractions c_h2_pulseTimes c_h2_pulseEnergies c_h2_sound c_h2_seen c_s_length c_s_command c_s_position c_s_fault c_s_bytes c_s_numbers c_w_near c_w_far c_w_echoes c_w_totals c_p_result c_p_endTime c_q_count c_q_front c_q_least c_q_window c_q_pulses c_q_lengths c_q_fractions c_q_pulseTimes c_q_pulseEnergies c_t_near c_t_far c_t_echoes c_t_totals) lv pc (.int x1 :: .ref (a 61) :: rest) := by
  obtain ⟨r, hc, hk⟩ := bd_some hf
  exact v_callV (As := [.int x1]) (rest := rest) (q0 := 61) 1 C (CapOK.z X) (fun D => Cm_P_energyBeyondEnd_peel hc) (goodV hl winstanceMethod_yX4_energyBeyondEnd wselects_RX4_yX4_energyBeyondEnd_yX4_energyBeyondEnd winitialized_RX4 wcode_yX4_energyBeyondEnd_cX4_energyBeyondEnd_4_some_long) (by decide +kernel) hroom ⟨rfl, rfl⟩ rfl rfl rfl hst hdg (kk r hk)
def Cf_P_smallestFraction_peel (c_q_count : Int32) (c_q_front : Int32) (c_q_least : Int32) (c_q_lengths : Nat → Int32) (c_q_fractions : Nat → Int32) (c_q_pulseEnergies : Nat → Int32) (c_t_near : Nat → Nat → Int64) (x1 : Int32) (x2 : Int32) (x3 : Int64) : Option Int32 :=
  bd (Cf_P_energyBeyondEnd_peel c_q_count c_q_least c_q_fractions c_q_pulseEnergies c_t_near x2) fun r2 =>
  bd (Cl_P_smallestFraction_peel_15 c_q_count c_q_front c_q_least c_q_lengths c_q_fractions c_t_near x1 x2 x3 r2 FUEL (0 : Int32) (512 : Int32)) fun y7_15 =>
  nm (y7_15 + (1 : Int32)) fun z67 =>
  if (1000 : Int32) < z67 then
    Cf_P_smallestFraction_peel_98 z67
  else
    nm (x1 - x2) fun z85 =>
    bd (Cf_P_echoOfNewEnd_peel c_q_count c_q_front c_q_least c_q_lengths c_q_fractions c_t_near r2 z67 z85) fun r86 =>
    if r86 = x3 then
      Cf_P_smallestFraction_peel_99 z67 (1 : Int32)
    else
      Cf_P_smallestFraction_peel_98 z67
set_option maxRecDepth 100000 in
set_option maxHeartbeats 4000000 in
theorem Cb_P_smallestFraction_peel (C : Cx X (SFG E) T cX4_smallestFraction RX4 (some .int) 10 2 53) {x1 : Int32} {x2 : Int32} {x3 : Int64} {r : Int32} (hret : RetOK X 0 0 (some (.int r)) (wL E a T c_waveIsFresh c_peelingIsFresh c_n_count c_n_front c_n_least c_n_window c_n_pulses c_n_lengths c_n_fractions c_n_pulseTimes c_n_pulseEnergies c_n_sound c_n_seen c_hcount c_hp c_h0_count c_h0_front c_h0_least c_h0_window c_h0_pulses c_h0_lengths c_h0_fractions c_h0_pulseTimes c_h0_pulseEnergies c_h0_sound c_h0_seen c_h1_count c_h1_front c_h1_least c_h1_window c_h1_pulses c_h1_lengths c_h1_fractions c_h1_pulseTimes c_h1_pulseEnergies c_h1_sound c_h1_seen c_h2_count c_h2_front c_h2_least c_h2_window c_h2_pulses c_h2_lengths c_h2_fractions c_h2_pulseTimes c_h2_pulseEnergies c_h2_sound c_h2_seen c_s_length c_s_command c_s_position c_s_fault c_s_bytes c_s_numbers c_w_near c_w_far c_w_echoes c_w_totals c_p_result c_p_endTime c_q_count c_q_front c_q_least c_q_window c_q_pulses c_q_lengths c_q_fractions c_q_pulseTimes c_q_pulseEnergies c_t_near c_t_far c_t_echoes c_t_totals)) (hf : Cf_P_smallestFraction_peel c_q_count c_q_front c_q_least c_q_lengths c_q_fractions c_q_pulseEnergies c_t_near x1 x2 x3 = some r) : V X 0 0 (wL E a T c_waveIsFresh c_peelingIsFresh c_n_count c_n_front c_n_least c_n_window c_n_pulses c_n_lengths c_n_fractions c_n_pulseTimes c_n_pulseEnergies c_n_sound c_n_seen c_hcount c_hp c_h0_count c_h0_front c_h0_least c_h0_window c_h0_pulses c_h0_lengths c_h0_fractions c_h0_pulseTimes c_h0_pulseEnergies c_h0_sound c_h0_seen c_h1_count c_h1_front c_h1_least c_h1_window c_h1_pulses c_h1_lengths c_h1_fractions c_h1_pulseTimes c_h1_pulseEnergies c_h1_sound c_h1_seen c_h2_count c_h2_front c_h2_least c_h2_window c_h2_pulses c_h2_lengths c_h2_fractions c_h2_pulseTimes c_h2_pulseEnergies c_h2_sound c_h2_seen c_s_length c_s_command c_s_position c_s_fault c_s_bytes c_s_numbers c_w_near c_w_far c_w_echoes c_w_totals c_p_result c_p_endTime c_q_count c_q_front c_q_least c_q_window c_q_pulses c_q_lengths c_q_fractions c_q_pulseTimes c_q_pulseEnergies c_t_near c_t_far c_t_echoes c_t_totals) [(0, .ref (a 61)), (1, .int x1), (2, .int x2), (3, .long x3)] 0 [] := by
  unfold Cf_P_smallestFraction_peel at hf
  refine v_aload_n 0 C dX4_smallestFraction_0 rfl rfl ?_
  refine v_iload_n 2 C dX4_smallestFraction_1 rfl rfl ?_
  refine Cc_P_energyBeyondEnd_peel wmethodLink_RX4_94_yX4_energyBeyondEnd C dX4_smallestFraction_2 (by decide) (Nat.le_of_ble_eq_true rfl) hf (fun r2 hf => ?_)
  refine v_lstore [(0, .ref (a 61)), (1, .int x1), (2, .int x2), (3, .long x3), (5, .long r2)] [1, 2, 3, 4, 0] C dX4_smallestFraction_5 (by decide) rfl ?_
  refine v_iconst (v := 0) C dX4_smallestFraction_7 (by decide) ?_
  refine v_istore [(0, .ref (a 61)), (1, .int x1), (2, .int x2), (3, .long x3), (5, .long r2), (7, .int (0 : Int32))] [1, 2, 3, 4, 5, 0] C dX4_smallestFraction_8 (by decide) rfl ?_
  refine v_sipush (v := 512) C dX4_smallestFraction_10 (by decide) ?_
  refine v_istore [(0, .ref (a 61)), (1, .int x1), (2, .int x2), (3, .long x3), (5, .long r2), (7, .int (0 : Int32)), (8, .int (512 : Int32))] [1, 2, 3, 4, 5, 6, 0] C dX4_smallestFraction_13 (by decide) rfl ?_
  obtain ⟨y7_15, hc, hf⟩ := bd_some hf
  refine Ck_P_smallestFraction_peel_15 C ?_ _ _ _ hc
  refine v_iload 5 C dX4_smallestFraction_64 rfl ?_
  refine v_iconst (v := 1) C dX4_smallestFraction_66 (by decide) ?_
  refine v_iadd C dX4_smallestFraction_67 hf (fun z67 hf => ?_)
  refine v_istore [(0, .ref (a 61)), (1, .int x1), (2, .int x2), (3, .long x3), (5, .long r2), (8, .int z67)] [1, 2, 3, 4, 5, 0] C dX4_smallestFraction_68 (by decide) rfl ?_
  refine v_iload 5 C dX4_smallestFraction_70 rfl ?_
  refine v_sipush (v := 1000) C dX4_smallestFraction_72 (by decide) ?_
  refine v_icmp_gt 98 C dX4_smallestFraction_75 (by decide) hf (fun c hf => ?_) (fun c hf => ?_)
  · refine v_lv [(8, .int z67)] [5] rfl ?_
    exact Cb_P_smallestFraction_peel_98 C hret hf
  · refine v_aload_n 0 C dX4_smallestFraction_78 rfl rfl ?_
    refine v_lload 4 C dX4_smallestFraction_79 rfl ?_
    refine v_iload 5 C dX4_smallestFraction_81 rfl ?_
    refine v_iload_n 1 C dX4_smallestFraction_83 rfl rfl ?_
    refine v_iload_n 2 C dX4_smallestFraction_84 rfl rfl ?_
    refine v_isub C dX4_smallestFraction_85 hf (fun z85 hf => ?_)
    refine Cc_P_echoOfNewEnd_peel wmethodLink_RX4_98_yX4_echoOfNewEnd C dX4_smallestFraction_86 (by decide) (Nat.le_of_ble_eq_true rfl) hf (fun r86 hf => ?_)
    refine v_lload_n 3 C dX4_smallestFraction_89 rfl rfl ?_
    refine v_lcmp_ne 98 C dX4_smallestFraction_90 dX4_smallestFraction_91 (by decide) hf (fun c hf => ?_) (fun c hf => ?_)
    · refine v_iconst (v := 1) C dX4_smallestFraction_94 (by decide) ?_
      refine v_goto 99 C dX4_smallestFraction_95 (by decide) ?_
      refine v_lv [(8, .int z67)] [5] rfl ?_
      exact Cb_P_smallestFraction_peel_99 C hret hf
    · refine v_lv [(8, .int z67)] [5] rfl ?_
      exact Cb_P_smallestFraction_peel_98 C hret hf
set_option maxRecDepth 100000 in
set_option maxHeartbeats 4000000 in
theorem Cm_P_smallestFraction_peel {D : va_G} {x1 : Int32} {x2 : Int32} {x3 : Int64} {r : Int32} (hf : Cf_P_smallestFraction_peel c_q_count c_q_front c_q_least c_q_lengths c_q_fractions c_q_pulseEnergies c_t_near x1 x2 x3 = some r) : MetM (SFG E) yX4_smallestFraction cX4_smallestFraction 10 (some .int) { frames := 2, cells := 0, slots := 0, locals := 53 } D T [.ref (a 61), .int x1, .int x2, .long x3] (wL E a T c_waveIsFresh c_peelingIsFresh c_n_count c_n_front c_n_least c_n_window c_n_pulses c_n_lengths c_n_fractions c_n_pulseTimes c_n_pulseEnergies c_n_sound c_n_seen c_hcount c_hp c_h0_count c_h0_front c_h0_least c_h0_window c_h0_pulses c_h0_lengths c_h0_fractions c_h0_pulseTimes c_h0_pulseEnergies c_h0_sound c_h0_seen c_h1_count c_h1_front c_h1_least c_h1_window c_h1_pulses c_h1_lengths c_h1_fractions c_h1_pulseTimes c_h1_pulseEnergies c_h1_sound c_h1_seen c_h2_count c_h2_front c_h2_least c_h2_window c_h2_pulses c_h2_lengths c_h2_fractions c_h2_pulseTimes c_h2_pulseEnergies c_h2_sound c_h2_seen c_s_length c_s_command c_s_position c_s_fault c_s_bytes c_s_numbers c_w_near c_w_far c_w_echoes c_w_totals c_p_result c_p_endTime c_q_count c_q_front c_q_least c_q_window c_q_pulses c_q_lengths c_q_fractions c_q_pulseTimes c_q_pulseEnergies c_t_near c_t_far c_t_echoes c_t_totals) (some (.int r)) (wL E a T c_waveIsFresh c_peelingIsFresh c_n_count c_n_front c_n_least c_n_window c_n_pulses c_n_lengths c_n_fractions c_n_pulseTimes c_n_pulseEnergies c_n_sound c_n_seen c_hcount c_hp c_h0_count c_h0_front c_h0_least c_h0_window c_h0_pulses c_h0_lengths c_h0_fractions c_h0_pulseTimes c_h0_pulseEnergies c_h0_sound c_h0_seen c_h1_count c_h1_front c_h1_least c_h1_window c_h1_pulses c_h1_lengths c_h1_fractions c_h1_pulseTimes c_h1_pulseEnergies c_h1_sound c_h1_seen c_h2_count c_h2_front c_h2_least c_h2_window c_h2_pulses c_h2_lengths c_h2_fractions c_h2_pulseTimes c_h2_pulseEnergies c_h2_sound c_h2_seen c_s_length c_s_command c_s_position c_s_fault c_s_bytes c_s_numbers c_w_near c_w_far c_w_echoes c_w_totals c_p_result c_p_endTime c_q_count c_q_front c_q_least c_q_window c_q_pulses c_q_lengths c_q_fractions c_q_pulseTimes c_q_pulseEnergies c_t_near c_t_far c_t_echoes c_t_totals) :=
  MetM.of [(0, .ref (a 61)), (1, .int x1), (2, .int x2), (3, .long x3)] (by decide) (Nat.le_of_ble_eq_true rfl) rfl (fun X C hret => Cb_P_smallestFraction_peel C hret hf)
set_option maxRecDepth 100000 in
theorem Cc_W_spread_t_q  {cc : ByteArray} {own : String} {ret : Option FieldType} {nl fr lo pc ix : Nat} {lv : List (Nat × Value)} {rest : List Value} {β : Type} {K : ((Nat → Nat → Int64) × (Nat → Nat → Int64) × (Nat → Int64) × (Nat → Int64)) → Option β} {oo : β} (hl : Cond.methodLink own ix yX8_spread ∈ wsG) (C : Cx X (SFG E) T cc own ret nl fr lo) (hdg : decode cc pc = .ok (.invokevirtual ix, 3)) (hroom : 2 + 1 ≤ fr ∧ 8 + (4 + 11) + 59 ≤ lo) (hst : (rest.map fun v => v.category).sum ≤ 8) (hf : bd (Cf_W_spread_t_q c_q_count c_q_front c_q_least c_q_window c_q_pulses c_q_lengths c_q_fractions c_q_pulseTimes c_q_pulseEnergies c_t_near c_t_far c_t_echoes c_t_totals) K = some oo) (kk : ∀ (o_t_near : Nat → Nat → Int64) (o_t_far : Nat → Nat → Int64) (o_t_echoes : Nat → Int64) (o_t_totals : Nat → Int64), K (o_t_near, o_t_far, o_t_echoes, o_t_totals) = some oo → V X 0 0 (wL E a T c_waveIsFresh c_peelingIsFresh c_n_count c_n_front c_n_least c_n_window c_n_pulses c_n_lengths c_n_fractions c_n_pulseTimes c_n_pulseEnergies c_n_sound c_n_seen c_hcount c_hp c_h0_count c_h0_front c_h0_least c_h0_window c_h0_pulses c_h0_lengths c_h0_fractions c_h0_pulseTimes c_h0_pulseEnergies c_h0_sound c_h0_seen c_h1_count c_h1_front c_h1_least c_h1_window c_h1_pulses c_h1_lengths c_h1_fractions c_h1_pulseTimes c_h1_pulseEnergies c_h1_sound c_h1_seen c_h2_count c_h2_front c_h2_least c_h2_window c_h2_pulses c_h2_lengths c_h2_fractions c_h2_pulseTimes c_h2_pulseEnergies c_h2_sound c_h2_seen c_s_length c_s_command c_s_position c_s_fault c_s_bytes c_s_numbers c_w_near c_w_far c_w_echoes c_w_totals c_p_result c_p_endTime c_q_count c_q_front c_q_least c_q_window c_q_pulses c_q_lengths c_q_fractions c_q_pulseTimes c_q_pulseEnergies o_t_near o_t_far o_t_echoes o_t_totals) lv (pc + 3) rest) : V X 0 0 (wL E a T c_waveIsFresh c_peelingIsFresh c_n_count c_n_front c_n_least c_n_window c_n_pulses c_n_lengths c_n_fractions c_n_pulseTimes c_n_pulseEnergies c_n_sound c_n_seen c_hcount c_hp c_h0_count c_h0_front c_h0_least c_h0_window c_h0_pulses c_h0_lengths c_h0_fractions c_h0_pulseTimes c_h0_pulseEnergies c_h0_sound c_h0_seen c_h1_count c_h1_front c_h1_least c_h1_window c_h1_pulses c_h1_lengths c_h1_fractions c_h1_pulseTimes c_h1_pulseEnergies c_h1_sound c_h1_seen c_h2_count c_h2_front c_h2_least c_h2_window c_h2_pulses c_h2_lengths c_h2_fractions c_h2_pulseTimes c_h2_pulseEnergies c_h2_sound c_h2_seen c_s_length c_s_command c_s_position c_s_fault c_s_bytes c_s_numbers c_w_near c_w_far c_w_echoes c_w_totals c_p_result c_p_endTime c_q_count c_q_front c_q_least c_q_window c_q_pulses c_q_lengths c_q_fractions c_q_pulseTimes c_q_pulseEnergies c_t_near c_t_far c_t_echoes c_t_totals) lv pc (.ref (a 62) :: .ref (a 67) :: rest) := by
  obtain ⟨⟨o_t_near, o_t_far, o_t_echoes, o_t_totals⟩, hc, hk⟩ := bd_some hf
  exact v_callV (As := [.ref (a 62)]) (rest := rest) (q0 := 67) 1 C (CapOK.z X) (fun D => Cm_W_spread_t_q hc) (goodV hl winstanceMethod_yX8_spread wselects_RX8_yX8_spread_yX8_spread winitialized_RX8 wcode_yX8_spread_cX8_spread_4_none) (by decide +kernel) hroom ⟨rfl, rfl⟩ rfl rfl rfl hst hdg (kk o_t_near o_t_far o_t_echoes o_t_totals hk)
set_option maxRecDepth 100000 in
theorem Cc_P_timeOfNextPart_peel_n_seen  {cc : ByteArray} {own : String} {ret : Option FieldType} {nl fr lo pc ix : Nat} {lv : List (Nat × Value)} {rest : List Value} {β : Type} {K : (Int32 × Int32 × Int32) → Option β} {oo : β} (hl : Cond.methodLink own ix yX4_timeOfNextPart ∈ wsG) (C : Cx X (SFG E) T cc own ret nl fr lo) (hdg : decode cc pc = .ok (.invokevirtual ix, 3)) (hroom : 1 + 1 ≤ fr ∧ 8 + (4 + 11) + 23 ≤ lo) (hst : (rest.map fun v => v.category).sum ≤ 8) (hf : bd (Cf_P_timeOfNextPart_peel_n_seen c_n_seen c_p_result c_p_endTime c_q_count c_q_window c_q_lengths c_t_echoes) K = some oo) (kk : ∀ (o_p_result : Int32) (o_p_endTime : Int32) (r : Int32), K (o_p_result, o_p_endTime, r) = some oo → V X 0 0 (wL E a T c_waveIsFresh c_peelingIsFresh c_n_count c_n_front c_n_least c_n_window c_n_pulses c_n_lengths c_n_fractions c_n_pulseTimes c_n_pulseEnergies c_n_sound c_n_seen c_hcount c_hp c_h0_count c_h0_front c_h0_least c_h0_window c_h0_pulses c_h0_lengths c_h0_fractions c_h0_pulseTimes c_h0_pulseEnergies c_h0_sound c_h0_seen c_h1_count c_h1_front c_h1_least c_h1_window c_h1_pulses c_h1_lengths c_h1_fractions c_h1_pulseTimes c_h1_pulseEnergies c_h1_sound c_h1_seen c_h2_count c_h2_front c_h2_least c_h2_window c_h2_pulses c_h2_lengths c_h2_fractions c_h2_pulseTimes c_h2_pulseEnergies c_h2_sound c_h2_seen c_s_length c_s_command c_s_position c_s_fault c_s_bytes c_s_numbers c_w_near c_w_far c_w_echoes c_w_totals o_p_result o_p_endTime c_q_count c_q_front c_q_least c_q_window c_q_pulses c_q_lengths c_q_fractions c_q_pulseTimes c_q_pulseEnergies c_t_near c_t_far c_t_echoes c_t_totals) lv (pc + 3) (.int r :: rest)) : V X 0 0 (wL E a T c_waveIsFresh c_peelingIsFresh c_n_count c_n_front c_n_least c_n_window c_n_pulses c_n_lengths c_n_fractions c_n_pulseTimes c_n_pulseEnergies c_n_sound c_n_seen c_hcount c_hp c_h0_count c_h0_front c_h0_least c_h0_window c_h0_pulses c_h0_lengths c_h0_fractions c_h0_pulseTimes c_h0_pulseEnergies c_h0_sound c_h0_seen c_h1_count c_h1_front c_h1_least c_h1_window c_h1_pulses c_h1_lengths c_h1_fractions c_h1_pulseTimes c_h1_pulseEnergies c_h1_sound c_h1_seen c_h2_count c_h2_front c_h2_least c_h2_window c_h2_pulses c_h2_lengths c_h2_fractions c_h2_pulseTimes c_h2_pulseEnergies c_h2_sound c_h2_seen c_s_length c_s_command c_s_position c_s_fault c_s_bytes c_s_numbers c_w_near c_w_far c_w_echoes c_w_totals c_p_result c_p_endTime c_q_count c_q_front c_q_least c_q_window c_q_pulses c_q_lengths c_q_fractions c_q_pulseTimes c_q_pulseEnergies c_t_near c_t_far c_t_echoes c_t_totals) lv pc (.ref (a 8) :: .ref (a 61) :: rest) := by
  obtain ⟨⟨o_p_result, o_p_endTime, r⟩, hc, hk⟩ := bd_some hf
  exact v_callV (As := [.ref (a 8)]) (rest := rest) (q0 := 61) 1 C (CapOK.z X) (fun D => Cm_P_timeOfNextPart_peel_n_seen hc) (goodV hl winstanceMethod_yX4_timeOfNextPart wselects_RX4_yX4_timeOfNextPart_yX4_timeOfNextPart winitialized_RX4 wcode_yX4_timeOfNextPart_cX4_timeOfNextPart_4_some_int) (by decide +kernel) hroom ⟨rfl, rfl⟩ rfl rfl rfl hst hdg (kk o_p_result o_p_endTime r hk)
set_option maxRecDepth 100000 in
theorem Cc_P_smallestFraction_peel {x1 : Int32} {x2 : Int32} {x3 : Int64} {cc : ByteArray} {own : String} {ret : Option FieldType} {nl fr lo pc ix : Nat} {lv : List (Nat × Value)} {rest : List Value} {β : Type} {K : Int32 → Option β} {oo : β} (hl : Cond.methodLink own ix yX4_smallestFraction ∈ wsG) (C : Cx X (SFG E) T cc own ret nl fr lo) (hdg : decode cc pc = .ok (.invokevirtual ix, 3)) (hroom : 2 + 1 ≤ fr ∧ 8 + (10 + 11) + 53 ≤ lo) (hst : (rest.map fun v => v.category).sum ≤ 8) (hf : bd (Cf_P_smallestFraction_peel c_q_count c_q_front c_q_least c_q_lengths c_q_fractions c_q_pulseEnergies c_t_near x1 x2 x3) K = some oo) (kk : ∀ (r : Int32), K r = some oo → V X 0 0 (wL E a T c_waveIsFresh c_peelingIsFresh c_n_count c_n_front c_n_least c_n_window c_n_pulses c_n_lengths c_n_fractions c_n_pulseTimes c_n_pulseEnergies c_n_sound c_n_seen c_hcount c_hp c_h0_count c_h0_front c_h0_least c_h0_window c_h0_pulses c_h0_lengths c_h0_fractions c_h0_pulseTimes c_h0_pulseEnergies c_h0_sound c_h0_seen c_h1_count c_h1_front c_h1_least c_h1_window c_h1_pulses c_h1_lengths c_h1_fractions c_h1_pulseTimes c_h1_pulseEnergies c_h1_sound c_h1_seen c_h2_count c_h2_front c_h2_least c_h2_window c_h2_pulses c_h2_lengths c_h2_fractions c_h2_pulseTimes c_h2_pulseEnergies c_h2_sound c_h2_seen c_s_length c_s_command c_s_position c_s_fault c_s_bytes c_s_numbers c_w_near c_w_far c_w_echoes c_w_totals c_p_result c_p_endTime c_q_count c_q_front c_q_least c_q_window c_q_pulses c_q_lengths c_q_fractions c_q_pulseTimes c_q_pulseEnergies c_t_near c_t_far c_t_echoes c_t_totals) lv (pc + 3) (.int r :: rest)) : V X 0 0 (wL E a T c_waveIsFresh c_peelingIsFresh c_n_count c_n_front c_n_least c_n_window c_n_pulses c_n_lengths c_n_fractions c_n_pulseTimes c_n_pulseEnergies c_n_sound c_n_seen c_hcount c_hp c_h0_count c_h0_front c_h0_least c_h0_window c_h0_pulses c_h0_lengths c_h0_fractions c_h0_pulseTimes c_h0_pulseEnergies c_h0_sound c_h0_seen c_h1_count c_h1_front c_h1_least c_h1_window c_h1_pulses c_h1_lengths c_h1_fractions c_h1_pulseTimes c_h1_pulseEnergies c_h1_sound c_h1_seen c_h2_count c_h2_front c_h2_least c_h2_window c_h2_pulses c_h2_lengths c_h2_fractions c_h2_pulseTimes c_h2_pulseEnergies c_h2_sound c_h2_seen c_s_length c_s_command c_s_position c_s_fault c_s_bytes c_s_numbers c_w_near c_w_far c_w_echoes c_w_totals c_p_result c_p_endTime c_q_count c_q_front c_q_least c_q_window c_q_pulses c_q_lengths c_q_fractions c_q_pulseTimes c_q_pulseEnergies c_t_near c_t_far c_t_echoes c_t_totals) lv pc (.long x3 :: .int x2 :: .int x1 :: .ref (a 61) :: rest) := by
  obtain ⟨r, hc, hk⟩ := bd_some hf
  exact v_callV (As := [.int x1, .int x2, .long x3]) (rest := rest) (q0 := 61) 3 C (CapOK.z X) (fun D => Cm_P_smallestFraction_peel hc) (goodV hl winstanceMethod_yX4_smallestFraction wselects_RX4_yX4_smallestFraction_yX4_smallestFraction winitialized_RX4 wcode_yX4_smallestFraction_cX4_smallestFraction_10_some_int) (by decide +kernel) hroom ⟨rfl, rfl⟩ rfl rfl rfl hst hdg (kk r hk)
set_option maxRecDepth 100000 in
theorem Cc_B_append_q {x1 : Int32} {x2 : Int32} {cc : ByteArray} {own : String} {ret : Option FieldType} {nl fr lo pc ix : Nat} {lv : List (Nat × Value)} {rest : List Value} {β : Type} {K : (Int32 × (Nat → Int32) × (Nat → Int32) × Int32) → Option β} {oo : β} (hl : Cond.methodLink own ix yX1_append ∈ wsG) (C : Cx X (SFG E) T cc own ret nl fr lo) (hdg : decode cc pc = .ok (.invokevirtual ix, 3)) (hroom : 0 + 1 ≤ fr ∧ 8 + (3 + 11) + 0 ≤ lo) (hst : (rest.map fun v => v.category).sum ≤ 8) (hf : bd (Cf_B_append_q c_q_count c_q_lengths c_q_fractions x1 x2) K = some oo) (kk : ∀ (o_q_count : Int32) (o_q_lengths : Nat → Int32) (o_q_fractions : Nat → Int32) (r : Int32), K (o_q_count, o_q_lengths, o_q_fractions, r) = some oo → V X 0 0 (wL E a T c_waveIsFresh c_peelingIsFresh c_n_count c_n_front c_n_least c_n_window c_n_pulses c_n_lengths c_n_fractions c_n_pulseTimes c_n_pulseEnergies c_n_sound c_n_seen c_hcount c_hp c_h0_count c_h0_front c_h0_least c_h0_window c_h0_pulses c_h0_lengths c_h0_fractions c_h0_pulseTimes c_h0_pulseEnergies c_h0_sound c_h0_seen c_h1_count c_h1_front c_h1_least c_h1_window c_h1_pulses c_h1_lengths c_h1_fractions c_h1_pulseTimes c_h1_pulseEnergies c_h1_sound c_h1_seen c_h2_count c_h2_front c_h2_least c_h2_window c_h2_pulses c_h2_lengths c_h2_fractions c_h2_pulseTimes c_h2_pulseEnergies c_h2_sound c_h2_seen c_s_length c_s_command c_s_position c_s_fault c_s_bytes c_s_numbers c_w_near c_w_far c_w_echoes c_w_totals c_p_result c_p_endTime o_q_count c_q_front c_q_least c_q_window c_q_pulses o_q_lengths o_q_fractions c_q_pulseTimes c_q_pulseEnergies c_t_near c_t_far c_t_echoes c_t_totals) lv (pc + 3) (.int r :: rest)) : V X 0 0 (wL E a T c_waveIsFresh c_peelingIsFresh c_n_count c_n_front c_n_least c_n_window c_n_pulses c_n_lengths c_n_fractions c_n_pulseTimes c_n_pulseEnergies c_n_sound c_n_seen c_hcount c_hp c_h0_count c_h0_front c_h0_least c_h0_window c_h0_pulses c_h0_lengths c_h0_fractions c_h0_pulseTimes c_h0_pulseEnergies c_h0_sound c_h0_seen c_h1_count c_h1_front c_h1_least c_h1_window c_h1_pulses c_h1_lengths c_h1_fractions c_h1_pulseTimes c_h1_pulseEnergies c_h1_sound c_h1_seen c_h2_count c_h2_front c_h2_least c_h2_window c_h2_pulses c_h2_lengths c_h2_fractions c_h2_pulseTimes c_h2_pulseEnergies c_h2_sound c_h2_seen c_s_length c_s_command c_s_position c_s_fault c_s_bytes c_s_numbers c_w_near c_w_far c_w_echoes c_w_totals c_p_result c_p_endTime c_q_count c_q_front c_q_least c_q_window c_q_pulses c_q_lengths c_q_fractions c_q_pulseTimes c_q_pulseEnergies c_t_near c_t_far c_t_echoes c_t_totals) lv pc (.int x2 :: .int x1 :: .ref (a 62) :: rest) := by
  obtain ⟨⟨o_q_count, o_q_lengths, o_q_fractions, r⟩, hc, hk⟩ := bd_some hf
  exact v_callV (As := [.int x1, .int x2]) (rest := rest) (q0 := 62) 2 C (CapOK.z X) (fun D => Cm_B_append_q hc) (goodV hl winstanceMethod_yX1_append wselects_RX1_yX1_append_yX1_append winitialized_RX1 wcode_yX1_append_cX1_append_3_some_int) (by decide +kernel) hroom ⟨rfl, rfl⟩ rfl rfl rfl hst hdg (kk o_q_count o_q_lengths o_q_fractions r hk)
def Cl_P_findLine_peel_N_10 (c_n_seen : Nat → Int64) (c_q_front : Int32) (c_q_least : Int32) (c_q_window : Int32) (c_q_pulses : Int32) (c_q_pulseTimes : Nat → Int32) (c_q_pulseEnergies : Nat → Int32) : Nat → Int32 → Int32 → Int32 → (Nat → Int32) → (Nat → Int32) → (Nat → Nat → Int64) → (Nat → Nat → Int64) → (Nat → Int64) → (Nat → Int64) → Int32 → Option ((Int32 × Int32 × Int32 × (Nat → Int32) × (Nat → Int32) × (Nat → Nat → Int64) × (Nat → Nat → Int64) × (Nat → Int64) × (Nat → Int64)) ⊕ ((Int32 × Int32 × Int32 × (Nat → Int32) × (Nat → Int32) × (Nat → Nat → Int64) × (Nat → Nat → Int64) × (Nat → Int64) × (Nat → Int64) × Int32) ⊕ (Int32 × Int32 × Int32 × (Nat → Int32) × (Nat → Int32) × (Nat → Nat → Int64) × (Nat → Nat → Int64) × (Nat → Int64) × (Nat → Int64))))
  | 0, _, _, _, _, _, _, _, _, _, _ => none
  | n + 1, c_p_result, c_p_endTime, c_q_count, c_q_lengths, c_q_fractions, c_t_near, c_t_far, c_t_echoes, c_t_totals, x2 =>
    if (8 : Int32) < x2 then
      some (.inr (.inr (c_p_result, c_p_endTime, c_q_count, c_q_lengths, c_q_fractions, c_t_near, c_t_far, c_t_echoes, c_t_totals)))
    else
      bd (Cf_W_spread_t_q c_q_count c_q_front c_q_least c_q_window c_q_pulses c_q_lengths c_q_fractions c_q_pulseTimes c_q_pulseEnergies c_t_near c_t_far c_t_echoes c_t_totals) fun (t_near_24, t_far_24, t_echoes_24, t_totals_24) =>
      bd (Cf_P_timeOfNextPart_peel_n_seen c_n_seen c_p_result c_p_endTime c_q_count c_q_window c_q_lengths t_echoes_24) fun (p_result_32, p_endTime_32, r32) =>
      if r32 = (-1 : Int32) then
        some (.inl (p_result_32, p_endTime_32, c_q_count, c_q_lengths, c_q_fractions, t_near_24, t_far_24, t_echoes_24, t_totals_24))
      else
        bd (Cf_B_reach_q c_q_lengths c_q_count) fun r53 =>
        chk (inb r32 201) <| nm (c_n_seen r32.toNatClampNeg) fun z67 =>
        bd (Cf_P_smallestFraction_peel c_q_count c_q_front c_q_least c_q_lengths c_q_fractions c_q_pulseEnergies t_near_24 r32 r53 z67) fun r68 =>
        if r68 = (-1 : Int32) then
          some (.inr (.inl (p_result_32, p_endTime_32, c_q_count, c_q_lengths, c_q_fractions, t_near_24, t_far_24, t_echoes_24, t_totals_24, r32)))
        else
          chk (¬ (2 : Int32) = 0) <| nm (r32 / (2 : Int32)) fun z92 =>
          nm (z92 - r53) fun z95 =>
          bd (Cf_B_append_q c_q_count c_q_lengths c_q_fractions z95 r68) fun (q_count_98, q_lengths_98, q_fractions_98, r98) =>
          nm (x2 + (1 : Int32)) fun x2_102 =>
          Cl_P_findLine_peel_N_10 c_n_seen c_q_front c_q_least c_q_window c_q_pulses c_q_pulseTimes c_q_pulseEnergies n p_result_32 p_endTime_32 q_count_98 q_lengths_98 q_fractions_98 t_near_24 t_far_24 t_echoes_24 t_totals_24 x2_102
set_option maxRecDepth 100000 in
set_option maxHeartbeats 4000000 in
theorem Ck_P_findLine_peel_N_10 (C : Cx X (SFG E) T cX4_findLine RX4 none 6 3 82)  {o9 : ((Int32 × Int32 × Int32 × (Nat → Int32) × (Nat → Int32) × (Nat → Nat → Int64) × (Nat → Nat → Int64) × (Nat → Int64) × (Nat → Int64)) ⊕ ((Int32 × Int32 × Int32 × (Nat → Int32) × (Nat → Int32) × (Nat → Nat → Int64) × (Nat → Nat → Int64) × (Nat → Int64) × (Nat → Int64) × Int32) ⊕ (Int32 × Int32 × Int32 × (Nat → Int32) × (Nat → Int32) × (Nat → Nat → Int64) × (Nat → Nat → Int64) × (Nat → Int64) × (Nat → Int64))))} (hk0 : ∀ (o_p_result : Int32) (o_p_endTime : Int32) (o_q_count : Int32) (o_q_lengths : Nat → Int32) (o_q_fractions : Nat → Int32) (o_t_near : Nat → Nat → Int64) (o_t_far : Nat → Nat → Int64) (o_t_echoes : Nat → Int64) (o_t_totals : Nat → Int64), o9 = .inl (o_p_result, o_p_endTime, o_q_count, o_q_lengths, o_q_fractions, o_t_near, o_t_far, o_t_echoes, o_t_totals) → V X 0 0 (wL E a T c_waveIsFresh c_peelingIsFresh c_n_count c_n_front c_n_least c_n_window c_n_pulses c_n_lengths c_n_fractions c_n_pulseTimes c_n_pulseEnergies c_n_sound c_n_seen c_hcount c_hp c_h0_count c_h0_front c_h0_least c_h0_window c_h0_pulses c_h0_lengths c_h0_fractions c_h0_pulseTimes c_h0_pulseEnergies c_h0_sound c_h0_seen c_h1_count c_h1_front c_h1_least c_h1_window c_h1_pulses c_h1_lengths c_h1_fractions c_h1_pulseTimes c_h1_pulseEnergies c_h1_sound c_h1_seen c_h2_count c_h2_front c_h2_least c_h2_window c_h2_pulses c_h2_lengths c_h2_fractions c_h2_pulseTimes c_h2_pulseEnergies c_h2_sound c_h2_seen c_s_length c_s_command c_s_position c_s_fault c_s_bytes c_s_numbers c_w_near c_w_far c_w_echoes c_w_totals o_p_result o_p_endTime o_q_count c_q_front c_q_least c_q_window c_q_pulses o_q_lengths o_q_fractions c_q_pulseTimes c_q_pulseEnergies o_t_near o_t_far o_t_echoes o_t_totals) [] 41 []) (hk1 : ∀ (o_p_result : Int32) (o_p_endTime : Int32) (o_q_count : Int32) (o_q_lengths : Nat → Int32) (o_q_fractions : Nat → Int32) (o_t_near : Nat → Nat → Int64) (o_t_far : Nat → Nat → Int64) (o_t_echoes : Nat → Int64) (o_t_totals : Nat → Int64) (y3 : Int32), o9 = .inr (.inl (o_p_result, o_p_endTime, o_q_count, o_q_lengths, o_q_fractions, o_t_near, o_t_far, o_t_echoes, o_t_totals, y3)) → V X 0 0 (wL E a T c_waveIsFresh c_peelingIsFresh c_n_count c_n_front c_n_least c_n_window c_n_pulses c_n_lengths c_n_fractions c_n_pulseTimes c_n_pulseEnergies c_n_sound c_n_seen c_hcount c_hp c_h0_count c_h0_front c_h0_least c_h0_window c_h0_pulses c_h0_lengths c_h0_fractions c_h0_pulseTimes c_h0_pulseEnergies c_h0_sound c_h0_seen c_h1_count c_h1_front c_h1_least c_h1_window c_h1_pulses c_h1_lengths c_h1_fractions c_h1_pulseTimes c_h1_pulseEnergies c_h1_sound c_h1_seen c_h2_count c_h2_front c_h2_least c_h2_window c_h2_pulses c_h2_lengths c_h2_fractions c_h2_pulseTimes c_h2_pulseEnergies c_h2_sound c_h2_seen c_s_length c_s_command c_s_position c_s_fault c_s_bytes c_s_numbers c_w_near c_w_far c_w_echoes c_w_totals o_p_result o_p_endTime o_q_count c_q_front c_q_least c_q_window c_q_pulses o_q_lengths o_q_fractions c_q_pulseTimes c_q_pulseEnergies o_t_near o_t_far o_t_echoes o_t_totals) [(0, .ref (a 61)), (3, .int y3)] 79 []) (hk2 : ∀ (o_p_result : Int32) (o_p_endTime : Int32) (o_q_count : Int32) (o_q_lengths : Nat → Int32) (o_q_fractions : Nat → Int32) (o_t_near : Nat → Nat → Int64) (o_t_far : Nat → Nat → Int64) (o_t_echoes : Nat → Int64) (o_t_totals : Nat → Int64), o9 = .inr (.inr (o_p_result, o_p_endTime, o_q_count, o_q_lengths, o_q_fractions, o_t_near, o_t_far, o_t_echoes, o_t_totals)) → V X 0 0 (wL E a T c_waveIsFresh c_peelingIsFresh c_n_count c_n_front c_n_least c_n_window c_n_pulses c_n_lengths c_n_fractions c_n_pulseTimes c_n_pulseEnergies c_n_sound c_n_seen c_hcount c_hp c_h0_count c_h0_front c_h0_least c_h0_window c_h0_pulses c_h0_lengths c_h0_fractions c_h0_pulseTimes c_h0_pulseEnergies c_h0_sound c_h0_seen c_h1_count c_h1_front c_h1_least c_h1_window c_h1_pulses c_h1_lengths c_h1_fractions c_h1_pulseTimes c_h1_pulseEnergies c_h1_sound c_h1_seen c_h2_count c_h2_front c_h2_least c_h2_window c_h2_pulses c_h2_lengths c_h2_fractions c_h2_pulseTimes c_h2_pulseEnergies c_h2_sound c_h2_seen c_s_length c_s_command c_s_position c_s_fault c_s_bytes c_s_numbers c_w_near c_w_far c_w_echoes c_w_totals o_p_result o_p_endTime o_q_count c_q_front c_q_least c_q_window c_q_pulses o_q_lengths o_q_fractions c_q_pulseTimes c_q_pulseEnergies o_t_near o_t_far o_t_echoes o_t_totals) [] 108 []) : ∀ (n : Nat) (c_p_result : Int32) (c_p_endTime : Int32) (c_q_count : Int32) (c_q_lengths : Nat → Int32) (c_q_fractions : Nat → Int32) (c_t_near : Nat → Nat → Int64) (c_t_far : Nat → Nat → Int64) (c_t_echoes : Nat → Int64) (c_t_totals : Nat → Int64) (x2 : Int32), Cl_P_findLine_peel_N_10 c_n_seen c_q_front c_q_least c_q_window c_q_pulses c_q_pulseTimes c_q_pulseEnergies n c_p_result c_p_endTime c_q_count c_q_lengths c_q_fractions c_t_near c_t_far c_t_echoes c_t_totals x2 = some o9 → V X 0 0 (wL E a T c_waveIsFresh c_peelingIsFresh c_n_count c_n_front c_n_least c_n_window c_n_pulses c_n_lengths c_n_fractions c_n_pulseTimes c_n_pulseEnergies c_n_sound c_n_seen c_hcount c_hp c_h0_count c_h0_front c_h0_least c_h0_window c_h0_pulses c_h0_lengths c_h0_fractions c_h0_pulseTimes c_h0_pulseEnergies c_h0_sound c_h0_seen c_h1_count c_h1_front c_h1_least c_h1_window c_h1_pulses c_h1_lengths c_h1_fractions c_h1_pulseTimes c_h1_pulseEnergies c_h1_sound c_h1_seen c_h2_count c_h2_front c_h2_least c_h2_window c_h2_pulses c_h2_lengths c_h2_fractions c_h2_pulseTimes c_h2_pulseEnergies c_h2_sound c_h2_seen c_s_length c_s_command c_s_position c_s_fault c_s_bytes c_s_numbers c_w_near c_w_far c_w_echoes c_w_totals c_p_result c_p_endTime c_q_count c_q_front c_q_least c_q_window c_q_pulses c_q_lengths c_q_fractions c_q_pulseTimes c_q_pulseEnergies c_t_near c_t_far c_t_echoes c_t_totals) [(0, .ref (a 61)), (1, .ref (a 1)), (2, .int x2)] 10 [] := by
  intro n
  induction n with
  | zero =>
    intro _ _ _ _ _ _ _ _ _ _ hf
    cases hf
  | succ n hrec =>
    intro c_p_result c_p_endTime c_q_count c_q_lengths c_q_fractions c_t_near c_t_far c_t_echoes c_t_totals x2 hf
    rw [Cl_P_findLine_peel_N_10] at hf
    refine v_iload_n 2 C dX4_findLine_10 rfl rfl ?_
    refine v_bipush (v := 8) C dX4_findLine_11 (by decide) ?_
    refine v_icmp_gt 108 C dX4_findLine_13 (by decide) hf (fun c hf => ?_) (fun c hf => ?_)
    · refine v_lv [] [] rfl ?_
      cases hf
      exact hk2 _ _ _ _ _ _ _ _ _ rfl
    · refine v_aload_n 0 C dX4_findLine_16 rfl rfl ?_
      refine Cg_61_trial wfieldLink_RX4_28_LineEchoes_Peeling_trial_LLineEchoes_Wave C dX4_findLine_17 ?_
      refine v_aload_n 0 C dX4_findLine_20 rfl rfl ?_
      refine Cg_61_line wfieldLink_RX4_12_LineEchoes_Peeling_line_LLineEchoes_Bench C dX4_findLine_21 ?_
      refine Cc_W_spread_t_q wmethodLink_RX4_41_yX8_spread C dX4_findLine_24 (by decide) (Nat.le_of_ble_eq_true rfl) hf (fun t_near_24 t_far_24 t_echoes_24 t_totals_24 hf => ?_)
      refine v_aload_n 0 C dX4_findLine_27 rfl rfl ?_
      refine v_aload_n 1 C dX4_findLine_28 rfl rfl ?_
      refine Cg_1_seen wfieldLink_RX4_44_LineEchoes_State_seen_J C dX4_findLine_29 ?_
      refine Cc_P_timeOfNextPart_peel_n_seen wmethodLink_RX4_48_yX4_timeOfNextPart C dX4_findLine_32 (by decide) (Nat.le_of_ble_eq_true rfl) hf (fun p_result_32 p_endTime_32 r32 hf => ?_)
      refine v_istore_n [(0, .ref (a 61)), (1, .ref (a 1)), (2, .int x2), (3, .int r32)] [1, 2, 3, 0] C dX4_findLine_35 rfl (by decide) rfl ?_
      refine v_iload_n 3 C dX4_findLine_36 rfl rfl ?_
      refine v_iconst (v := -1) C dX4_findLine_37 (by decide) ?_
      refine v_icmp_ne 42 C dX4_findLine_38 (by decide) hf (fun c hf => ?_) (fun c hf => ?_)
      · refine v_lv [] [] rfl ?_
        cases hf
        exact hk0 _ _ _ _ _ _ _ _ _ rfl
      · refine v_aload_n 0 C dX4_findLine_42 rfl rfl ?_
        refine Cg_61_line wfieldLink_RX4_12_LineEchoes_Peeling_line_LLineEchoes_Bench C dX4_findLine_43 ?_
        refine v_aload_n 0 C dX4_findLine_46 rfl rfl ?_
        refine Cg_61_line wfieldLink_RX4_12_LineEchoes_Peeling_line_LLineEchoes_Bench C dX4_findLine_47 ?_
        refine Cg_62_count wfieldLink_RX4_52_LineEchoes_Bench_count_I C dX4_findLine_50 ?_
        refine Cc_B_reach_q wmethodLink_RX4_55_yX1_reach C dX4_findLine_53 (by decide) (Nat.le_of_ble_eq_true rfl) hf (fun r53 hf => ?_)
        refine v_istore [(0, .ref (a 61)), (1, .ref (a 1)), (2, .int x2), (3, .int r32), (4, .int r53)] [1, 2, 3, 4, 0] C dX4_findLine_56 (by decide) rfl ?_
        refine v_aload_n 0 C dX4_findLine_58 rfl rfl ?_
        refine v_iload_n 3 C dX4_findLine_59 rfl rfl ?_
        refine v_iload 4 C dX4_findLine_60 rfl ?_
        refine v_aload_n 1 C dX4_findLine_62 rfl rfl ?_
        refine Cg_1_seen wfieldLink_RX4_44_LineEchoes_State_seen_J C dX4_findLine_63 ?_
        refine v_iload_n 3 C dX4_findLine_66 rfl rfl ?_
        refine Cal_8 C dX4_findLine_67 hf (fun z67 hf => ?_)
        refine Cc_P_smallestFraction_peel wmethodLink_RX4_59_yX4_smallestFraction C dX4_findLine_68 (by decide) (Nat.le_of_ble_eq_true rfl) hf (fun r68 hf => ?_)
        refine v_istore [(0, .ref (a 61)), (1, .ref (a 1)), (2, .int x2), (3, .int r32), (4, .int r53), (5, .int r68)] [1, 2, 3, 4, 5, 0] C dX4_findLine_71 (by decide) rfl ?_
        refine v_iload 5 C dX4_findLine_73 rfl ?_
        refine v_iconst (v := -1) C dX4_findLine_75 (by decide) ?_
        refine v_icmp_ne 86 C dX4_findLine_76 (by decide) hf (fun c hf => ?_) (fun c hf => ?_)
        · refine v_lv [(0, .ref (a 61)), (3, .int r32)] [0, 3] rfl ?_
          cases hf
          exact hk1 _ _ _ _ _ _ _ _ _ _ rfl
        · refine v_aload_n 0 C dX4_findLine_86 rfl rfl ?_
          refine Cg_61_line wfieldLink_RX4_12_LineEchoes_Peeling_line_LLineEchoes_Bench C dX4_findLine_87 ?_
          refine v_iload_n 3 C dX4_findLine_90 rfl rfl ?_
          refine v_iconst (v := 2) C dX4_findLine_91 (by decide) ?_
          refine v_idiv C dX4_findLine_92 hf (fun z92 hf => ?_)
          refine v_iload 4 C dX4_findLine_93 rfl ?_
          refine v_isub C dX4_findLine_95 hf (fun z95 hf => ?_)
          refine v_iload 5 C dX4_findLine_96 rfl ?_
          refine Cc_B_append_q wmethodLink_RX4_67_yX1_append C dX4_findLine_98 (by decide) (Nat.le_of_ble_eq_true rfl) hf (fun q_count_98 q_lengths_98 q_fractions_98 r98 hf => ?_)
          refine v_pop C dX4_findLine_101 rfl ?_
          refine v_iinc (fun x2_102 => [(0, .ref (a 61)), (1, .ref (a 1)), (2, .int x2_102)]) [1, 2, 0] C dX4_findLine_102 (j := 2) rfl (dv := 1) (by decide) (by decide) (fun _ => rfl) hf (fun x2_102 hf => ?_)
          refine v_goto 10 C dX4_findLine_105 (by decide) ?_
          exact hrec _ _ _ _ _ _ _ _ _ _ hf
set_option maxRecDepth 100000 in
theorem Cc_P_startLine_peel_n  {cc : ByteArray} {own : String} {ret : Option FieldType} {nl fr lo pc ix : Nat} {lv : List (Nat × Value)} {rest : List Value} {β : Type} {K : (Int32 × Int32 × Int32 × Int32 × Int32 × (Nat → Int32) × (Nat → Int32)) → Option β} {oo : β} (hl : Cond.methodLink own ix yX4_startLine ∈ wsG) (C : Cx X (SFG E) T cc own ret nl fr lo) (hdg : decode cc pc = .ok (.invokevirtual ix, 3)) (hroom : 1 + 1 ≤ fr ∧ 8 + (2 + 11) + 21 ≤ lo) (hst : (rest.map fun v => v.category).sum ≤ 8) (hf : bd (Cf_P_startLine_peel_n c_n_front c_n_least c_n_window c_n_pulseEnergies c_q_count c_q_front c_q_least c_q_window c_q_pulses c_q_pulseTimes c_q_pulseEnergies) K = some oo) (kk : ∀ (o_q_count : Int32) (o_q_front : Int32) (o_q_least : Int32) (o_q_window : Int32) (o_q_pulses : Int32) (o_q_pulseTimes : Nat → Int32) (o_q_pulseEnergies : Nat → Int32), K (o_q_count, o_q_front, o_q_least, o_q_window, o_q_pulses, o_q_pulseTimes, o_q_pulseEnergies) = some oo → V X 0 0 (wL E a T c_waveIsFresh c_peelingIsFresh c_n_count c_n_front c_n_least c_n_window c_n_pulses c_n_lengths c_n_fractions c_n_pulseTimes c_n_pulseEnergies c_n_sound c_n_seen c_hcount c_hp c_h0_count c_h0_front c_h0_least c_h0_window c_h0_pulses c_h0_lengths c_h0_fractions c_h0_pulseTimes c_h0_pulseEnergies c_h0_sound c_h0_seen c_h1_count c_h1_front c_h1_least c_h1_window c_h1_pulses c_h1_lengths c_h1_fractions c_h1_pulseTimes c_h1_pulseEnergies c_h1_sound c_h1_seen c_h2_count c_h2_front c_h2_least c_h2_window c_h2_pulses c_h2_lengths c_h2_fractions c_h2_pulseTimes c_h2_pulseEnergies c_h2_sound c_h2_seen c_s_length c_s_command c_s_position c_s_fault c_s_bytes c_s_numbers c_w_near c_w_far c_w_echoes c_w_totals c_p_result c_p_endTime o_q_count o_q_front o_q_least o_q_window o_q_pulses c_q_lengths c_q_fractions o_q_pulseTimes o_q_pulseEnergies c_t_near c_t_far c_t_echoes c_t_totals) lv (pc + 3) rest) : V X 0 0 (wL E a T c_waveIsFresh c_peelingIsFresh c_n_count c_n_front c_n_least c_n_window c_n_pulses c_n_lengths c_n_fractions c_n_pulseTimes c_n_pulseEnergies c_n_sound c_n_seen c_hcount c_hp c_h0_count c_h0_front c_h0_least c_h0_window c_h0_pulses c_h0_lengths c_h0_fractions c_h0_pulseTimes c_h0_pulseEnergies c_h0_sound c_h0_seen c_h1_count c_h1_front c_h1_least c_h1_window c_h1_pulses c_h1_lengths c_h1_fractions c_h1_pulseTimes c_h1_pulseEnergies c_h1_sound c_h1_seen c_h2_count c_h2_front c_h2_least c_h2_window c_h2_pulses c_h2_lengths c_h2_fractions c_h2_pulseTimes c_h2_pulseEnergies c_h2_sound c_h2_seen c_s_length c_s_command c_s_position c_s_fault c_s_bytes c_s_numbers c_w_near c_w_far c_w_echoes c_w_totals c_p_result c_p_endTime c_q_count c_q_front c_q_least c_q_window c_q_pulses c_q_lengths c_q_fractions c_q_pulseTimes c_q_pulseEnergies c_t_near c_t_far c_t_echoes c_t_totals) lv pc (.ref (a 2) :: .ref (a 61) :: rest) := by
  obtain ⟨⟨o_q_count, o_q_front, o_q_least, o_q_window, o_q_pulses, o_q_pulseTimes, o_q_pulseEnergies⟩, hc, hk⟩ := bd_some hf
  exact v_callV (As := [.ref (a 2)]) (rest := rest) (q0 := 61) 1 C (CapOK.z X) (fun D => Cm_P_startLine_peel_n hc) (goodV hl winstanceMethod_yX4_startLine wselects_RX4_yX4_startLine_yX4_startLine winitialized_RX4 wcode_yX4_startLine_cX4_startLine_2_none) (by decide +kernel) hroom ⟨rfl, rfl⟩ rfl rfl rfl hst hdg (kk o_q_count o_q_front o_q_least o_q_window o_q_pulses o_q_pulseTimes o_q_pulseEnergies hk)
def Cf_P_findLine_peel_N (c_n_front : Int32) (c_n_least : Int32) (c_n_window : Int32) (c_n_pulseEnergies : Nat → Int32) (c_n_seen : Nat → Int64) (c_p_result : Int32) (c_p_endTime : Int32) (c_q_count : Int32) (c_q_front : Int32) (c_q_least : Int32) (c_q_window : Int32) (c_q_pulses : Int32) (c_q_lengths : Nat → Int32) (c_q_fractions : Nat → Int32) (c_q_pulseTimes : Nat → Int32) (c_q_pulseEnergies : Nat → Int32) (c_t_near : Nat → Nat → Int64) (c_t_far : Nat → Nat → Int64) (c_t_echoes : Nat → Int64) (c_t_totals : Nat → Int64) : Option (Int32 × Int32 × Int32 × Int32 × Int32 × Int32 × Int32 × (Nat → Int32) × (Nat → Int32) × (Nat → Int32) × (Nat → Int32) × (Nat → Nat → Int64) × (Nat → Nat → Int64) × (Nat → Int64) × (Nat → Int64)) :=
  bd (Cf_P_startLine_peel_n c_n_front c_n_least c_n_window c_n_pulseEnergies c_q_count c_q_front c_q_least c_q_window c_q_pulses c_q_pulseTimes c_q_pulseEnergies) fun (q_count_5, q_front_5, q_least_5, q_window_5, q_pulses_5, q_pulseTimes_5, q_pulseEnergies_5) =>
  bd (Cl_P_findLine_peel_N_10 c_n_seen q_front_5 q_least_5 q_window_5 q_pulses_5 q_pulseTimes_5 q_pulseEnergies_5 FUEL c_p_result c_p_endTime q_count_5 c_q_lengths c_q_fractions c_t_near c_t_far c_t_echoes c_t_totals (0 : Int32)) fun o9 => match o9 with
  | .inl (o_p_result_10, o_p_endTime_10, o_q_count_10, o_q_lengths_10, o_q_fractions_10, o_t_near_10, o_t_far_10, o_t_echoes_10, o_t_totals_10) =>
    some (o_p_result_10, o_p_endTime_10, o_q_count_10, q_front_5, q_least_5, q_window_5, q_pulses_5, o_q_lengths_10, o_q_fractions_10, q_pulseTimes_5, q_pulseEnergies_5, o_t_near_10, o_t_far_10, o_t_echoes_10, o_t_totals_10)
  | .inr (.inl (o_p_result_10, o_p_endTime_10, o_q_count_10, o_q_lengths_10, o_q_fractions_10, o_t_near_10, o_t_far_10, o_t_echoes_10, o_t_totals_10, y3_10)) =>
    bd (Cf_P_endWith_peel o_p_result_10 o_p_endTime_10 (1 : Int32) y3_10) fun (p_result_82, p_endTime_82) =>
    some (p_result_82, p_endTime_82, o_q_count_10, q_front_5, q_least_5, q_window_5, q_pulses_5, o_q_lengths_10, o_q_fractions_10, q_pulseTimes_5, q_pulseEnergies_5, o_t_near_10, o_t_far_10, o_t_echoes_10, o_t_totals_10)
  | .inr (.inr (o_p_result_10, o_p_endTime_10, o_q_count_10, o_q_lengths_10, o_q_fractions_10, o_t_near_10, o_t_far_10, o_t_echoes_10, o_t_totals_10)) =>
    some (o_p_result_10, o_p_endTime_10, o_q_count_10, q_front_5, q_least_5, q_window_5, q_pulses_5, o_q_lengths_10, o_q_fractions_10, q_pulseTimes_5, q_pulseEnergies_5, o_t_near_10, o_t_far_10, o_t_echoes_10, o_t_totals_10)
set_option maxRecDepth 100000 in
set_option maxHeartbeats 4000000 in
theorem Cb_P_findLine_peel_N (C : Cx X (SFG E) T cX4_findLine RX4 none 6 3 82)  {o_p_result : Int32} {o_p_endTime : Int32} {o_q_count : Int32} {o_q_front : Int32} {o_q_least : Int32} {o_q_window : Int32} {o_q_pulses : Int32} {o_q_lengths : Nat → Int32} {o_q_fractions : Nat → Int32} {o_q_pulseTimes : Nat → Int32} {o_q_pulseEnergies : Nat → Int32} {o_t_near : Nat → Nat → Int64} {o_t_far : Nat → Nat → Int64} {o_t_echoes : Nat → Int64} {o_t_totals : Nat → Int64} (hret : RetOK X 0 0 none (wL E a T c_waveIsFresh c_peelingIsFresh c_n_count c_n_front c_n_least c_n_window c_n_pulses c_n_lengths c_n_fractions c_n_pulseTimes c_n_pulseEnergies c_n_sound c_n_seen c_hcount c_hp c_h0_count c_h0_front c_h0_least c_h0_window c_h0_pulses c_h0_lengths c_h0_fractions c_h0_pulseTimes c_h0_pulseEnergies c_h0_sound c_h0_seen c_h1_count c_h1_front c_h1_least c_h1_window c_h1_pulses c_h1_lengths c_h1_fractions c_h1_pulseTimes c_h1_pulseEnergies c_h1_sound c_h1_seen c_h2_count c_h2_front c_h2_least c_h2_window c_h2_pulses c_h2_lengths c_h2_fractions c_h2_pulseTimes c_h2_pulseEnergies c_h2_sound c_h2_seen c_s_length c_s_command c_s_position c_s_fault c_s_bytes c_s_numbers c_w_near c_w_far c_w_echoes c_w_totals o_p_result o_p_endTime o_q_count o_q_front o_q_least o_q_window o_q_pulses o_q_lengths o_q_fractions o_q_pulseTimes o_q_pulseEnergies o_t_near o_t_far o_t_echoes o_t_totals)) (hf : Cf_P_findLine_peel_N c_n_front c_n_least c_n_window c_n_pulseEnergies c_n_seen c_p_result c_p_endTime c_q_count c_q_front c_q_least c_q_window c_q_pulses c_q_lengths c_q_fractions c_q_pulseTimes c_q_pulseEnergies c_t_near c_t_far c_t_echoes c_t_totals = some (o_p_result, o_p_endTime, o_q_count, o_q_front, o_q_least, o_q_window, o_q_pulses, o_q_lengths, o_q_fractions, o_q_pulseTimes, o_q_pulseEnergies, o_t_near, o_t_far, o_t_echoes, o_t_totals)) : V X 0 0 (wL E a T c_waveIsFresh c_peelingIsFresh c_n_count c_n_front c_n_least c_n_window c_n_pulses c_n_lengths c_n_fractions c_n_pulseTimes c_n_pulseEnergies c_n_sound c_n_seen c_hcount c_hp c_h0_count c_h0_front c_h0_least c_h0_window c_h0_pulses c_h0_lengths c_h0_fractions c_h0_pulseTimes c_h0_pulseEnergies c_h0_sound c_h0_seen c_h1_count c_h1_front c_h1_least c_h1_window c_h1_pulses c_h1_lengths c_h1_fractions c_h1_pulseTimes c_h1_pulseEnergies c_h1_sound c_h1_seen c_h2_count c_h2_front c_h2_least c_h2_window c_h2_pulses c_h2_lengths c_h2_fractions c_h2_pulseTimes c_h2_pulseEnergies c_h2_sound c_h2_seen c_s_length c_s_command c_s_position c_s_fault c_s_bytes c_s_numbers c_w_near c_w_far c_w_echoes c_w_totals c_p_result c_p_endTime c_q_count c_q_front c_q_least c_q_window c_q_pulses c_q_lengths c_q_fractions c_q_pulseTimes c_q_pulseEnergies c_t_near c_t_far c_t_echoes c_t_totals) [(0, .ref (a 61)), (1, .ref (a 1))] 0 [] := by
  unfold Cf_P_findLine_peel_N at hf
  refine v_aload_n 0 C dX4_findLine_0 rfl rfl ?_
  refine v_aload_n 1 C dX4_findLine_1 rfl rfl ?_
  refine Cg_1_bench wfieldLink_RX4_32_LineEchoes_State_bench_LLineEchoes_Bench C dX4_findLine_2 ?_
  refine Cc_P_startLine_peel_n wmethodLink_RX4_37_yX4_startLine C dX4_findLine_5 (by decide) (Nat.le_of_ble_eq_true rfl) hf (fun q_count_5 q_front_5 q_least_5 q_window_5 q_pulses_5 q_pulseTimes_5 q_pulseEnergies_5 hf => ?_)
  refine v_iconst (v := 0) C dX4_findLine_8 (by decide) ?_
  refine v_istore_n [(0, .ref (a 61)), (1, .ref (a 1)), (2, .int (0 : Int32))] [1, 2, 0] C dX4_findLine_9 rfl (by decide) rfl ?_
  obtain ⟨o9, hc, hf⟩ := bd_some hf
  refine Ck_P_findLine_peel_N_10 C (fun o_p_result_10 o_p_endTime_10 o_q_count_10 o_q_lengths_10 o_q_fractions_10 o_t_near_10 o_t_far_10 o_t_echoes_10 o_t_totals_10 e9 => ?_) (fun o_p_result_10 o_p_endTime_10 o_q_count_10 o_q_lengths_10 o_q_fractions_10 o_t_near_10 o_t_far_10 o_t_echoes_10 o_t_totals_10 y3_10 e9 => ?_) (fun o_p_result_10 o_p_endTime_10 o_q_count_10 o_q_lengths_10 o_q_fractions_10 o_t_near_10 o_t_far_10 o_t_echoes_10 o_t_totals_10 e9 => ?_) _ _ _ _ _ _ _ _ _ _ _ hc
  · subst e9
    cases hf
    exact v_vret C hret dX4_findLine_41
  · subst e9
    refine v_aload_n 0 C dX4_findLine_79 rfl rfl ?_
    refine v_iconst (v := 1) C dX4_findLine_80 (by decide) ?_
    refine v_iload_n 1 C dX4_findLine_81 rfl rfl ?_
    refine Cc_P_endWith_peel wmethodLink_RX4_63_yX4_endWith C dX4_findLine_82 (by decide) (Nat.le_of_ble_eq_true rfl) hf (fun p_result_82 p_endTime_82 hf => ?_)
    cases hf
    exact v_vret C hret dX4_findLine_85
  · subst e9
    cases hf
    exact v_vret C hret dX4_findLine_108
set_option maxRecDepth 100000 in
set_option maxHeartbeats 4000000 in
theorem Cm_P_findLine_peel_N {D : va_G}  {o_p_result : Int32} {o_p_endTime : Int32} {o_q_count : Int32} {o_q_front : Int32} {o_q_least : Int32} {o_q_window : Int32} {o_q_pulses : Int32} {o_q_lengths : Nat → Int32} {o_q_fractions : Nat → Int32} {o_q_pulseTimes : Nat → Int32} {o_q_pulseEnergies : Nat → Int32} {o_t_near : Nat → Nat → Int64} {o_t_far : Nat → Nat → Int64} {o_t_echoes : Nat → Int64} {o_t_totals : Nat → Int64} (hf : Cf_P_findLine_peel_N c_n_front c_n_least c_n_window c_n_pulseEnergies c_n_seen c_p_result c_p_endTime c_q_count c_q_front c_q_least c_q_window c_q_pulses c_q_lengths c_q_fractions c_q_pulseTimes c_q_pulseEnergies c_t_near c_t_far c_t_echoes c_t_totals = some (o_p_result, o_p_endTime, o_q_count, o_q_front, o_q_least, o_q_window, o_q_pulses, o_q_lengths, o_q_fractions, o_q_pulseTimes, o_q_pulseEnergies, o_t_near, o_t_far, o_t_echoes, o_t_totals)) : MetM (SFG E) yX4_findLine cX4_findLine 6 none { frames := 3, cells := 0, slots := 0, locals := 82 } D T [.ref (a 61), .ref (a 1)] (wL E a T c_waveIsFresh c_peelingIsFresh c_n_count c_n_front c_n_least c_n_window c_n_pulses c_n_lengths c_n_fractions c_n_pulseTimes c_n_pulseEnergies c_n_sound c_n_seen c_hcount c_hp c_h0_count c_h0_front c_h0_least c_h0_window c_h0_pulses c_h0_lengths c_h0_fractions c_h0_pulseTimes c_h0_pulseEnergies c_h0_sound c_h0_seen c_h1_count c_h1_front c_h1_least c_h1_window c_h1_pulses c_h1_lengths c_h1_fractions c_h1_pulseTimes c_h1_pulseEnergies c_h1_sound c_h1_seen c_h2_count c_h2_front c_h2_least c_h2_window c_h2_pulses c_h2_lengths c_h2_fractions c_h2_pulseTimes c_h2_pulseEnergies c_h2_sound c_h2_seen c_s_length c_s_command c_s_position c_s_fault c_s_bytes c_s_numbers c_w_near c_w_far c_w_echoes c_w_totals c_p_result c_p_endTime c_q_count c_q_front c_q_least c_q_window c_q_pulses c_q_lengths c_q_fractions c_q_pulseTimes c_q_pulseEnergies c_t_near c_t_far c_t_echoes c_t_totals) none (wL E a T c_waveIsFresh c_peelingIsFresh c_n_count c_n_front c_n_least c_n_window c_n_pulses c_n_lengths c_n_fractions c_n_pulseTimes c_n_pulseEnergies c_n_sound c_n_seen c_hcount c_hp c_h0_count c_h0_front c_h0_least c_h0_window c_h0_pulses c_h0_lengths c_h0_fractions c_h0_pulseTimes c_h0_pulseEnergies c_h0_sound c_h0_seen c_h1_count c_h1_front c_h1_least c_h1_window c_h1_pulses c_h1_lengths c_h1_fractions c_h1_pulseTimes c_h1_pulseEnergies c_h1_sound c_h1_seen c_h2_count c_h2_front c_h2_least c_h2_window c_h2_pulses c_h2_lengths c_h2_fractions c_h2_pulseTimes c_h2_pulseEnergies c_h2_sound c_h2_seen c_s_length c_s_command c_s_position c_s_fault c_s_bytes c_s_numbers c_w_near c_w_far c_w_echoes c_w_totals o_p_result o_p_endTime o_q_count o_q_front o_q_least o_q_window o_q_pulses o_q_lengths o_q_fractions o_q_pulseTimes o_q_pulseEnergies o_t_near o_t_far o_t_echoes o_t_totals) :=
  MetM.of [(0, .ref (a 61)), (1, .ref (a 1))] (by decide) (Nat.le_of_ble_eq_true rfl) rfl (fun X C hret => Cb_P_findLine_peel_N C hret hf)
end CM3
