section CM1
variable {X : CxT} {G : SG} {T : Nat → ClassId} {E : Nat → Nat → Nat} {a : Nat → Nat} {w : va_W} {c_waveIsFresh : Int32} {c_peelingIsFresh : Int32} {c_n_count : Int32} {c_n_front : Int32} {c_n_least : Int32} {c_n_window : Int32} {c_n_pulses : Int32} {c_n_lengths : Nat → Int32} {c_n_fractions : Nat → Int32} {c_n_pulseTimes : Nat → Int32} {c_n_pulseEnergies : Nat → Int32} {c_n_sound : Nat → Int64} {c_n_seen : Nat → Int64} {c_hcount : Int32} {c_hp : Nat → Nat} {c_h0_count : Int32} {c_h0_front : Int32} {c_h0_least : Int32} {c_h0_window : Int32} {c_h0_pulses : Int32} {c_h0_lengths : Nat → Int32} {c_h0_fractions : Nat → Int32} {c_h0_pulseTimes : Nat → Int32} {c_h0_pulseEnergies : Nat → Int32} {c_h0_sound : Nat → Int64} {c_h0_seen : Nat → Int64} {c_h1_count : Int32} {c_h1_front : Int32} {c_h1_least : Int32} {c_h1_window : Int32} {c_h1_pulses : Int32} {c_h1_lengths : Nat → Int32} {c_h1_fractions : Nat → Int32} {c_h1_pulseTimes : Nat → Int32} {c_h1_pulseEnergies : Nat → Int32} {c_h1_sound : Nat → Int64} {c_h1_seen : Nat → Int64} {c_h2_count : Int32} {c_h2_front : Int32} {c_h2_least : Int32} {c_h2_window : Int32} {c_h2_pulses : Int32} {c_h2_lengths : Nat → Int32} {c_h2_fractions : Nat → Int32} {c_h2_pulseTimes : Nat → Int32} {c_h2_pulseEnergies : Nat → Int32} {c_h2_sound : Nat → Int64} {c_h2_seen : Nat → Int64} {c_s_length : Int32} {c_s_command : Nat} {c_s_position : Int32} {c_s_fault : Int32} {c_s_bytes : Nat → Int32} {c_s_numbers : Nat → Int32} {c_w_near : Nat → Nat → Int64} {c_w_far : Nat → Nat → Int64} {c_w_echoes : Nat → Int64} {c_w_totals : Nat → Int64} {c_p_result : Int32} {c_p_endTime : Int32} {c_q_count : Int32} {c_q_front : Int32} {c_q_least : Int32} {c_q_window : Int32} {c_q_pulses : Int32} {c_q_lengths : Nat → Int32} {c_q_fractions : Nat → Int32} {c_q_pulseTimes : Nat → Int32} {c_q_pulseEnergies : Nat → Int32} {c_t_near : Nat → Nat → Int64} {c_t_far : Nat → Nat → Int64} {c_t_echoes : Nat → Int64} {c_t_totals : Nat → Int64}
def Cf_W_meetFront_w_n_31 (c_n_least : Int32) (c_n_window : Int32) (c_n_pulses : Int32) (c_n_lengths : Nat → Int32) (c_n_pulseTimes : Nat → Int32) (c_n_pulseEnergies : Nat → Int32) (c_w_near : Nat → Nat → Int64) (c_w_far : Nat → Nat → Int64) (c_w_echoes : Nat → Int64) (c_w_totals : Nat → Int64) (x2 : Int32) (x3 : Int64) (x5 : Int64) (s0 : Int32) : Option ((Nat → Nat → Int64) × (Nat → Nat → Int64) × (Nat → Int64) × (Nat → Int64)) :=
  nm (x3 - x5) fun z41 =>
  chk (inb x2 201) <| nm (vp_updL c_w_echoes x2.toNatClampNeg z41) fun w_echoes_42 =>
  bd (Cl_W_meetFront_w_n_46 c_n_pulses c_n_pulseTimes c_n_pulseEnergies x2 FUEL x5 s0 (0 : Int32)) fun (y5_46, y7_46) =>
  if y7_46 ≤ (1 : Int32) then
    Cf_W_meetFront_w_n_104 c_n_least c_n_window c_n_lengths c_w_near c_w_far w_echoes_42 c_w_totals x2 y5_46
  else
    chk (inb (5 : Int32) 9) <| nm (c_w_totals (5 : Int32).toNatClampNeg) fun z100 =>
    nm (z100 + (1 : Int64)) fun z102 =>
    chk (inb (5 : Int32) 9) <| nm (vp_updL c_w_totals (5 : Int32).toNatClampNeg z102) fun w_totals_103 =>
    Cf_W_meetFront_w_n_104 c_n_least c_n_window c_n_lengths c_w_near c_w_far w_echoes_42 w_totals_103 x2 y5_46
set_option maxRecDepth 100000 in
set_option maxHeartbeats 4000000 in
theorem Cb_W_meetFront_w_n_31 (C : Cx X (SFG E) T cX8_meetFront RX8 none 9 1 27) {x2 : Int32} {x3 : Int64} {x5 : Int64} {s0 : Int32} {o_w_near : Nat → Nat → Int64} {o_w_far : Nat → Nat → Int64} {o_w_echoes : Nat → Int64} {o_w_totals : Nat → Int64} (hret : RetOK X 0 0 none (wL E a T c_waveIsFresh c_peelingIsFresh c_n_count c_n_front c_n_least c_n_window c_n_pulses c_n_lengths c_n_fractions c_n_pulseTimes c_n_pulseEnergies c_n_sound c_n_seen c_hcount c_hp c_h0_count c_h0_front c_h0_least c_h0_window c_h0_pulses c_h0_lengths c_h0_fractions c_h0_pulseTimes c_h0_pulseEnergies c_h0_sound c_h0_seen c_h1_count c_h1_front c_h1_least c_h1_window c_h1_pulses c_h1_lengths c_h1_fractions c_h1_pulseTimes c_h1_pulseEnergies c_h1_sound c_h1_seen c_h2_count c_h2_front c_h2_least c_h2_window c_h2_pulses c_h2_lengths c_h2_fractions c_h2_pulseTimes c_h2_pulseEnergies c_h2_sound c_h2_seen c_s_length c_s_command c_s_position c_s_fault c_s_bytes c_s_numbers o_w_near o_w_far o_w_echoes o_w_totals c_p_result c_p_endTime c_q_count c_q_front c_q_least c_q_window c_q_pulses c_q_lengths c_q_fractions c_q_pulseTimes c_q_pulseEnergies c_t_near c_t_far c_t_echoes c_t_totals)) (hf : Cf_W_meetFront_w_n_31 c_n_least c_n_window c_n_pulses c_n_lengths c_n_pulseTimes c_n_pulseEnergies c_w_near c_w_far c_w_echoes c_w_totals x2 x3 x5 s0 = some (o_w_near, o_w_far, o_w_echoes, o_w_totals)) : V X 0 0 (wL E a T c_waveIsFresh c_peelingIsFresh c_n_count c_n_front c_n_least c_n_window c_n_pulses c_n_lengths c_n_fractions c_n_pulseTimes c_n_pulseEnergies c_n_sound c_n_seen c_hcount c_hp c_h0_count c_h0_front c_h0_least c_h0_window c_h0_pulses c_h0_lengths c_h0_fractions c_h0_pulseTimes c_h0_pulseEnergies c_h0_sound c_h0_seen c_h1_count c_h1_front c_h1_least c_h1_window c_h1_pulses c_h1_lengths c_h1_fractions c_h1_pulseTimes c_h1_pulseEnergies c_h1_sound c_h1_seen c_h2_count c_h2_front c_h2_least c_h2_window c_h2_pulses c_h2_lengths c_h2_fractions c_h2_pulseTimes c_h2_pulseEnergies c_h2_sound c_h2_seen c_s_length c_s_command c_s_position c_s_fault c_s_bytes c_s_numbers c_w_near c_w_far c_w_echoes c_w_totals c_p_result c_p_endTime c_q_count c_q_front c_q_least c_q_window c_q_pulses c_q_lengths c_q_fractions c_q_pulseTimes c_q_pulseEnergies c_t_near c_t_far c_t_echoes c_t_totals) [(0, .ref (a 38)), (1, .ref (a 2)), (2, .int x2), (3, .long x3), (5, .long x5)] 31 [.int s0] := by
  unfold Cf_W_meetFront_w_n_31 at hf
  refine v_istore [(0, .ref (a 38)), (1, .ref (a 2)), (2, .int x2), (3, .long x3), (5, .long x5), (7, .int s0)] [1, 2, 3, 4, 5, 0] C dX8_meetFront_31 (by decide) rfl ?_
  refine v_aload_n 0 C dX8_meetFront_33 rfl rfl ?_
  refine Cg_38_echoes wfieldLink_RX8_19_LineEchoes_Wave_echoes_J C dX8_meetFront_34 ?_
  refine v_iload_n 2 C dX8_meetFront_37 rfl rfl ?_
  refine v_lload_n 3 C dX8_meetFront_38 rfl rfl ?_
  refine v_lload 4 C dX8_meetFront_39 rfl ?_
  refine v_lsub C dX8_meetFront_41 hf (fun z41 hf => ?_)
  refine Cas_41 C dX8_meetFront_42 hf (fun w_echoes_42 hf => ?_)
  refine v_iconst (v := 0) C dX8_meetFront_43 (by decide) ?_
  refine v_istore [(0, .ref (a 38)), (1, .ref (a 2)), (2, .int x2), (5, .long x5), (7, .int s0), (8, .int (0 : Int32))] [1, 2, 3, 5, 6, 0] C dX8_meetFront_44 (by decide) rfl ?_
  obtain ⟨⟨y5_46, y7_46⟩, hc, hf⟩ := bd_some hf
  refine Ck_W_meetFront_w_n_46 C ?_ _ _ _ _ hc
  refine v_iload 4 C dX8_meetFront_88 rfl ?_
  refine v_iconst (v := 1) C dX8_meetFront_90 (by decide) ?_
  refine v_icmp_le 104 C dX8_meetFront_91 (by decide) hf (fun c hf => ?_) (fun c hf => ?_)
  · refine v_lv [(0, .ref (a 38)), (1, .ref (a 2)), (2, .int x2), (5, .long y5_46)] [0, 1, 2, 3] rfl ?_
    exact Cb_W_meetFront_w_n_104 C hret hf
  · refine v_aload_n 0 C dX8_meetFront_94 rfl rfl ?_
    refine Cg_38_totals wfieldLink_RX8_23_LineEchoes_Wave_totals_J C dX8_meetFront_95 ?_
    refine v_iconst (v := 5) C dX8_meetFront_98 (by decide) ?_
    refine v_dup2_11 C dX8_meetFront_99 rfl rfl ?_
    refine Cal_42 C dX8_meetFront_100 hf (fun z100 hf => ?_)
    refine v_lconst (v := 1) C dX8_meetFront_101 (by decide) ?_
    refine v_ladd C dX8_meetFront_102 hf (fun z102 hf => ?_)
    refine Cas_42 C dX8_meetFront_103 hf (fun w_totals_103 hf => ?_)
    refine v_lv [(0, .ref (a 38)), (1, .ref (a 2)), (2, .int x2), (5, .long y5_46)] [0, 1, 2, 3] rfl ?_
    exact Cb_W_meetFront_w_n_104 C hret hf
set_option maxRecDepth 100000 in
theorem Cc_L_turnedBack_N {x0 : Int64} {x2 : Int32} {cc : ByteArray} {own : String} {ret : Option FieldType} {nl fr lo pc ix : Nat} {lv : List (Nat × Value)} {rest : List Value} {β : Type} {K : Int64 → Option β} {oo : β} (hl : ∀ (A : Nat → Prop) (U : State) (H : Heap), SFG E A U H → va_Nw (.methodLinkNest own ix yX9_turnedBack "LineEchoes") U) (C : Cx X (SFG E) T cc own ret nl fr lo) (hdg : decode cc pc = .ok (.invokestatic ix, 3)) (hroom : 0 + 1 ≤ fr ∧ 8 + (3 + 11) + 0 ≤ lo) (hst : (rest.map fun v => v.category).sum ≤ 8) (hf : bd (Cf_L_turnedBack x0 x2) K = some oo) (kk : ∀ (r : Int64), K r = some oo → V X 0 0 w lv (pc + 3) (.long r :: rest)) : V X 0 0 w lv pc (.int x2 :: .long x0 :: rest) := by
  obtain ⟨r, hc, hk⟩ := bd_some hf
  exact v_callSN (As := [.long x0, .int x2]) (rest := rest) 2 C (CapOK.z X) (fun D => Cm_L_turnedBack hc) hl wcode_yX9_turnedBack_cX9_turnedBack_3_some_long wstatic_yX9_turnedBack winitialized_RX9 (by decide +kernel) hroom ⟨rfl, rfl⟩ rfl hst hdg (kk r hk)
def Cf_W_meetFront_w_n (c_n_front : Int32) (c_n_least : Int32) (c_n_window : Int32) (c_n_pulses : Int32) (c_n_lengths : Nat → Int32) (c_n_pulseTimes : Nat → Int32) (c_n_pulseEnergies : Nat → Int32) (c_w_near : Nat → Nat → Int64) (c_w_far : Nat → Nat → Int64) (c_w_echoes : Nat → Int64) (c_w_totals : Nat → Int64) (x2 : Int32) : Option ((Nat → Nat → Int64) × (Nat → Nat → Int64) × (Nat → Int64) × (Nat → Int64)) :=
  chk (inb (0 : Int32) 9) <|
  chk (inb x2 201) <| nm (c_w_far (0 : Int32).toNatClampNeg x2.toNatClampNeg) fun z7 =>
  bd (Cf_L_turnedBack z7 c_n_front) fun r14 =>
  if r14 ≤ (0 : Int64) then
    Cf_W_meetFront_w_n_31 c_n_least c_n_window c_n_pulses c_n_lengths c_n_pulseTimes c_n_pulseEnergies c_w_near c_w_far c_w_echoes c_w_totals x2 z7 r14 (0 : Int32)
  else
    Cf_W_meetFront_w_n_31 c_n_least c_n_window c_n_pulses c_n_lengths c_n_pulseTimes c_n_pulseEnergies c_w_near c_w_far c_w_echoes c_w_totals x2 z7 r14 (1 : Int32)
set_option maxRecDepth 100000 in
set_option maxHeartbeats 4000000 in
theorem Cb_W_meetFront_w_n (C : Cx X (SFG E) T cX8_meetFront RX8 none 9 1 27) {x2 : Int32} {o_w_near : Nat → Nat → Int64} {o_w_far : Nat → Nat → Int64} {o_w_echoes : Nat → Int64} {o_w_totals : Nat → Int64} (hret : RetOK X 0 0 none (wL E a T c_waveIsFresh c_peelingIsFresh c_n_count c_n_front c_n_least c_n_window c_n_pulses c_n_lengths c_n_fractions c_n_pulseTimes c_n_pulseEnergies c_n_sound c_n_seen c_hcount c_hp c_h0_count c_h0_front c_h0_least c_h0_window c_h0_pulses c_h0_lengths c_h0_fractions c_h0_pulseTimes c_h0_pulseEnergies c_h0_sound c_h0_seen c_h1_count c_h1_front c_h1_least c_h1_window c_h1_pulses c_h1_lengths c_h1_fractions c_h1_pulseTimes c_h1_pulseEnergies c_h1_sound c_h1_seen c_h2_count c_h2_front c_h2_least c_h2_window c_h2_pulses c_h2_lengths c_h2_fractions c_h2_pulseTimes c_h2_pulseEnergies c_h2_sound c_h2_seen c_s_length c_s_command c_s_position c_s_fault c_s_bytes c_s_numbers o_w_near o_w_far o_w_echoes o_w_totals c_p_result c_p_endTime c_q_count c_q_front c_q_least c_q_window c_q_pulses c_q_lengths c_q_fractions c_q_pulseTimes c_q_pulseEnergies c_t_near c_t_far c_t_echoes c_t_totals)) (hf : Cf_W_meetFront_w_n c_n_front c_n_least c_n_window c_n_pulses c_n_lengths c_n_pulseTimes c_n_pulseEnergies c_w_near c_w_far c_w_echoes c_w_totals x2 = some (o_w_near, o_w_far, o_w_echoes, o_w_totals)) : V X 0 0 (wL E a T c_waveIsFresh c_peelingIsFresh c_n_count c_n_front c_n_least c_n_window c_n_pulses c_n_lengths c_n_fractions c_n_pulseTimes c_n_pulseEnergies c_n_sound c_n_seen c_hcount c_hp c_h0_count c_h0_front c_h0_least c_h0_window c_h0_pulses c_h0_lengths c_h0_fractions c_h0_pulseTimes c_h0_pulseEnergies c_h0_sound c_h0_seen c_h1_count c_h1_front c_h1_least c_h1_window c_h1_pulses c_h1_lengths c_h1_fractions c_h1_pulseTimes c_h1_pulseEnergies c_h1_sound c_h1_seen c_h2_count c_h2_front c_h2_least c_h2_window c_h2_pulses c_h2_lengths c_h2_fractions c_h2_pulseTimes c_h2_pulseEnergies c_h2_sound c_h2_seen c_s_length c_s_command c_s_position c_s_fault c_s_bytes c_s_numbers c_w_near c_w_far c_w_echoes c_w_totals c_p_result c_p_endTime c_q_count c_q_front c_q_least c_q_window c_q_pulses c_q_lengths c_q_fractions c_q_pulseTimes c_q_pulseEnergies c_t_near c_t_far c_t_echoes c_t_totals) [(0, .ref (a 38)), (1, .ref (a 2)), (2, .int x2)] 0 [] := by
  unfold Cf_W_meetFront_w_n at hf
  refine v_aload_n 0 C dX8_meetFront_0 rfl rfl ?_
  refine Cg_38_fromFar wfieldLink_RX8_16_LineEchoes_Wave_fromFar_J C dX8_meetFront_1 ?_
  refine v_iconst (v := 0) C dX8_meetFront_4 (by decide) ?_
  refine Cao_40 C dX8_meetFront_5 hf (fun hj5 hf => ?_)
  refine v_iload_n 2 C dX8_meetFront_6 rfl rfl ?_
  refine Crl_52 hj5 C dX8_meetFront_7 hf (fun z7 hf => ?_)
  refine v_lstore_n [(0, .ref (a 38)), (1, .ref (a 2)), (2, .int x2), (3, .long z7)] [1, 2, 3, 0] C dX8_meetFront_8 rfl (by decide) rfl ?_
  refine v_lload_n 3 C dX8_meetFront_9 rfl rfl ?_
  refine v_aload_n 1 C dX8_meetFront_10 rfl rfl ?_
  refine Cg_2_front wfieldLink_RX8_75_LineEchoes_Bench_front_I C dX8_meetFront_11 ?_
  refine Cc_L_turnedBack_N nest1 C dX8_meetFront_14 (by decide) (Nat.le_of_ble_eq_true rfl) hf (fun r14 hf => ?_)
  refine v_lstore [(0, .ref (a 38)), (1, .ref (a 2)), (2, .int x2), (3, .long z7), (5, .long r14)] [1, 2, 3, 4, 0] C dX8_meetFront_17 (by decide) rfl ?_
  refine v_lload 4 C dX8_meetFront_19 rfl ?_
  refine v_lconst (v := 0) C dX8_meetFront_21 (by decide) ?_
  refine v_lcmp_le 30 C dX8_meetFront_22 dX8_meetFront_23 (by decide) hf (fun c hf => ?_) (fun c hf => ?_)
  · refine v_iconst (v := 0) C dX8_meetFront_30 (by decide) ?_
    exact Cb_W_meetFront_w_n_31 C hret hf
  · refine v_iconst (v := 1) C dX8_meetFront_26 (by decide) ?_
    refine v_goto 31 C dX8_meetFront_27 (by decide) ?_
    exact Cb_W_meetFront_w_n_31 C hret hf
set_option maxRecDepth 100000 in
set_option maxHeartbeats 4000000 in
theorem Cm_W_meetFront_w_n {D : va_G} {x2 : Int32} {o_w_near : Nat → Nat → Int64} {o_w_far : Nat → Nat → Int64} {o_w_echoes : Nat → Int64} {o_w_totals : Nat → Int64} (hf : Cf_W_meetFront_w_n c_n_front c_n_least c_n_window c_n_pulses c_n_lengths c_n_pulseTimes c_n_pulseEnergies c_w_near c_w_far c_w_echoes c_w_totals x2 = some (o_w_near, o_w_far, o_w_echoes, o_w_totals)) : MetM (SFG E) yX8_meetFront cX8_meetFront 9 none { frames := 1, cells := 0, slots := 0, locals := 27 } D T [.ref (a 38), .ref (a 2), .int x2] (wL E a T c_waveIsFresh c_peelingIsFresh c_n_count c_n_front c_n_least c_n_window c_n_pulses c_n_lengths c_n_fractions c_n_pulseTimes c_n_pulseEnergies c_n_sound c_n_seen c_hcount c_hp c_h0_count c_h0_front c_h0_least c_h0_window c_h0_pulses c_h0_lengths c_h0_fractions c_h0_pulseTimes c_h0_pulseEnergies c_h0_sound c_h0_seen c_h1_count c_h1_front c_h1_least c_h1_window c_h1_pulses c_h1_lengths c_h1_fractions c_h1_pulseTimes c_h1_pulseEnergies c_h1_sound c_h1_seen c_h2_count c_h2_front c_h2_least c_h2_window c_h2_pulses c_h2_lengths c_h2_fractions c_h2_pulseTimes c_h2_pulseEnergies c_h2_sound c_h2_seen c_s_length c_s_command c_s_position c_s_fault c_s_bytes c_s_numbers c_w_near c_w_far c_w_echoes c_w_totals c_p_result c_p_endTime c_q_count c_q_front c_q_least c_q_window c_q_pulses c_q_lengths c_q_fractions c_q_pulseTimes c_q_pulseEnergies c_t_near c_t_far c_t_echoes c_t_totals) none (wL E a T c_waveIsFresh c_peelingIsFresh c_n_count c_n_front c_n_least c_n_window c_n_pulses c_n_lengths c_n_fractions c_n_pulseTimes c_n_pulseEnergies c_n_sound c_n_seen c_hcount c_hp c_h0_count c_h0_front c_h0_least c_h0_window c_h0_pulses c_h0_lengths c_h0_fractions c_h0_pulseTimes c_h0_pulseEnergies c_h0_sound c_h0_seen c_h1_count c_h1_front c_h1_least c_h1_window c_h1_pulses c_h1_lengths c_h1_fractions c_h1_pulseTimes c_h1_pulseEnergies c_h1_sound c_h1_seen c_h2_count c_h2_front c_h2_least c_h2_window c_h2_pulses c_h2_lengths c_h2_fractions c_h2_pulseTimes c_h2_pulseEnergies c_h2_sound c_h2_seen c_s_length c_s_command c_s_position c_s_fault c_s_bytes c_s_numbers o_w_near o_w_far o_w_echoes o_w_totals c_p_result c_p_endTime c_q_count c_q_front c_q_least c_q_window c_q_pulses c_q_lengths c_q_fractions c_q_pulseTimes c_q_pulseEnergies c_t_near c_t_far c_t_echoes c_t_totals) :=
  MetM.of [(0, .ref (a 38)), (1, .ref (a 2)), (2, .int x2)] (by decide) (Nat.le_of_ble_eq_true rfl) rfl (fun X C hret => Cb_W_meetFront_w_n C hret hf)
def Cf_W_countMerging_w_22 (c_w_totals : Nat → Int64) : Option (Nat → Int64) :=
  some c_w_totals
set_option maxRecDepth 100000 in
set_option maxHeartbeats 4000000 in
theorem Cb_W_countMerging_w_22 (C : Cx X (SFG E) T cX8_countMerging RX8 none 5 0 0)  {o_w_totals : Nat → Int64} (hret : RetOK X 0 0 none (wL E a T c_waveIsFresh c_peelingIsFresh c_n_count c_n_front c_n_least c_n_window c_n_pulses c_n_lengths c_n_fractions c_n_pulseTimes c_n_pulseEnergies c_n_sound c_n_seen c_hcount c_hp c_h0_count c_h0_front c_h0_least c_h0_window c_h0_pulses c_h0_lengths c_h0_fractions c_h0_pulseTimes c_h0_pulseEnergies c_h0_sound c_h0_seen c_h1_count c_h1_front c_h1_least c_h1_window c_h1_pulses c_h1_lengths c_h1_fractions c_h1_pulseTimes c_h1_pulseEnergies c_h1_sound c_h1_seen c_h2_count c_h2_front c_h2_least c_h2_window c_h2_pulses c_h2_lengths c_h2_fractions c_h2_pulseTimes c_h2_pulseEnergies c_h2_sound c_h2_seen c_s_length c_s_command c_s_position c_s_fault c_s_bytes c_s_numbers c_w_near c_w_far c_w_echoes o_w_totals c_p_result c_p_endTime c_q_count c_q_front c_q_least c_q_window c_q_pulses c_q_lengths c_q_fractions c_q_pulseTimes c_q_pulseEnergies c_t_near c_t_far c_t_echoes c_t_totals)) (hf : Cf_W_countMerging_w_22 c_w_totals = some o_w_totals) : V X 0 0 (wL E a T c_waveIsFresh c_peelingIsFresh c_n_count c_n_front c_n_least c_n_window c_n_pulses c_n_lengths c_n_fractions c_n_pulseTimes c_n_pulseEnergies c_n_sound c_n_seen c_hcount c_hp c_h0_count c_h0_front c_h0_least c_h0_window c_h0_pulses c_h0_lengths c_h0_fractions c_h0_pulseTimes c_h0_pulseEnergies c_h0_sound c_h0_seen c_h1_count c_h1_front c_h1_least c_h1_window c_h1_pulses c_h1_lengths c_h1_fractions c_h1_pulseTimes c_h1_pulseEnergies c_h1_sound c_h1_seen c_h2_count c_h2_front c_h2_least c_h2_window c_h2_pulses c_h2_lengths c_h2_fractions c_h2_pulseTimes c_h2_pulseEnergies c_h2_sound c_h2_seen c_s_length c_s_command c_s_position c_s_fault c_s_bytes c_s_numbers c_w_near c_w_far c_w_echoes c_w_totals c_p_result c_p_endTime c_q_count c_q_front c_q_least c_q_window c_q_pulses c_q_lengths c_q_fractions c_q_pulseTimes c_q_pulseEnergies c_t_near c_t_far c_t_echoes c_t_totals) [] 22 [] := by
  unfold Cf_W_countMerging_w_22 at hf
  cases hf
  exact v_vret C hret dX8_countMerging_22
def Cf_W_countMerging_w (c_w_totals : Nat → Int64) (x1 : Int64) (x3 : Int64) : Option (Nat → Int64) :=
  if x1 ≤ (0 : Int64) then
    Cf_W_countMerging_w_22 c_w_totals
  else
    if x3 ≤ (0 : Int64) then
      Cf_W_countMerging_w_22 c_w_totals
    else
      chk (inb (5 : Int32) 9) <| nm (c_w_totals (5 : Int32).toNatClampNeg) fun z18 =>
      nm (z18 + (1 : Int64)) fun z20 =>
      chk (inb (5 : Int32) 9) <| nm (vp_updL c_w_totals (5 : Int32).toNatClampNeg z20) fun w_totals_21 =>
      Cf_W_countMerging_w_22 w_totals_21
set_option maxRecDepth 100000 in
set_option maxHeartbeats 4000000 in
theorem Cb_W_countMerging_w (C : Cx X (SFG E) T cX8_countMerging RX8 none 5 0 0) {x1 : Int64} {x3 : Int64} {o_w_totals : Nat → Int64} (hret : RetOK X 0 0 none (wL E a T c_waveIsFresh c_peelingIsFresh c_n_count c_n_front c_n_least c_n_window c_n_pulses c_n_lengths c_n_fractions c_n_pulseTimes c_n_pulseEnergies c_n_sound c_n_seen c_hcount c_hp c_h0_count c_h0_front c_h0_least c_h0_window c_h0_pulses c_h0_lengths c_h0_fractions c_h0_pulseTimes c_h0_pulseEnergies c_h0_sound c_h0_seen c_h1_count c_h1_front c_h1_least c_h1_window c_h1_pulses c_h1_lengths c_h1_fractions c_h1_pulseTimes c_h1_pulseEnergies c_h1_sound c_h1_seen c_h2_count c_h2_front c_h2_least c_h2_window c_h2_pulses c_h2_lengths c_h2_fractions c_h2_pulseTimes c_h2_pulseEnergies c_h2_sound c_h2_seen c_s_length c_s_command c_s_position c_s_fault c_s_bytes c_s_numbers c_w_near c_w_far c_w_echoes o_w_totals c_p_result c_p_endTime c_q_count c_q_front c_q_least c_q_window c_q_pulses c_q_lengths c_q_fractions c_q_pulseTimes c_q_pulseEnergies c_t_near c_t_far c_t_echoes c_t_totals)) (hf : Cf_W_countMerging_w c_w_totals x1 x3 = some o_w_totals) : V X 0 0 (wL E a T c_waveIsFresh c_peelingIsFresh c_n_count c_n_front c_n_least c_n_window c_n_pulses c_n_lengths c_n_fractions c_n_pulseTimes c_n_pulseEnergies c_n_sound c_n_seen c_hcount c_hp c_h0_count c_h0_front c_h0_least c_h0_window c_h0_pulses c_h0_lengths c_h0_fractions c_h0_pulseTimes c_h0_pulseEnergies c_h0_sound c_h0_seen c_h1_count c_h1_front c_h1_least c_h1_window c_h1_pulses c_h1_lengths c_h1_fractions c_h1_pulseTimes c_h1_pulseEnergies c_h1_sound c_h1_seen c_h2_count c_h2_front c_h2_least c_h2_window c_h2_pulses c_h2_lengths c_h2_fractions c_h2_pulseTimes c_h2_pulseEnergies c_h2_sound c_h2_seen c_s_length c_s_command c_s_position c_s_fault c_s_bytes c_s_numbers c_w_near c_w_far c_w_echoes c_w_totals c_p_result c_p_endTime c_q_count c_q_front c_q_least c_q_window c_q_pulses c_q_lengths c_q_fractions c_q_pulseTimes c_q_pulseEnergies c_t_near c_t_far c_t_echoes c_t_totals) [(0, .ref (a 38)), (1, .long x1), (3, .long x3)] 0 [] := by
  unfold Cf_W_countMerging_w at hf
  refine v_lload_n 1 C dX8_countMerging_0 rfl rfl ?_
  refine v_lconst (v := 0) C dX8_countMerging_1 (by decide) ?_
  refine v_lcmp_le 22 C dX8_countMerging_2 dX8_countMerging_3 (by decide) hf (fun c hf => ?_) (fun c hf => ?_)
  · refine v_lv [] [] rfl ?_
    exact Cb_W_countMerging_w_22 C hret hf
  · refine v_lload_n 2 C dX8_countMerging_6 rfl rfl ?_
    refine v_lconst (v := 0) C dX8_countMerging_7 (by decide) ?_
    refine v_lcmp_le 22 C dX8_countMerging_8 dX8_countMerging_9 (by decide) hf (fun c hf => ?_) (fun c hf => ?_)
    · refine v_lv [] [] rfl ?_
      exact Cb_W_countMerging_w_22 C hret hf
    · refine v_aload_n 0 C dX8_countMerging_12 rfl rfl ?_
      refine Cg_38_totals wfieldLink_RX8_23_LineEchoes_Wave_totals_J C dX8_countMerging_13 ?_
      refine v_iconst (v := 5) C dX8_countMerging_16 (by decide) ?_
      refine v_dup2_11 C dX8_countMerging_17 rfl rfl ?_
      refine Cal_42 C dX8_countMerging_18 hf (fun z18 hf => ?_)
      refine v_lconst (v := 1) C dX8_countMerging_19 (by decide) ?_
      refine v_ladd C dX8_countMerging_20 hf (fun z20 hf => ?_)
      refine Cas_42 C dX8_countMerging_21 hf (fun w_totals_21 hf => ?_)
      refine v_lv [] [] rfl ?_
      exact Cb_W_countMerging_w_22 C hret hf
set_option maxRecDepth 100000 in
set_option maxHeartbeats 4000000 in
theorem Cm_W_countMerging_w {D : va_G} {x1 : Int64} {x3 : Int64} {o_w_totals : Nat → Int64} (hf : Cf_W_countMerging_w c_w_totals x1 x3 = some o_w_totals) : MetM (SFG E) yX8_countMerging cX8_countMerging 5 none { frames := 0, cells := 0, slots := 0, locals := 0 } D T [.ref (a 38), .long x1, .long x3] (wL E a T c_waveIsFresh c_peelingIsFresh c_n_count c_n_front c_n_least c_n_window c_n_pulses c_n_lengths c_n_fractions c_n_pulseTimes c_n_pulseEnergies c_n_sound c_n_seen c_hcount c_hp c_h0_count c_h0_front c_h0_least c_h0_window c_h0_pulses c_h0_lengths c_h0_fractions c_h0_pulseTimes c_h0_pulseEnergies c_h0_sound c_h0_seen c_h1_count c_h1_front c_h1_least c_h1_window c_h1_pulses c_h1_lengths c_h1_fractions c_h1_pulseTimes c_h1_pulseEnergies c_h1_sound c_h1_seen c_h2_count c_h2_front c_h2_least c_h2_window c_h2_pulses c_h2_lengths c_h2_fractions c_h2_pulseTimes c_h2_pulseEnergies c_h2_sound c_h2_seen c_s_length c_s_command c_s_position c_s_fault c_s_bytes c_s_numbers c_w_near c_w_far c_w_echoes c_w_totals c_p_result c_p_endTime c_q_count c_q_front c_q_least c_q_window c_q_pulses c_q_lengths c_q_fractions c_q_pulseTimes c_q_pulseEnergies c_t_near c_t_far c_t_echoes c_t_totals) none (wL E a T c_waveIsFresh c_peelingIsFresh c_n_count c_n_front c_n_least c_n_window c_n_pulses c_n_lengths c_n_fractions c_n_pulseTimes c_n_pulseEnergies c_n_sound c_n_seen c_hcount c_hp c_h0_count c_h0_front c_h0_least c_h0_window c_h0_pulses c_h0_lengths c_h0_fractions c_h0_pulseTimes c_h0_pulseEnergies c_h0_sound c_h0_seen c_h1_count c_h1_front c_h1_least c_h1_window c_h1_pulses c_h1_lengths c_h1_fractions c_h1_pulseTimes c_h1_pulseEnergies c_h1_sound c_h1_seen c_h2_count c_h2_front c_h2_least c_h2_window c_h2_pulses c_h2_lengths c_h2_fractions c_h2_pulseTimes c_h2_pulseEnergies c_h2_sound c_h2_seen c_s_length c_s_command c_s_position c_s_fault c_s_bytes c_s_numbers c_w_near c_w_far c_w_echoes o_w_totals c_p_result c_p_endTime c_q_count c_q_front c_q_least c_q_window c_q_pulses c_q_lengths c_q_fractions c_q_pulseTimes c_q_pulseEnergies c_t_near c_t_far c_t_echoes c_t_totals) :=
  MetM.of [(0, .ref (a 38)), (1, .long x1), (3, .long x3)] (by decide) (Nat.le_of_ble_eq_true rfl) rfl (fun X C hret => Cb_W_countMerging_w C hret hf)
def Cf_W_meetJoint_w_n_144 (c_w_near : Nat → Nat → Int64) (c_w_far : Nat → Nat → Int64) (c_w_totals : Nat → Int64) : Option ((Nat → Nat → Int64) × (Nat → Nat → Int64) × (Nat → Int64)) :=
  some (c_w_near, c_w_far, c_w_totals)
set_option maxRecDepth 100000 in
set_option maxHeartbeats 4000000 in
theorem Cb_W_meetJoint_w_n_144 (C : Cx X (SFG E) T cX8_meetJoint RX8 none 13 1 27)  {o_w_near : Nat → Nat → Int64} {o_w_far : Nat → Nat → Int64} {o_w_totals : Nat → Int64} (hret : RetOK X 0 0 none (wL E a T c_waveIsFresh c_peelingIsFresh c_n_count c_n_front c_n_least c_n_window c_n_pulses c_n_lengths c_n_fractions c_n_pulseTimes c_n_pulseEnergies c_n_sound c_n_seen c_hcount c_hp c_h0_count c_h0_front c_h0_least c_h0_window c_h0_pulses c_h0_lengths c_h0_fractions c_h0_pulseTimes c_h0_pulseEnergies c_h0_sound c_h0_seen c_h1_count c_h1_front c_h1_least c_h1_window c_h1_pulses c_h1_lengths c_h1_fractions c_h1_pulseTimes c_h1_pulseEnergies c_h1_sound c_h1_seen c_h2_count c_h2_front c_h2_least c_h2_window c_h2_pulses c_h2_lengths c_h2_fractions c_h2_pulseTimes c_h2_pulseEnergies c_h2_sound c_h2_seen c_s_length c_s_command c_s_position c_s_fault c_s_bytes c_s_numbers o_w_near o_w_far c_w_echoes o_w_totals c_p_result c_p_endTime c_q_count c_q_front c_q_least c_q_window c_q_pulses c_q_lengths c_q_fractions c_q_pulseTimes c_q_pulseEnergies c_t_near c_t_far c_t_echoes c_t_totals)) (hf : Cf_W_meetJoint_w_n_144 c_w_near c_w_far c_w_totals = some (o_w_near, o_w_far, o_w_totals)) : V X 0 0 (wL E a T c_waveIsFresh c_peelingIsFresh c_n_count c_n_front c_n_least c_n_window c_n_pulses c_n_lengths c_n_fractions c_n_pulseTimes c_n_pulseEnergies c_n_sound c_n_seen c_hcount c_hp c_h0_count c_h0_front c_h0_least c_h0_window c_h0_pulses c_h0_lengths c_h0_fractions c_h0_pulseTimes c_h0_pulseEnergies c_h0_sound c_h0_seen c_h1_count c_h1_front c_h1_least c_h1_window c_h1_pulses c_h1_lengths c_h1_fractions c_h1_pulseTimes c_h1_pulseEnergies c_h1_sound c_h1_seen c_h2_count c_h2_front c_h2_least c_h2_window c_h2_pulses c_h2_lengths c_h2_fractions c_h2_pulseTimes c_h2_pulseEnergies c_h2_sound c_h2_seen c_s_length c_s_command c_s_position c_s_fault c_s_bytes c_s_numbers c_w_near c_w_far c_w_echoes c_w_totals c_p_result c_p_endTime c_q_count c_q_front c_q_least c_q_window c_q_pulses c_q_lengths c_q_fractions c_q_pulseTimes c_q_pulseEnergies c_t_near c_t_far c_t_echoes c_t_totals) [] 144 [] := by
  unfold Cf_W_meetJoint_w_n_144 at hf
  cases hf
  exact v_vret C hret dX8_meetJoint_144
set_option maxRecDepth 100000 in
theorem Cc_W_countMerging_w {x1 : Int64} {x3 : Int64} {cc : ByteArray} {own : String} {ret : Option FieldType} {nl fr lo pc ix : Nat} {lv : List (Nat × Value)} {rest : List Value} {β : Type} {K : (Nat → Int64) → Option β} {oo : β} (hl : Cond.methodLink own ix yX8_countMerging ∈ wsG) (C : Cx X (SFG E) T cc own ret nl fr lo) (hdg : decode cc pc = .ok (.invokevirtual ix, 3)) (hroom : 0 + 1 ≤ fr ∧ 8 + (5 + 11) + 0 ≤ lo) (hst : (rest.map fun v => v.category).sum ≤ 8) (hf : bd (Cf_W_countMerging_w c_w_totals x1 x3) K = some oo) (kk : ∀ (o_w_totals : Nat → Int64), K o_w_totals = some oo → V X 0 0 (wL E a T c_waveIsFresh c_peelingIsFresh c_n_count c_n_front c_n_least c_n_window c_n_pulses c_n_lengths c_n_fractions c_n_pulseTimes c_n_pulseEnergies c_n_sound c_n_seen c_hcount c_hp c_h0_count c_h0_front c_h0_least c_h0_window c_h0_pulses c_h0_lengths c_h0_fractions c_h0_pulseTimes c_h0_pulseEnergies c_h0_sound c_h0_seen c_h1_count c_h1_front c_h1_least c_h1_window c_h1_pulses c_h1_lengths c_h1_fractions c_h1_pulseTimes c_h1_pulseEnergies c_h1_sound c_h1_seen c_h2_count c_h2_front c_h2_least c_h2_window c_h2_pulses c_h2_lengths c_h2_fractions c_h2_pulseTimes c_h2_pulseEnergies c_h2_sound c_h2_seen c_s_length c_s_command c_s_position c_s_fault c_s_bytes c_s_numbers c_w_near c_w_far c_w_echoes o_w_totals c_p_result c_p_endTime c_q_count c_q_front c_q_least c_q_window c_q_pulses c_q_lengths c_q_fractions c_q_pulseTimes c_q_pulseEnergies c_t_near c_t_far c_t_echoes c_t_totals) lv (pc + 3) rest) : V X 0 0 (wL E a T c_waveIsFresh c_peelingIsFresh c_n_count c_n_front c_n_least c_n_window c_n_pulses c_n_lengths c_n_fractions c_n_pulseTimes c_n_pulseEnergies c_n_sound c_n_seen c_hcount c_hp c_h0_count c_h0_front c_h0_least c_h0_window c_h0_pulses c_h0_lengths c_h0_fractions c_h0_pulseTimes c_h0_pulseEnergies c_h0_sound c_h0_seen c_h1_count c_h1_front c_h1_least c_h1_window c_h1_pulses c_h1_lengths c_h1_fractions c_h1_pulseTimes c_h1_pulseEnergies c_h1_sound c_h1_seen c_h2_count c_h2_front c_h2_least c_h2_window c_h2_pulses c_h2_lengths c_h2_fractions c_h2_pulseTimes c_h2_pulseEnergies c_h2_sound c_h2_seen c_s_length c_s_command c_s_position c_s_fault c_s_bytes c_s_numbers c_w_near c_w_far c_w_echoes c_w_totals c_p_result c_p_endTime c_q_count c_q_front c_q_least c_q_window c_q_pulses c_q_lengths c_q_fractions c_q_pulseTimes c_q_pulseEnergies c_t_near c_t_far c_t_echoes c_t_totals) lv pc (.long x3 :: .long x1 :: .ref (a 38) :: rest) := by
  obtain ⟨o_w_totals, hc, hk⟩ := bd_some hf
  exact v_callV (As := [.long x1, .long x3]) (rest := rest) (q0 := 38) 2 C (CapOK.z X) (fun D => Cm_W_countMerging_w hc) (goodV hl winstanceMethod_yX8_countMerging wselects_RX8_yX8_countMerging_yX8_countMerging winitialized_RX8 wcode_yX8_countMerging_cX8_countMerging_5_none) (by decide +kernel) hroom ⟨rfl, rfl⟩ rfl rfl rfl hst hdg (kk o_w_totals hk)
def Cf_W_meetJoint_w_n_35 (c_n_count : Int32) (c_n_least : Int32) (c_n_window : Int32) (c_n_lengths : Nat → Int32) (c_n_fractions : Nat → Int32) (c_w_near : Nat → Nat → Int64) (c_w_far : Nat → Nat → Int64) (c_w_totals : Nat → Int64) (x2 : Int32) (x3 : Int32) (x4 : Int64) (x6 : Int64) : Option ((Nat → Nat → Int64) × (Nat → Nat → Int64) × (Nat → Int64)) :=
  nm (x2 - (1 : Int32)) fun z41 =>
  chk (inb z41 8) <| nm (c_n_fractions z41.toNatClampNeg) fun z42 =>
  bd (Cf_L_turnedBack x4 z42) fun r49 =>
  bd (Cf_L_turnedBack x6 z42) fun r58 =>
  nm (x6 - r58) fun z70 =>
  bd (Cf_W_countMerging_w c_w_totals r49 z70) fun w_totals_71 =>
  nm (x2 - (1 : Int32)) fun z78 =>
  nm (r49 + x6) fun z85 =>
  nm (z85 - r58) fun z88 =>
  bd (Cf_W_setOut_w_n c_n_least c_n_window c_n_lengths c_w_near c_w_far w_totals_71 z78 (0 : Int32) x3 z88) fun (w_near_89, w_far_89, w_totals_89) =>
  if c_n_count ≤ x2 then
    chk (inb (2 : Int32) 9) <| nm (w_totals_89 (2 : Int32).toNatClampNeg) fun z136 =>
    nm (x4 - r49) fun z141 =>
    nm (z136 + z141) fun z142 =>
    chk (inb (2 : Int32) 9) <| nm (vp_updL w_totals_89 (2 : Int32).toNatClampNeg z142) fun w_totals_143 =>
    Cf_W_meetJoint_w_n_144 w_near_89 w_far_89 w_totals_143
  else
    nm (x4 - r49) fun z105 =>
    bd (Cf_W_countMerging_w w_totals_89 z105 r58) fun w_totals_108 =>
    nm (x4 - r49) fun z120 =>
    nm (z120 + r58) fun z123 =>
    bd (Cf_W_setOut_w_n c_n_least c_n_window c_n_lengths w_near_89 w_far_89 w_totals_108 x2 (1 : Int32) x3 z123) fun (w_near_124, w_far_124, w_totals_124) =>
    Cf_W_meetJoint_w_n_144 w_near_124 w_far_124 w_totals_124
set_option maxRecDepth 100000 in
set_option maxHeartbeats 4000000 in
theorem Cb_W_meetJoint_w_n_35 (C : Cx X (SFG E) T cX8_meetJoint RX8 none 13 1 27) {x2 : Int32} {x3 : Int32} {x4 : Int64} {x6 : Int64} {o_w_near : Nat → Nat → Int64} {o_w_far : Nat → Nat → Int64} {o_w_totals : Nat → Int64} (hret : RetOK X 0 0 none (wL E a T c_waveIsFresh c_peelingIsFresh c_n_count c_n_front c_n_least c_n_window c_n_pulses c_n_lengths c_n_fractions c_n_pulseTimes c_n_pulseEnergies c_n_sound c_n_seen c_hcount c_hp c_h0_count c_h0_front c_h0_least c_h0_window c_h0_pulses c_h0_lengths c_h0_fractions c_h0_pulseTimes c_h0_pulseEnergies c_h0_sound c_h0_seen c_h1_count c_h1_front c_h1_least c_h1_window c_h1_pulses c_h1_lengths c_h1_fractions c_h1_pulseTimes c_h1_pulseEnergies c_h1_sound c_h1_seen c_h2_count c_h2_front c_h2_least c_h2_window c_h2_pulses c_h2_lengths c_h2_fractions c_h2_pulseTimes c_h2_pulseEnergies c_h2_sound c_h2_seen c_s_length c_s_command c_s_position c_s_fault c_s_bytes c_s_numbers o_w_near o_w_far c_w_echoes o_w_totals c_p_result c_p_endTime c_q_count c_q_front c_q_least c_q_window c_q_pulses c_q_lengths c_q_fractions c_q_pulseTimes c_q_pulseEnergies c_t_near c_t_far c_t_echoes c_t_totals)) (hf : Cf_W_meetJoint_w_n_35 c_n_count c_n_least c_n_window c_n_lengths c_n_fractions c_w_near c_w_far c_w_totals x2 x3 x4 x6 = some (o_w_near, o_w_far, o_w_totals)) : V X 0 0 (wL E a T c_waveIsFresh c_peelingIsFresh c_n_count c_n_front c_n_least c_n_window c_n_pulses c_n_lengths c_n_fractions c_n_pulseTimes c_n_pulseEnergies c_n_sound c_n_seen c_hcount c_hp c_h0_count c_h0_front c_h0_least c_h0_window c_h0_pulses c_h0_lengths c_h0_fractions c_h0_pulseTimes c_h0_pulseEnergies c_h0_sound c_h0_seen c_h1_count c_h1_front c_h1_least c_h1_window c_h1_pulses c_h1_lengths c_h1_fractions c_h1_pulseTimes c_h1_pulseEnergies c_h1_sound c_h1_seen c_h2_count c_h2_front c_h2_least c_h2_window c_h2_pulses c_h2_lengths c_h2_fractions c_h2_pulseTimes c_h2_pulseEnergies c_h2_sound c_h2_seen c_s_length c_s_command c_s_position c_s_fault c_s_bytes c_s_numbers c_w_near c_w_far c_w_echoes c_w_totals c_p_result c_p_endTime c_q_count c_q_front c_q_least c_q_window c_q_pulses c_q_lengths c_q_fractions c_q_pulseTimes c_q_pulseEnergies c_t_near c_t_far c_t_echoes c_t_totals) [(0, .ref (a 38)), (1, .ref (a 2)), (2, .int x2), (3, .int x3), (4, .long x4), (6, .long x6)] 35 [] := by
  unfold Cf_W_meetJoint_w_n_35 at hf
  refine v_aload_n 1 C dX8_meetJoint_35 rfl rfl ?_
  refine Cg_2_fractions wfieldLink_RX8_86_LineEchoes_Bench_fractions_I C dX8_meetJoint_36 ?_
  refine v_iload_n 2 C dX8_meetJoint_39 rfl rfl ?_
  refine v_iconst (v := 1) C dX8_meetJoint_40 (by decide) ?_
  refine v_isub C dX8_meetJoint_41 hf (fun z41 hf => ?_)
  refine Cal_4 C dX8_meetJoint_42 hf (fun z42 hf => ?_)
  refine v_istore [(0, .ref (a 38)), (1, .ref (a 2)), (2, .int x2), (3, .int x3), (4, .long x4), (6, .long x6), (8, .int z42)] [1, 2, 3, 4, 5, 6, 0] C dX8_meetJoint_43 (by decide) rfl ?_
  refine v_lload 4 C dX8_meetJoint_45 rfl ?_
  refine v_iload 6 C dX8_meetJoint_47 rfl ?_
  refine Cc_L_turnedBack_N nest1 C dX8_meetJoint_49 (by decide) (Nat.le_of_ble_eq_true rfl) hf (fun r49 hf => ?_)
  refine v_lstore [(0, .ref (a 38)), (1, .ref (a 2)), (2, .int x2), (3, .int x3), (4, .long x4), (6, .long x6), (8, .int z42), (9, .long r49)] [1, 2, 3, 4, 5, 6, 7, 0] C dX8_meetJoint_52 (by decide) rfl ?_
  refine v_lload 5 C dX8_meetJoint_54 rfl ?_
  refine v_iload 6 C dX8_meetJoint_56 rfl ?_
  refine Cc_L_turnedBack_N nest1 C dX8_meetJoint_58 (by decide) (Nat.le_of_ble_eq_true rfl) hf (fun r58 hf => ?_)
  refine v_lstore [(0, .ref (a 38)), (1, .ref (a 2)), (2, .int x2), (3, .int x3), (4, .long x4), (6, .long x6), (9, .long r49), (11, .long r58)] [1, 2, 3, 4, 5, 6, 8, 0] C dX8_meetJoint_61 (by decide) rfl ?_
  refine v_aload_n 0 C dX8_meetJoint_63 rfl rfl ?_
  refine v_lload 6 C dX8_meetJoint_64 rfl ?_
  refine v_lload 5 C dX8_meetJoint_66 rfl ?_
  refine v_lload 7 C dX8_meetJoint_68 rfl ?_
  refine v_lsub C dX8_meetJoint_70 hf (fun z70 hf => ?_)
  refine Cc_W_countMerging_w wmethodLink_RX8_89_yX8_countMerging C dX8_meetJoint_71 (by decide) (Nat.le_of_ble_eq_true rfl) hf (fun w_totals_71 hf => ?_)
  refine v_aload_n 0 C dX8_meetJoint_74 rfl rfl ?_
  refine v_aload_n 1 C dX8_meetJoint_75 rfl rfl ?_
  refine v_iload_n 2 C dX8_meetJoint_76 rfl rfl ?_
  refine v_iconst (v := 1) C dX8_meetJoint_77 (by decide) ?_
  refine v_isub C dX8_meetJoint_78 hf (fun z78 hf => ?_)
  refine v_iconst (v := 0) C dX8_meetJoint_79 (by decide) ?_
  refine v_iload_n 3 C dX8_meetJoint_80 rfl rfl ?_
  refine v_lload 6 C dX8_meetJoint_81 rfl ?_
  refine v_lload 5 C dX8_meetJoint_83 rfl ?_
  refine v_ladd C dX8_meetJoint_85 hf (fun z85 hf => ?_)
  refine v_lload 7 C dX8_meetJoint_86 rfl ?_
  refine v_lsub C dX8_meetJoint_88 hf (fun z88 hf => ?_)
  refine Cc_W_setOut_w_n wmethodLink_RX8_82_yX8_setOut C dX8_meetJoint_89 (by decide) (Nat.le_of_ble_eq_true rfl) hf (fun w_near_89 w_far_89 w_totals_89 hf => ?_)
  refine v_iload_n 2 C dX8_meetJoint_92 rfl rfl ?_
  refine v_aload_n 1 C dX8_meetJoint_93 rfl rfl ?_
  refine Cg_2_count wfieldLink_RX8_33_LineEchoes_Bench_count_I C dX8_meetJoint_94 ?_
  refine v_icmp_ge 130 C dX8_meetJoint_97 (by decide) hf (fun c hf => ?_) (fun c hf => ?_)
  · refine v_aload_n 0 C dX8_meetJoint_130 rfl rfl ?_
    refine Cg_38_totals wfieldLink_RX8_23_LineEchoes_Wave_totals_J C dX8_meetJoint_131 ?_
    refine v_iconst (v := 2) C dX8_meetJoint_134 (by decide) ?_
    refine v_dup2_11 C dX8_meetJoint_135 rfl rfl ?_
    refine Cal_42 C dX8_meetJoint_136 hf (fun z136 hf => ?_)
    refine v_lload 4 C dX8_meetJoint_137 rfl ?_
    refine v_lload 6 C dX8_meetJoint_139 rfl ?_
    refine v_lsub C dX8_meetJoint_141 hf (fun z141 hf => ?_)
    refine v_ladd C dX8_meetJoint_142 hf (fun z142 hf => ?_)
    refine Cas_42 C dX8_meetJoint_143 hf (fun w_totals_143 hf => ?_)
    refine v_lv [] [] rfl ?_
    exact Cb_W_meetJoint_w_n_144 C hret hf
  · refine v_aload_n 0 C dX8_meetJoint_100 rfl rfl ?_
    refine v_lload 4 C dX8_meetJoint_101 rfl ?_
    refine v_lload 6 C dX8_meetJoint_103 rfl ?_
    refine v_lsub C dX8_meetJoint_105 hf (fun z105 hf => ?_)
    refine v_lload 7 C dX8_meetJoint_106 rfl ?_
    refine Cc_W_countMerging_w wmethodLink_RX8_89_yX8_countMerging C dX8_meetJoint_108 (by decide) (Nat.le_of_ble_eq_true rfl) hf (fun w_totals_108 hf => ?_)
    refine v_aload_n 0 C dX8_meetJoint_111 rfl rfl ?_
    refine v_aload_n 1 C dX8_meetJoint_112 rfl rfl ?_
    refine v_iload_n 2 C dX8_meetJoint_113 rfl rfl ?_
    refine v_iconst (v := 1) C dX8_meetJoint_114 (by decide) ?_
    refine v_iload_n 3 C dX8_meetJoint_115 rfl rfl ?_
    refine v_lload 4 C dX8_meetJoint_116 rfl ?_
    refine v_lload 6 C dX8_meetJoint_118 rfl ?_
    refine v_lsub C dX8_meetJoint_120 hf (fun z120 hf => ?_)
    refine v_lload 7 C dX8_meetJoint_121 rfl ?_
    refine v_ladd C dX8_meetJoint_123 hf (fun z123 hf => ?_)
    refine Cc_W_setOut_w_n wmethodLink_RX8_82_yX8_setOut C dX8_meetJoint_124 (by decide) (Nat.le_of_ble_eq_true rfl) hf (fun w_near_124 w_far_124 w_totals_124 hf => ?_)
    refine v_goto 144 C dX8_meetJoint_127 (by decide) ?_
    refine v_lv [] [] rfl ?_
    exact Cb_W_meetJoint_w_n_144 C hret hf
def Cf_W_meetJoint_w_n (c_n_count : Int32) (c_n_least : Int32) (c_n_window : Int32) (c_n_lengths : Nat → Int32) (c_n_fractions : Nat → Int32) (c_w_near : Nat → Nat → Int64) (c_w_far : Nat → Nat → Int64) (c_w_totals : Nat → Int64) (x2 : Int32) (x3 : Int32) : Option ((Nat → Nat → Int64) × (Nat → Nat → Int64) × (Nat → Int64)) :=
  chk (inb x2 9) <|
  chk (inb x3 201) <| nm (c_w_near x2.toNatClampNeg x3.toNatClampNeg) fun z7 =>
  chk (inb x2 9) <|
  chk (inb x3 201) <| nm (c_w_far x2.toNatClampNeg x3.toNatClampNeg) fun z17 =>
  if z7 = (0 : Int64) then
    if z17 = (0 : Int64) then
      some (c_w_near, c_w_far, c_w_totals)
    else
      Cf_W_meetJoint_w_n_35 c_n_count c_n_least c_n_window c_n_lengths c_n_fractions c_w_near c_w_far c_w_totals x2 x3 z7 z17
  else
    Cf_W_meetJoint_w_n_35 c_n_count c_n_least c_n_window c_n_lengths c_n_fractions c_w_near c_w_far c_w_totals x2 x3 z7 z17
set_option maxRecDepth 100000 in
set_option maxHeartbeats 4000000 in
theorem Cb_W_meetJoint_w_n (C : Cx X (SFG E) T cX8_meetJoint RX8 none 13 1 27) {x2 : Int32} {x3 : Int32} {o_w_near : Nat → Nat → Int64} {o_w_far : Nat → Nat → Int64} {o_w_totals : Nat → Int64} (hret : RetOK X 0 0 none (wL E a T c_waveIsFresh c_peelingIsFresh c_n_count c_n_front c_n_least c_n_window c_n_pulses c_n_lengths c_n_fractions c_n_pulseTimes c_n_pulseEnergies c_n_sound c_n_seen c_hcount c_hp c_h0_count c_h0_front c_h0_least c_h0_window c_h0_pulses c_h0_lengths c_h0_fractions c_h0_pulseTimes c_h0_pulseEnergies c_h0_sound c_h0_seen c_h1_count c_h1_front c_h1_least c_h1_window c_h1_pulses c_h1_lengths c_h1_fractions c_h1_pulseTimes c_h1_pulseEnergies c_h1_sound c_h1_seen c_h2_count c_h2_front c_h2_least c_h2_window c_h2_pulses c_h2_lengths c_h2_fractions c_h2_pulseTimes c_h2_pulseEnergies c_h2_sound c_h2_seen c_s_length c_s_command c_s_position c_s_fault c_s_bytes c_s_numbers o_w_near o_w_far c_w_echoes o_w_totals c_p_result c_p_endTime c_q_count c_q_front c_q_least c_q_window c_q_pulses c_q_lengths c_q_fractions c_q_pulseTimes c_q_pulseEnergies c_t_near c_t_far c_t_echoes c_t_totals)) (hf : Cf_W_meetJoint_w_n c_n_count c_n_least c_n_window c_n_lengths c_n_fractions c_w_near c_w_far c_w_totals x2 x3 = some (o_w_near, o_w_far, o_w_totals)) : V X 0 0 (wL E a T c_waveIsFresh c_peelingIsFresh c_n_count c_n_front c_n_least c_n_window c_n_pulses c_n_lengths c_n_fractions c_n_pulseTimes c_n_pulseEnergies c_n_sound c_n_seen c_hcount c_hp c_h0_count c_h0_front c_h0_least c_h0_window c_h0_pulses c_h0_lengths c_h0_fractions c_h0_pulseTimes c_h0_pulseEnergies c_h0_sound c_h0_seen c_h1_count c_h1_front c_h1_least c_h1_window c_h1_pulses c_h1_lengths c_h1_fractions c_h1_pulseTimes c_h1_pulseEnergies c_h1_sound c_h1_seen c_h2_count c_h2_front c_h2_least c_h2_window c_h2_pulses c_h2_lengths c_h2_fractions c_h2_pulseTimes c_h2_pulseEnergies c_h2_sound c_h2_seen c_s_length c_s_command c_s_position c_s_fault c_s_bytes c_s_numbers c_w_near c_w_far c_w_echoes c_w_totals c_p_result c_p_endTime c_q_count c_q_front c_q_least c_q_window c_q_pulses c_q_lengths c_q_fractions c_q_pulseTimes c_q_pulseEnergies c_t_near c_t_far c_t_echoes c_t_totals) [(0, .ref (a 38)), (1, .ref (a 2)), (2, .int x2), (3, .int x3)] 0 [] := by
  unfold Cf_W_meetJoint_w_n at hf
  refine v_aload_n 0 C dX8_meetJoint_0 rfl rfl ?_
  refine Cg_38_fromNear wfieldLink_RX8_11_LineEchoes_Wave_fromNear_J C dX8_meetJoint_1 ?_
  refine v_iload_n 2 C dX8_meetJoint_4 rfl rfl ?_
  refine Cao_39 C dX8_meetJoint_5 hf (fun hj5 hf => ?_)
  refine v_iload_n 3 C dX8_meetJoint_6 rfl rfl ?_
  refine Crl_43 hj5 C dX8_meetJoint_7 hf (fun z7 hf => ?_)
  refine v_lstore [(0, .ref (a 38)), (1, .ref (a 2)), (2, .int x2), (3, .int x3), (4, .long z7)] [1, 2, 3, 4, 0] C dX8_meetJoint_8 (by decide) rfl ?_
  refine v_aload_n 0 C dX8_meetJoint_10 rfl rfl ?_
  refine Cg_38_fromFar wfieldLink_RX8_16_LineEchoes_Wave_fromFar_J C dX8_meetJoint_11 ?_
  refine v_iload_n 2 C dX8_meetJoint_14 rfl rfl ?_
  refine Cao_40 C dX8_meetJoint_15 hf (fun hj15 hf => ?_)
  refine v_iload_n 3 C dX8_meetJoint_16 rfl rfl ?_
  refine Crl_52 hj15 C dX8_meetJoint_17 hf (fun z17 hf => ?_)
  refine v_lstore [(0, .ref (a 38)), (1, .ref (a 2)), (2, .int x2), (3, .int x3), (4, .long z7), (6, .long z17)] [1, 2, 3, 4, 5, 0] C dX8_meetJoint_18 (by decide) rfl ?_
  refine v_lload 4 C dX8_meetJoint_20 rfl ?_
  refine v_lconst (v := 0) C dX8_meetJoint_22 (by decide) ?_
  refine v_lcmp_ne 35 C dX8_meetJoint_23 dX8_meetJoint_24 (by decide) hf (fun c hf => ?_) (fun c hf => ?_)
  · refine v_lload 5 C dX8_meetJoint_27 rfl ?_
    refine v_lconst (v := 0) C dX8_meetJoint_29 (by decide) ?_
    refine v_lcmp_ne 35 C dX8_meetJoint_30 dX8_meetJoint_31 (by decide) hf (fun c hf => ?_) (fun c hf => ?_)
    · cases hf
      exact v_vret C hret dX8_meetJoint_34
    · exact Cb_W_meetJoint_w_n_35 C hret hf
  · exact Cb_W_meetJoint_w_n_35 C hret hf
set_option maxRecDepth 100000 in
set_option maxHeartbeats 4000000 in
theorem Cm_W_meetJoint_w_n {D : va_G} {x2 : Int32} {x3 : Int32} {o_w_near : Nat → Nat → Int64} {o_w_far : Nat → Nat → Int64} {o_w_totals : Nat → Int64} (hf : Cf_W_meetJoint_w_n c_n_count c_n_least c_n_window c_n_lengths c_n_fractions c_w_near c_w_far c_w_totals x2 x3 = some (o_w_near, o_w_far, o_w_totals)) : MetM (SFG E) yX8_meetJoint cX8_meetJoint 13 none { frames := 1, cells := 0, slots := 0, locals := 27 } D T [.ref (a 38), .ref (a 2), .int x2, .int x3] (wL E a T c_waveIsFresh c_peelingIsFresh c_n_count c_n_front c_n_least c_n_window c_n_pulses c_n_lengths c_n_fractions c_n_pulseTimes c_n_pulseEnergies c_n_sound c_n_seen c_hcount c_hp c_h0_count c_h0_front c_h0_least c_h0_window c_h0_pulses c_h0_lengths c_h0_fractions c_h0_pulseTimes c_h0_pulseEnergies c_h0_sound c_h0_seen c_h1_count c_h1_front c_h1_least c_h1_window c_h1_pulses c_h1_lengths c_h1_fractions c_h1_pulseTimes c_h1_pulseEnergies c_h1_sound c_h1_seen c_h2_count c_h2_front c_h2_least c_h2_window c_h2_pulses c_h2_lengths c_h2_fractions c_h2_pulseTimes c_h2_pulseEnergies c_h2_sound c_h2_seen c_s_length c_s_command c_s_position c_s_fault c_s_bytes c_s_numbers c_w_near c_w_far c_w_echoes c_w_totals c_p_result c_p_endTime c_q_count c_q_front c_q_least c_q_window c_q_pulses c_q_lengths c_q_fractions c_q_pulseTimes c_q_pulseEnergies c_t_near c_t_far c_t_echoes c_t_totals) none (wL E a T c_waveIsFresh c_peelingIsFresh c_n_count c_n_front c_n_least c_n_window c_n_pulses c_n_lengths c_n_fractions c_n_pulseTimes c_n_pulseEnergies c_n_sound c_n_seen c_hcount c_hp c_h0_count c_h0_front c_h0_least c_h0_window c_h0_pulses c_h0_lengths c_h0_fractions c_h0_pulseTimes c_h0_pulseEnergies c_h0_sound c_h0_seen c_h1_count c_h1_front c_h1_least c_h1_window c_h1_pulses c_h1_lengths c_h1_fractions c_h1_pulseTimes c_h1_pulseEnergies c_h1_sound c_h1_seen c_h2_count c_h2_front c_h2_least c_h2_window c_h2_pulses c_h2_lengths c_h2_fractions c_h2_pulseTimes c_h2_pulseEnergies c_h2_sound c_h2_seen c_s_length c_s_command c_s_position c_s_fault c_s_bytes c_s_numbers o_w_near o_w_far c_w_echoes o_w_totals c_p_result c_p_endTime c_q_count c_q_front c_q_least c_q_window c_q_pulses c_q_lengths c_q_fractions c_q_pulseTimes c_q_pulseEnergies c_t_near c_t_far c_t_echoes c_t_totals) :=
  MetM.of [(0, .ref (a 38)), (1, .ref (a 2)), (2, .int x2), (3, .int x3)] (by decide) (Nat.le_of_ble_eq_true rfl) rfl (fun X C hret => Cb_W_meetJoint_w_n C hret hf)
def Cf_W_addUpEchoes_w_69 (rec : (Nat → Int64) → Int32 → Option (Nat → Int64)) (c_w_totals : Nat → Int64) (x1 : Int32) : Option (Nat → Int64) :=
  nm (x1 + (1 : Int32)) fun x1_69 =>
  rec c_w_totals x1_69
set_option maxRecDepth 100000 in
set_option maxHeartbeats 4000000 in
theorem Cb_W_addUpEchoes_w_69 (C : Cx X (SFG E) T cX8_addUpEchoes RX8 none 2 1 30) {rec : (Nat → Int64) → Int32 → Option (Nat → Int64)} {x1 : Int32} {o_w_totals : Nat → Int64} (hrec : ∀ (c_w_totals : Nat → Int64) (x1 : Int32), rec c_w_totals x1 = some o_w_totals → V X 0 0 (wL E a T c_waveIsFresh c_peelingIsFresh c_n_count c_n_front c_n_least c_n_window c_n_pulses c_n_lengths c_n_fractions c_n_pulseTimes c_n_pulseEnergies c_n_sound c_n_seen c_hcount c_hp c_h0_count c_h0_front c_h0_least c_h0_window c_h0_pulses c_h0_lengths c_h0_fractions c_h0_pulseTimes c_h0_pulseEnergies c_h0_sound c_h0_seen c_h1_count c_h1_front c_h1_least c_h1_window c_h1_pulses c_h1_lengths c_h1_fractions c_h1_pulseTimes c_h1_pulseEnergies c_h1_sound c_h1_seen c_h2_count c_h2_front c_h2_least c_h2_window c_h2_pulses c_h2_lengths c_h2_fractions c_h2_pulseTimes c_h2_pulseEnergies c_h2_sound c_h2_seen c_s_length c_s_command c_s_position c_s_fault c_s_bytes c_s_numbers c_w_near c_w_far c_w_echoes c_w_totals c_p_result c_p_endTime c_q_count c_q_front c_q_least c_q_window c_q_pulses c_q_lengths c_q_fractions c_q_pulseTimes c_q_pulseEnergies c_t_near c_t_far c_t_echoes c_t_totals) [(0, .ref (a 38)), (1, .int x1)] 2 []) (hk : V X 0 0 (wL E a T c_waveIsFresh c_peelingIsFresh c_n_count c_n_front c_n_least c_n_window c_n_pulses c_n_lengths c_n_fractions c_n_pulseTimes c_n_pulseEnergies c_n_sound c_n_seen c_hcount c_hp c_h0_count c_h0_front c_h0_least c_h0_window c_h0_pulses c_h0_lengths c_h0_fractions c_h0_pulseTimes c_h0_pulseEnergies c_h0_sound c_h0_seen c_h1_count c_h1_front c_h1_least c_h1_window c_h1_pulses c_h1_lengths c_h1_fractions c_h1_pulseTimes c_h1_pulseEnergies c_h1_sound c_h1_seen c_h2_count c_h2_front c_h2_least c_h2_window c_h2_pulses c_h2_lengths c_h2_fractions c_h2_pulseTimes c_h2_pulseEnergies c_h2_sound c_h2_seen c_s_length c_s_command c_s_position c_s_fault c_s_bytes c_s_numbers c_w_near c_w_far c_w_echoes o_w_totals c_p_result c_p_endTime c_q_count c_q_front c_q_least c_q_window c_q_pulses c_q_lengths c_q_fractions c_q_pulseTimes c_q_pulseEnergies c_t_near c_t_far c_t_echoes c_t_totals) [] 75 []) (hf : Cf_W_addUpEchoes_w_69 rec c_w_totals x1 = some o_w_totals) : V X 0 0 (wL E a T c_waveIsFresh c_peelingIsFresh c_n_count c_n_front c_n_least c_n_window c_n_pulses c_n_lengths c_n_fractions c_n_pulseTimes c_n_pulseEnergies c_n_sound c_n_seen c_hcount c_hp c_h0_count c_h0_front c_h0_least c_h0_window c_h0_pulses c_h0_lengths c_h0_fractions c_h0_pulseTimes c_h0_pulseEnergies c_h0_sound c_h0_seen c_h1_count c_h1_front c_h1_least c_h1_window c_h1_pulses c_h1_lengths c_h1_fractions c_h1_pulseTimes c_h1_pulseEnergies c_h1_sound c_h1_seen c_h2_count c_h2_front c_h2_least c_h2_window c_h2_pulses c_h2_lengths c_h2_fractions c_h2_pulseTimes c_h2_pulseEnergies c_h2_sound c_h2_seen c_s_length c_s_command c_s_position c_s_fault c_s_bytes c_s_numbers c_w_near c_w_far c_w_echoes c_w_totals c_p_result c_p_endTime c_q_count c_q_front c_q_least c_q_window c_q_pulses c_q_lengths c_q_fractions c_q_pulseTimes c_q_pulseEnergies c_t_near c_t_far c_t_echoes c_t_totals) [(0, .ref (a 38)), (1, .int x1)] 69 [] := by
  unfold Cf_W_addUpEchoes_w_69 at hf
  refine v_iinc (fun x1_69 => [(0, .ref (a 38)), (1, .int x1_69)]) [1, 0] C dX8_addUpEchoes_69 (j := 1) rfl (dv := 1) (by decide) (by decide) (fun _ => rfl) hf (fun x1_69 hf => ?_)
  refine v_goto 2 C dX8_addUpEchoes_72 (by decide) ?_
  exact hrec _ _ hf
def Cl_W_addUpEchoes_w_2 (c_w_echoes : Nat → Int64) : Nat → (Nat → Int64) → Int32 → Option (Nat → Int64)
  | 0, _, _ => none
  | n + 1, c_w_totals, x1 =>
    if (201 : Int32) ≤ x1 then
      some c_w_totals
    else
      chk (inb x1 201) <| nm (c_w_echoes x1.toNatClampNeg) fun z14 =>
      if z14 ≤ (0 : Int64) then
        Cf_W_addUpEchoes_w_69 (Cl_W_addUpEchoes_w_2 c_w_echoes n) c_w_totals x1
      else
        chk (inb (1 : Int32) 9) <| nm (c_w_totals (1 : Int32).toNatClampNeg) fun z26 =>
        chk (inb x1 201) <| nm (c_w_echoes x1.toNatClampNeg) fun z32 =>
        nm (z26 + z32) fun z33 =>
        chk (inb (1 : Int32) 9) <| nm (vp_updL c_w_totals (1 : Int32).toNatClampNeg z33) fun w_totals_34 =>
        chk (inb (7 : Int32) 9) <| nm (w_totals_34 (7 : Int32).toNatClampNeg) fun z42 =>
        nm (z42 + (1 : Int64)) fun z44 =>
        chk (inb (7 : Int32) 9) <| nm (vp_updL w_totals_34 (7 : Int32).toNatClampNeg z44) fun w_totals_45 =>
        chk (inb (8 : Int32) 9) <| nm (w_totals_45 (8 : Int32).toNatClampNeg) fun z58 =>
        chk (inb x1 201) <| nm (c_w_echoes x1.toNatClampNeg) fun z64 =>
        nm (if z64 < z58 then z58 else z64) fun z65 =>
        chk (inb (8 : Int32) 9) <| nm (vp_updL w_totals_45 (8 : Int32).toNatClampNeg z65) fun w_totals_68 =>
        Cf_W_addUpEchoes_w_69 (Cl_W_addUpEchoes_w_2 c_w_echoes n) w_totals_68 x1
set_option maxRecDepth 100000 in
set_option maxHeartbeats 4000000 in
theorem Ck_W_addUpEchoes_w_2 (C : Cx X (SFG E) T cX8_addUpEchoes RX8 none 2 1 30)  {o_w_totals : Nat → Int64} (hk : V X 0 0 (wL E a T c_waveIsFresh c_peelingIsFresh c_n_count c_n_front c_n_least c_n_window c_n_pulses c_n_lengths c_n_fractions c_n_pulseTimes c_n_pulseEnergies c_n_sound c_n_seen c_hcount c_hp c_h0_count c_h0_front c_h0_least c_h0_window c_h0_pulses c_h0_lengths c_h0_fractions c_h0_pulseTimes c_h0_pulseEnergies c_h0_sound c_h0_seen c_h1_count c_h1_front c_h1_least c_h1_window c_h1_pulses c_h1_lengths c_h1_fractions c_h1_pulseTimes c_h1_pulseEnergies c_h1_sound c_h1_seen c_h2_count c_h2_front c_h2_least c_h2_window c_h2_pulses c_h2_lengths c_h2_fractions c_h2_pulseTimes c_h2_pulseEnergies c_h2_sound c_h2_seen c_s_length c_s_command c_s_position c_s_fault c_s_bytes c_s_numbers c_w_near c_w_far c_w_echoes o_w_totals c_p_result c_p_endTime c_q_count c_q_front c_q_least c_q_window c_q_pulses c_q_lengths c_q_fractions c_q_pulseTimes c_q_pulseEnergies c_t_near c_t_far c_t_echoes c_t_totals) [] 75 []) : ∀ (n : Nat) (c_w_totals : Nat → Int64) (x1 : Int32), Cl_W_addUpEchoes_w_2 c_w_echoes n c_w_totals x1 = some o_w_totals → V X 0 0 (wL E a T c_waveIsFresh c_peelingIsFresh c_n_count c_n_front c_n_least c_n_window c_n_pulses c_n_lengths c_n_fractions c_n_pulseTimes c_n_pulseEnergies c_n_sound c_n_seen c_hcount c_hp c_h0_count c_h0_front c_h0_least c_h0_window c_h0_pulses c_h0_lengths c_h0_fractions c_h0_pulseTimes c_h0_pulseEnergies c_h0_sound c_h0_seen c_h1_count c_h1_front c_h1_least c_h1_window c_h1_pulses c_h1_lengths c_h1_fractions c_h1_pulseTimes c_h1_pulseEnergies c_h1_sound c_h1_seen c_h2_count c_h2_front c_h2_least c_h2_window c_h2_pulses c_h2_lengths c_h2_fractions c_h2_pulseTimes c_h2_pulseEnergies c_h2_sound c_h2_seen c_s_length c_s_command c_s_position c_s_fault c_s_bytes c_s_numbers c_w_near c_w_far c_w_echoes c_w_totals c_p_result c_p_endTime c_q_count c_q_front c_q_least c_q_window c_q_pulses c_q_lengths c_q_fractions c_q_pulseTimes c_q_pulseEnergies c_t_near c_t_far c_t_echoes c_t_totals) [(0, .ref (a 38)), (1, .int x1)] 2 [] := by
  intro n
  induction n with
  | zero =>
    intro _ _ hf
    cases hf
  | succ n hrec =>
    intro c_w_totals x1 hf
    rw [Cl_W_addUpEchoes_w_2] at hf
    refine v_iload_n 1 C dX8_addUpEchoes_2 rfl rfl ?_
    refine v_sipush (v := 201) C dX8_addUpEchoes_3 (by decide) ?_
    refine v_icmp_ge 75 C dX8_addUpEchoes_6 (by decide) hf (fun c hf => ?_) (fun c hf => ?_)
    · refine v_lv [] [] rfl ?_
      cases hf
      exact hk
    · refine v_aload_n 0 C dX8_addUpEchoes_9 rfl rfl ?_
      refine Cg_38_echoes wfieldLink_RX8_19_LineEchoes_Wave_echoes_J C dX8_addUpEchoes_10 ?_
      refine v_iload_n 1 C dX8_addUpEchoes_13 rfl rfl ?_
      refine Cal_41 C dX8_addUpEchoes_14 hf (fun z14 hf => ?_)
      refine v_lconst (v := 0) C dX8_addUpEchoes_15 (by decide) ?_
      refine v_lcmp_le 69 C dX8_addUpEchoes_16 dX8_addUpEchoes_17 (by decide) hf (fun c hf => ?_) (fun c hf => ?_)
      · exact Cb_W_addUpEchoes_w_69 C hrec hk hf
      · refine v_aload_n 0 C dX8_addUpEchoes_20 rfl rfl ?_
        refine Cg_38_totals wfieldLink_RX8_23_LineEchoes_Wave_totals_J C dX8_addUpEchoes_21 ?_
        refine v_iconst (v := 1) C dX8_addUpEchoes_24 (by decide) ?_
        refine v_dup2_11 C dX8_addUpEchoes_25 rfl rfl ?_
        refine Cal_42 C dX8_addUpEchoes_26 hf (fun z26 hf => ?_)
        refine v_aload_n 0 C dX8_addUpEchoes_27 rfl rfl ?_
        refine Cg_38_echoes wfieldLink_RX8_19_LineEchoes_Wave_echoes_J C dX8_addUpEchoes_28 ?_
        refine v_iload_n 1 C dX8_addUpEchoes_31 rfl rfl ?_
        refine Cal_41 C dX8_addUpEchoes_32 hf (fun z32 hf => ?_)
        refine v_ladd C dX8_addUpEchoes_33 hf (fun z33 hf => ?_)
        refine Cas_42 C dX8_addUpEchoes_34 hf (fun w_totals_34 hf => ?_)
        refine v_aload_n 0 C dX8_addUpEchoes_35 rfl rfl ?_
        refine Cg_38_totals wfieldLink_RX8_23_LineEchoes_Wave_totals_J C dX8_addUpEchoes_36 ?_
        refine v_bipush (v := 7) C dX8_addUpEchoes_39 (by decide) ?_
        refine v_dup2_11 C dX8_addUpEchoes_41 rfl rfl ?_
        refine Cal_42 C dX8_addUpEchoes_42 hf (fun z42 hf => ?_)
        refine v_lconst (v := 1) C dX8_addUpEchoes_43 (by decide) ?_
        refine v_ladd C dX8_addUpEchoes_44 hf (fun z44 hf => ?_)
        refine Cas_42 C dX8_addUpEchoes_45 hf (fun w_totals_45 hf => ?_)
        refine v_aload_n 0 C dX8_addUpEchoes_46 rfl rfl ?_
        refine Cg_38_totals wfieldLink_RX8_23_LineEchoes_Wave_totals_J C dX8_addUpEchoes_47 ?_
        refine v_bipush (v := 8) C dX8_addUpEchoes_50 (by decide) ?_
        refine v_aload_n 0 C dX8_addUpEchoes_52 rfl rfl ?_
        refine Cg_38_totals wfieldLink_RX8_23_LineEchoes_Wave_totals_J C dX8_addUpEchoes_53 ?_
        refine v_bipush (v := 8) C dX8_addUpEchoes_56 (by decide) ?_
        refine Cal_42 C dX8_addUpEchoes_58 hf (fun z58 hf => ?_)
        refine v_aload_n 0 C dX8_addUpEchoes_59 rfl rfl ?_
        refine Cg_38_echoes wfieldLink_RX8_19_LineEchoes_Wave_echoes_J C dX8_addUpEchoes_60 ?_
        refine v_iload_n 1 C dX8_addUpEchoes_63 rfl rfl ?_
        refine Cal_41 C dX8_addUpEchoes_64 hf (fun z64 hf => ?_)
        refine Ce_max wmethodLink_RX8_69_Lib_MathLoose_max_long_x C dX8_addUpEchoes_65 (by decide) (Nat.le_of_ble_eq_true rfl) hf (fun z65 hf => ?_)
        refine Cas_42 C dX8_addUpEchoes_68 hf (fun w_totals_68 hf => ?_)
        exact Cb_W_addUpEchoes_w_69 C hrec hk hf
def Cf_W_addUpEchoes_w (c_w_echoes : Nat → Int64) (c_w_totals : Nat → Int64) : Option (Nat → Int64) :=
  bd (Cl_W_addUpEchoes_w_2 c_w_echoes FUEL c_w_totals (0 : Int32)) fun o_w_totals_2 =>
  some o_w_totals_2
set_option maxRecDepth 100000 in
set_option maxHeartbeats 4000000 in
theorem Cb_W_addUpEchoes_w (C : Cx X (SFG E) T cX8_addUpEchoes RX8 none 2 1 30)  {o_w_totals : Nat → Int64} (hret : RetOK X 0 0 none (wL E a T c_waveIsFresh c_peelingIsFresh c_n_count c_n_front c_n_least c_n_window c_n_pulses c_n_lengths c_n_fractions c_n_pulseTimes c_n_pulseEnergies c_n_sound c_n_seen c_hcount c_hp c_h0_count c_h0_front c_h0_least c_h0_window c_h0_pulses c_h0_lengths c_h0_fractions c_h0_pulseTimes c_h0_pulseEnergies c_h0_sound c_h0_seen c_h1_count c_h1_front c_h1_least c_h1_window c_h1_pulses c_h1_lengths c_h1_fractions c_h1_pulseTimes c_h1_pulseEnergies c_h1_sound c_h1_seen c_h2_count c_h2_front c_h2_least c_h2_window c_h2_pulses c_h2_lengths c_h2_fractions c_h2_pulseTimes c_h2_pulseEnergies c_h2_sound c_h2_seen c_s_length c_s_command c_s_position c_s_fault c_s_bytes c_s_numbers c_w_near c_w_far c_w_echoes o_w_totals c_p_result c_p_endTime c_q_count c_q_front c_q_least c_q_window c_q_pulses c_q_lengths c_q_fractions c_q_pulseTimes c_q_pulseEnergies c_t_near c_t_far c_t_echoes c_t_totals)) (hf : Cf_W_addUpEchoes_w c_w_echoes c_w_totals = some o_w_totals) : V X 0 0 (wL E a T c_waveIsFresh c_peelingIsFresh c_n_count c_n_front c_n_least c_n_window c_n_pulses c_n_lengths c_n_fractions c_n_pulseTimes c_n_pulseEnergies c_n_sound c_n_seen c_hcount c_hp c_h0_count c_h0_front c_h0_least c_h0_window c_h0_pulses c_h0_lengths c_h0_fractions c_h0_pulseTimes c_h0_pulseEnergies c_h0_sound c_h0_seen c_h1_count c_h1_front c_h1_least c_h1_window c_h1_pulses c_h1_lengths c_h1_fractions c_h1_pulseTimes c_h1_pulseEnergies c_h1_sound c_h1_seen c_h2_count c_h2_front c_h2_least c_h2_window c_h2_pulses c_h2_lengths c_h2_fractions c_h2_pulseTimes c_h2_pulseEnergies c_h2_sound c_h2_seen c_s_length c_s_command c_s_position c_s_fault c_s_bytes c_s_numbers c_w_near c_w_far c_w_echoes c_w_totals c_p_result c_p_endTime c_q_count c_q_front c_q_least c_q_window c_q_pulses c_q_lengths c_q_fractions c_q_pulseTimes c_q_pulseEnergies c_t_near c_t_far c_t_echoes c_t_totals) [(0, .ref (a 38))] 0 [] := by
  unfold Cf_W_addUpEchoes_w at hf
  refine v_iconst (v := 0) C dX8_addUpEchoes_0 (by decide) ?_
  refine v_istore_n [(0, .ref (a 38)), (1, .int (0 : Int32))] [1, 0] C dX8_addUpEchoes_1 rfl (by decide) rfl ?_
  obtain ⟨o_w_totals_2, hc, hf⟩ := bd_some hf
  refine Ck_W_addUpEchoes_w_2 C ?_ _ _ _ hc
  cases hf
  exact v_vret C hret dX8_addUpEchoes_75
set_option maxRecDepth 100000 in
set_option maxHeartbeats 4000000 in
theorem Cm_W_addUpEchoes_w {D : va_G}  {o_w_totals : Nat → Int64} (hf : Cf_W_addUpEchoes_w c_w_echoes c_w_totals = some o_w_totals) : MetM (SFG E) yX8_addUpEchoes cX8_addUpEchoes 2 none { frames := 1, cells := 0, slots := 0, locals := 30 } D T [.ref (a 38)] (wL E a T c_waveIsFresh c_peelingIsFresh c_n_count c_n_front c_n_least c_n_window c_n_pulses c_n_lengths c_n_fractions c_n_pulseTimes c_n_pulseEnergies c_n_sound c_n_seen c_hcount c_hp c_h0_count c_h0_front c_h0_least c_h0_window c_h0_pulses c_h0_lengths c_h0_fractions c_h0_pulseTimes c_h0_pulseEnergies c_h0_sound c_h0_seen c_h1_count c_h1_front c_h1_least c_h1_window c_h1_pulses c_h1_lengths c_h1_fractions c_h1_pulseTimes c_h1_pulseEnergies c_h1_sound c_h1_seen c_h2_count c_h2_front c_h2_least c_h2_window c_h2_pulses c_h2_lengths c_h2_fractions c_h2_pulseTimes c_h2_pulseEnergies c_h2_sound c_h2_seen c_s_length c_s_command c_s_position c_s_fault c_s_bytes c_s_numbers c_w_near c_w_far c_w_echoes c_w_totals c_p_result c_p_endTime c_q_count c_q_front c_q_least c_q_window c_q_pulses c_q_lengths c_q_fractions c_q_pulseTimes c_q_pulseEnergies c_t_near c_t_far c_t_echoes c_t_totals) none (wL E a T c_waveIsFresh c_peelingIsFresh c_n_count c_n_front c_n_least c_n_window c_n_pulses c_n_lengths c_n_fractions c_n_pulseTimes c_n_pulseEnergies c_n_sound c_n_seen c_hcount c_hp c_h0_count c_h0_front c_h0_least c_h0_window c_h0_pulses c_h0_lengths c_h0_fractions c_h0_pulseTimes c_h0_pulseEnergies c_h0_sound c_h0_seen c_h1_count c_h1_front c_h1_least c_h1_window c_h1_pulses c_h1_lengths c_h1_fractions c_h1_pulseTimes c_h1_pulseEnergies c_h1_sound c_h1_seen c_h2_count c_h2_front c_h2_least c_h2_window c_h2_pulses c_h2_lengths c_h2_fractions c_h2_pulseTimes c_h2_pulseEnergies c_h2_sound c_h2_seen c_s_length c_s_command c_s_position c_s_fault c_s_bytes c_s_numbers c_w_near c_w_far c_w_echoes o_w_totals c_p_result c_p_endTime c_q_count c_q_front c_q_least c_q_window c_q_pulses c_q_lengths c_q_fractions c_q_pulseTimes c_q_pulseEnergies c_t_near c_t_far c_t_echoes c_t_totals) :=
  MetM.of [(0, .ref (a 38))] (by decide) (Nat.le_of_ble_eq_true rfl) rfl (fun X C hret => Cb_W_addUpEchoes_w C hret hf)
set_option maxRecDepth 100000 in
theorem Cc_W_meetJoint_w_n {x2 : Int32} {x3 : Int32} {cc : ByteArray} {own : String} {ret : Option FieldType} {nl fr lo pc ix : Nat} {lv : List (Nat × Value)} {rest : List Value} {β : Type} {K : ((Nat → Nat → Int64) × (Nat → Nat → Int64) × (Nat → Int64)) → Option β} {oo : β} (hl : Cond.methodLink own ix yX8_meetJoint ∈ wsG) (C : Cx X (SFG E) T cc own ret nl fr lo) (hdg : decode cc pc = .ok (.invokevirtual ix, 3)) (hroom : 1 + 1 ≤ fr ∧ 8 + (13 + 11) + 27 ≤ lo) (hst : (rest.map fun v => v.category).sum ≤ 8) (hf : bd (Cf_W_meetJoint_w_n c_n_count c_n_least c_n_window c_n_lengths c_n_fractions c_w_near c_w_far c_w_totals x2 x3) K = some oo) (kk : ∀ (o_w_near : Nat → Nat → Int64) (o_w_far : Nat → Nat → Int64) (o_w_totals : Nat → Int64), K (o_w_near, o_w_far, o_w_totals) = some oo → V X 0 0 (wL E a T c_waveIsFresh c_peelingIsFresh c_n_count c_n_front c_n_least c_n_window c_n_pulses c_n_lengths c_n_fractions c_n_pulseTimes c_n_pulseEnergies c_n_sound c_n_seen c_hcount c_hp c_h0_count c_h0_front c_h0_least c_h0_window c_h0_pulses c_h0_lengths c_h0_fractions c_h0_pulseTimes c_h0_pulseEnergies c_h0_sound c_h0_seen c_h1_count c_h1_front c_h1_least c_h1_window c_h1_pulses c_h1_lengths c_h1_fractions c_h1_pulseTimes c_h1_pulseEnergies c_h1_sound c_h1_seen c_h2_count c_h2_front c_h2_least c_h2_window c_h2_pulses c_h2_lengths c_h2_fractions c_h2_pulseTimes c_h2_pulseEnergies c_h2_sound c_h2_seen c_s_length c_s_command c_s_position c_s_fault c_s_bytes c_s_numbers o_w_near o_w_far c_w_echoes o_w_totals c_p_result c_p_endTime c_q_count c_q_front c_q_least c_q_window c_q_pulses c_q_lengths c_q_fractions c_q_pulseTimes c_q_pulseEnergies c_t_near c_t_far c_t_echoes c_t_totals) lv (pc + 3) rest) : V X 0 0 (wL E a T c_waveIsFresh c_peelingIsFresh c_n_count c_n_front c_n_least c_n_window c_n_pulses c_n_lengths c_n_fractions c_n_pulseTimes c_n_pulseEnergies c_n_sound c_n_seen c_hcount c_hp c_h0_count c_h0_front c_h0_least c_h0_window c_h0_pulses c_h0_lengths c_h0_fractions c_h0_pulseTimes c_h0_pulseEnergies c_h0_sound c_h0_seen c_h1_count c_h1_front c_h1_least c_h1_window c_h1_pulses c_h1_lengths c_h1_fractions c_h1_pulseTimes c_h1_pulseEnergies c_h1_sound c_h1_seen c_h2_count c_h2_front c_h2_least c_h2_window c_h2_pulses c_h2_lengths c_h2_fractions c_h2_pulseTimes c_h2_pulseEnergies c_h2_sound c_h2_seen c_s_length c_s_command c_s_position c_s_fault c_s_bytes c_s_numbers c_w_near c_w_far c_w_echoes c_w_totals c_p_result c_p_endTime c_q_count c_q_front c_q_least c_q_window c_q_pulses c_q_lengths c_q_fractions c_q_pulseTimes c_q_pulseEnergies c_t_near c_t_far c_t_echoes c_t_totals) lv pc (.int x3 :: .int x2 :: .ref (a 2) :: .ref (a 38) :: rest) := by
  obtain ⟨⟨o_w_near, o_w_far, o_w_totals⟩, hc, hk⟩ := bd_some hf
  exact v_callV (As := [.ref (a 2), .int x2, .int x3]) (rest := rest) (q0 := 38) 3 C (CapOK.z X) (fun D => Cm_W_meetJoint_w_n hc) (goodV hl winstanceMethod_yX8_meetJoint wselects_RX8_yX8_meetJoint_yX8_meetJoint winitialized_RX8 wcode_yX8_meetJoint_cX8_meetJoint_13_none) (by decide +kernel) hroom ⟨rfl, rfl⟩ rfl rfl rfl hst hdg (kk o_w_near o_w_far o_w_totals hk)
def Cl_W_spread_w_n_47 (c_n_count : Int32) (c_n_least : Int32) (c_n_window : Int32) (c_n_lengths : Nat → Int32) (c_n_fractions : Nat → Int32) (x2 : Int32) : Nat → (Nat → Nat → Int64) → (Nat → Nat → Int64) → (Nat → Int64) → Int32 → Option ((Nat → Nat → Int64) × (Nat → Nat → Int64) × (Nat → Int64))
  | 0, _, _, _, _ => none
  | n + 1, c_w_near, c_w_far, c_w_totals, x3 =>
    if c_n_count < x3 then
      some (c_w_near, c_w_far, c_w_totals)
    else
      bd (Cf_W_meetJoint_w_n c_n_count c_n_least c_n_window c_n_lengths c_n_fractions c_w_near c_w_far c_w_totals x3 x2) fun (w_near_59, w_far_59, w_totals_59) =>
      nm (x3 + (1 : Int32)) fun x3_62 =>
      Cl_W_spread_w_n_47 c_n_count c_n_least c_n_window c_n_lengths c_n_fractions x2 n w_near_59 w_far_59 w_totals_59 x3_62
set_option maxRecDepth 100000 in
set_option maxHeartbeats 4000000 in
theorem Ck_W_spread_w_n_47 (C : Cx X (SFG E) T cX8_spread RX8 none 4 2 59) {x2 : Int32} {o_w_near : Nat → Nat → Int64} {o_w_far : Nat → Nat → Int64} {o_w_totals : Nat → Int64} (hk : V X 0 0 (wL E a T c_waveIsFresh c_peelingIsFresh c_n_count c_n_front c_n_least c_n_window c_n_pulses c_n_lengths c_n_fractions c_n_pulseTimes c_n_pulseEnergies c_n_sound c_n_seen c_hcount c_hp c_h0_count c_h0_front c_h0_least c_h0_window c_h0_pulses c_h0_lengths c_h0_fractions c_h0_pulseTimes c_h0_pulseEnergies c_h0_sound c_h0_seen c_h1_count c_h1_front c_h1_least c_h1_window c_h1_pulses c_h1_lengths c_h1_fractions c_h1_pulseTimes c_h1_pulseEnergies c_h1_sound c_h1_seen c_h2_count c_h2_front c_h2_least c_h2_window c_h2_pulses c_h2_lengths c_h2_fractions c_h2_pulseTimes c_h2_pulseEnergies c_h2_sound c_h2_seen c_s_length c_s_command c_s_position c_s_fault c_s_bytes c_s_numbers o_w_near o_w_far c_w_echoes o_w_totals c_p_result c_p_endTime c_q_count c_q_front c_q_least c_q_window c_q_pulses c_q_lengths c_q_fractions c_q_pulseTimes c_q_pulseEnergies c_t_near c_t_far c_t_echoes c_t_totals) [(0, .ref (a 38)), (1, .ref (a 2)), (2, .int x2)] 68 []) : ∀ (n : Nat) (c_w_near : Nat → Nat → Int64) (c_w_far : Nat → Nat → Int64) (c_w_totals : Nat → Int64) (x3 : Int32), Cl_W_spread_w_n_47 c_n_count c_n_least c_n_window c_n_lengths c_n_fractions x2 n c_w_near c_w_far c_w_totals x3 = some (o_w_near, o_w_far, o_w_totals) → V X 0 0 (wL E a T c_waveIsFresh c_peelingIsFresh c_n_count c_n_front c_n_least c_n_window c_n_pulses c_n_lengths c_n_fractions c_n_pulseTimes c_n_pulseEnergies c_n_sound c_n_seen c_hcount c_hp c_h0_count c_h0_front c_h0_least c_h0_window c_h0_pulses c_h0_lengths c_h0_fractions c_h0_pulseTimes c_h0_pulseEnergies c_h0_sound c_h0_seen c_h1_count c_h1_front c_h1_least c_h1_window c_h1_pulses c_h1_lengths c_h1_fractions c_h1_pulseTimes c_h1_pulseEnergies c_h1_sound c_h1_seen c_h2_count c_h2_front c_h2_least c_h2_window c_h2_pulses c_h2_lengths c_h2_fractions c_h2_pulseTimes c_h2_pulseEnergies c_h2_sound c_h2_seen c_s_length c_s_command c_s_position c_s_fault c_s_bytes c_s_numbers c_w_near c_w_far c_w_echoes c_w_totals c_p_result c_p_endTime c_q_count c_q_front c_q_least c_q_window c_q_pulses c_q_lengths c_q_fractions c_q_pulseTimes c_q_pulseEnergies c_t_near c_t_far c_t_echoes c_t_totals) [(0, .ref (a 38)), (1, .ref (a 2)), (2, .int x2), (3, .int x3)] 47 [] := by
  intro n
  induction n with
  | zero =>
    intro _ _ _ _ hf
    cases hf
  | succ n hrec =>
    intro c_w_near c_w_far c_w_totals x3 hf
    rw [Cl_W_spread_w_n_47] at hf
    refine v_iload_n 3 C dX8_spread_47 rfl rfl ?_
    refine v_aload_n 1 C dX8_spread_48 rfl rfl ?_
    refine Cg_2_count wfieldLink_RX8_33_LineEchoes_Bench_count_I C dX8_spread_49 ?_
    refine v_icmp_gt 68 C dX8_spread_52 (by decide) hf (fun c hf => ?_) (fun c hf => ?_)
    · refine v_lv [(0, .ref (a 38)), (1, .ref (a 2)), (2, .int x2)] [0, 1, 2] rfl ?_
      cases hf
      exact hk
    · refine v_aload_n 0 C dX8_spread_55 rfl rfl ?_
      refine v_aload_n 1 C dX8_spread_56 rfl rfl ?_
      refine v_iload_n 3 C dX8_spread_57 rfl rfl ?_
      refine v_iload_n 2 C dX8_spread_58 rfl rfl ?_
      refine Cc_W_meetJoint_w_n wmethodLink_RX8_46_yX8_meetJoint C dX8_spread_59 (by decide) (Nat.le_of_ble_eq_true rfl) hf (fun w_near_59 w_far_59 w_totals_59 hf => ?_)
      refine v_iinc (fun x3_62 => [(0, .ref (a 38)), (1, .ref (a 2)), (2, .int x2), (3, .int x3_62)]) [1, 2, 3, 0] C dX8_spread_62 (j := 3) rfl (dv := 1) (by decide) (by decide) (fun _ => rfl) hf (fun x3_62 hf => ?_)
      refine v_goto 47 C dX8_spread_65 (by decide) ?_
      exact hrec _ _ _ _ hf
set_option maxRecDepth 100000 in
theorem Cc_W_meetFront_w_n {x2 : Int32} {cc : ByteArray} {own : String} {ret : Option FieldType} {nl fr lo pc ix : Nat} {lv : List (Nat × Value)} {rest : List Value} {β : Type} {K : ((Nat → Nat → Int64) × (Nat → Nat → Int64) × (Nat → Int64) × (Nat → Int64)) → Option β} {oo : β} (hl : Cond.methodLink own ix yX8_meetFront ∈ wsG) (C : Cx X (SFG E) T cc own ret nl fr lo) (hdg : decode cc pc = .ok (.invokevirtual ix, 3)) (hroom : 1 + 1 ≤ fr ∧ 8 + (9 + 11) + 27 ≤ lo) (hst : (rest.map fun v => v.category).sum ≤ 8) (hf : bd (Cf_W_meetFront_w_n c_n_front c_n_least c_n_window c_n_pulses c_n_lengths c_n_pulseTimes c_n_pulseEnergies c_w_near c_w_far c_w_echoes c_w_totals x2) K = some oo) (kk : ∀ (o_w_near : Nat → Nat → Int64) (o_w_far : Nat → Nat → Int64) (o_w_echoes : Nat → Int64) (o_w_totals : Nat → Int64), K (o_w_near, o_w_far, o_w_echoes, o_w_totals) = some oo → V X 0 0 (wL E a T c_waveIsFresh c_peelingIsFresh c_n_count c_n_front c_n_least c_n_window c_n_pulses c_n_lengths c_n_fractions c_n_pulseTimes c_n_pulseEnergies c_n_sound c_n_seen c_hcount c_hp c_h0_count c_h0_front c_h0_least c_h0_window c_h0_pulses c_h0_lengths c_h0_fractions c_h0_pulseTimes c_h0_pulseEnergies c_h0_sound c_h0_seen c_h1_count c_h1_front c_h1_least c_h1_window c_h1_pulses c_h1_lengths c_h1_fractions c_h1_pulseTimes c_h1_pulseEnergies c_h1_sound c_h1_seen c_h2_count c_h2_front c_h2_least c_h2_window c_h2_pulses c_h2_lengths c_h2_fractions c_h2_pulseTimes c_h2_pulseEnergies c_h2_sound c_h2_seen c_s_length c_s_command c_s_position c_s_fault c_s_bytes c_s_numbers o_w_near o_w_far o_w_echoes o_w_totals c_p_result c_p_endTime c_q_count c_q_front c_q_least c_q_window c_q_pulses c_q_lengths c_q_fractions c_q_pulseTimes c_q_pulseEnergies c_t_near c_t_far c_t_echoes c_t_totals) lv (pc + 3) rest) : V X 0 0 (wL E a T c_waveIsFresh c_peelingIsFresh c_n_count c_n_front c_n_least c_n_window c_n_pulses c_n_lengths c_n_fractions c_n_pulseTimes c_n_pulseEnergies c_n_sound c_n_seen c_hcount c_hp c_h0_count c_h0_front c_h0_least c_h0_window c_h0_pulses c_h0_lengths c_h0_fractions c_h0_pulseTimes c_h0_pulseEnergies c_h0_sound c_h0_seen c_h1_count c_h1_front c_h1_least c_h1_window c_h1_pulses c_h1_lengths c_h1_fractions c_h1_pulseTimes c_h1_pulseEnergies c_h1_sound c_h1_seen c_h2_count c_h2_front c_h2_least c_h2_window c_h2_pulses c_h2_lengths c_h2_fractions c_h2_pulseTimes c_h2_pulseEnergies c_h2_sound c_h2_seen c_s_length c_s_command c_s_position c_s_fault c_s_bytes c_s_numbers c_w_near c_w_far c_w_echoes c_w_totals c_p_result c_p_endTime c_q_count c_q_front c_q_least c_q_window c_q_pulses c_q_lengths c_q_fractions c_q_pulseTimes c_q_pulseEnergies c_t_near c_t_far c_t_echoes c_t_totals) lv pc (.int x2 :: .ref (a 2) :: .ref (a 38) :: rest) := by
  obtain ⟨⟨o_w_near, o_w_far, o_w_echoes, o_w_totals⟩, hc, hk⟩ := bd_some hf
  exact v_callV (As := [.ref (a 2), .int x2]) (rest := rest) (q0 := 38) 2 C (CapOK.z X) (fun D => Cm_W_meetFront_w_n hc) (goodV hl winstanceMethod_yX8_meetFront wselects_RX8_yX8_meetFront_yX8_meetFront winitialized_RX8 wcode_yX8_meetFront_cX8_meetFront_9_none) (by decide +kernel) hroom ⟨rfl, rfl⟩ rfl rfl rfl hst hdg (kk o_w_near o_w_far o_w_echoes o_w_totals hk)
def Cl_W_spread_w_n_31 (c_n_count : Int32) (c_n_front : Int32) (c_n_least : Int32) (c_n_window : Int32) (c_n_pulses : Int32) (c_n_lengths : Nat → Int32) (c_n_fractions : Nat → Int32) (c_n_pulseTimes : Nat → Int32) (c_n_pulseEnergies : Nat → Int32) : Nat → (Nat → Nat → Int64) → (Nat → Nat → Int64) → (Nat → Int64) → (Nat → Int64) → Int32 → Option ((Nat → Nat → Int64) × (Nat → Nat → Int64) × (Nat → Int64) × (Nat → Int64))
  | 0, _, _, _, _, _ => none
  | n + 1, c_w_near, c_w_far, c_w_echoes, c_w_totals, x2 =>
    if c_n_window < x2 then
      some (c_w_near, c_w_far, c_w_echoes, c_w_totals)
    else
      bd (Cf_W_meetFront_w_n c_n_front c_n_least c_n_window c_n_pulses c_n_lengths c_n_pulseTimes c_n_pulseEnergies c_w_near c_w_far c_w_echoes c_w_totals x2) fun (w_near_42, w_far_42, w_echoes_42, w_totals_42) =>
      bd (Cl_W_spread_w_n_47 c_n_count c_n_least c_n_window c_n_lengths c_n_fractions x2 FUEL w_near_42 w_far_42 w_totals_42 (1 : Int32)) fun (o_w_near_47, o_w_far_47, o_w_totals_47) =>
      nm (x2 + (1 : Int32)) fun x2_68 =>
      Cl_W_spread_w_n_31 c_n_count c_n_front c_n_least c_n_window c_n_pulses c_n_lengths c_n_fractions c_n_pulseTimes c_n_pulseEnergies n o_w_near_47 o_w_far_47 w_echoes_42 o_w_totals_47 x2_68
set_option maxRecDepth 100000 in
set_option maxHeartbeats 4000000 in
theorem Ck_W_spread_w_n_31 (C : Cx X (SFG E) T cX8_spread RX8 none 4 2 59)  {o_w_near : Nat → Nat → Int64} {o_w_far : Nat → Nat → Int64} {o_w_echoes : Nat → Int64} {o_w_totals : Nat → Int64} (hk : V X 0 0 (wL E a T c_waveIsFresh c_peelingIsFresh c_n_count c_n_front c_n_least c_n_window c_n_pulses c_n_lengths c_n_fractions c_n_pulseTimes c_n_pulseEnergies c_n_sound c_n_seen c_hcount c_hp c_h0_count c_h0_front c_h0_least c_h0_window c_h0_pulses c_h0_lengths c_h0_fractions c_h0_pulseTimes c_h0_pulseEnergies c_h0_sound c_h0_seen c_h1_count c_h1_front c_h1_least c_h1_window c_h1_pulses c_h1_lengths c_h1_fractions c_h1_pulseTimes c_h1_pulseEnergies c_h1_sound c_h1_seen c_h2_count c_h2_front c_h2_least c_h2_window c_h2_pulses c_h2_lengths c_h2_fractions c_h2_pulseTimes c_h2_pulseEnergies c_h2_sound c_h2_seen c_s_length c_s_command c_s_position c_s_fault c_s_bytes c_s_numbers o_w_near o_w_far o_w_echoes o_w_totals c_p_result c_p_endTime c_q_count c_q_front c_q_least c_q_window c_q_pulses c_q_lengths c_q_fractions c_q_pulseTimes c_q_pulseEnergies c_t_near c_t_far c_t_echoes c_t_totals) [(0, .ref (a 38))] 74 []) : ∀ (n : Nat) (c_w_near : Nat → Nat → Int64) (c_w_far : Nat → Nat → Int64) (c_w_echoes : Nat → Int64) (c_w_totals : Nat → Int64) (x2 : Int32), Cl_W_spread_w_n_31 c_n_count c_n_front c_n_least c_n_window c_n_pulses c_n_lengths c_n_fractions c_n_pulseTimes c_n_pulseEnergies n c_w_near c_w_far c_w_echoes c_w_totals x2 = some (o_w_near, o_w_far, o_w_echoes, o_w_totals) → V X 0 0 (wL E a T c_waveIsFresh c_peelingIsFresh c_n_count c_n_front c_n_least c_n_window c_n_pulses c_n_lengths c_n_fractions c_n_pulseTimes c_n_pulseEnergies c_n_sound c_n_seen c_hcount c_hp c_h0_count c_h0_front c_h0_least c_h0_window c_h0_pulses c_h0_lengths c_h0_fractions c_h0_pulseTimes c_h0_pulseEnergies c_h0_sound c_h0_seen c_h1_count c_h1_front c_h1_least c_h1_window c_h1_pulses c_h1_lengths c_h1_fractions c_h1_pulseTimes c_h1_pulseEnergies c_h1_sound c_h1_seen c_h2_count c_h2_front c_h2_least c_h2_window c_h2_pulses c_h2_lengths c_h2_fractions c_h2_pulseTimes c_h2_pulseEnergies c_h2_sound c_h2_seen c_s_length c_s_command c_s_position c_s_fault c_s_bytes c_s_numbers c_w_near c_w_far c_w_echoes c_w_totals c_p_result c_p_endTime c_q_count c_q_front c_q_least c_q_window c_q_pulses c_q_lengths c_q_fractions c_q_pulseTimes c_q_pulseEnergies c_t_near c_t_far c_t_echoes c_t_totals) [(0, .ref (a 38)), (1, .ref (a 2)), (2, .int x2)] 31 [] := by
  intro n
  induction n with
  | zero =>
    intro _ _ _ _ _ hf
    cases hf
  | succ n hrec =>
    intro c_w_near c_w_far c_w_echoes c_w_totals x2 hf
    rw [Cl_W_spread_w_n_31] at hf
    refine v_iload_n 2 C dX8_spread_31 rfl rfl ?_
    refine v_aload_n 1 C dX8_spread_32 rfl rfl ?_
    refine Cg_2_window wfieldLink_RX8_39_LineEchoes_Bench_window_I C dX8_spread_33 ?_
    refine v_icmp_gt 74 C dX8_spread_36 (by decide) hf (fun c hf => ?_) (fun c hf => ?_)
    · refine v_lv [(0, .ref (a 38))] [0] rfl ?_
      cases hf
      exact hk
    · refine v_aload_n 0 C dX8_spread_39 rfl rfl ?_
      refine v_aload_n 1 C dX8_spread_40 rfl rfl ?_
      refine v_iload_n 2 C dX8_spread_41 rfl rfl ?_
      refine Cc_W_meetFront_w_n wmethodLink_RX8_42_yX8_meetFront C dX8_spread_42 (by decide) (Nat.le_of_ble_eq_true rfl) hf (fun w_near_42 w_far_42 w_echoes_42 w_totals_42 hf => ?_)
      refine v_iconst (v := 1) C dX8_spread_45 (by decide) ?_
      refine v_istore_n [(0, .ref (a 38)), (1, .ref (a 2)), (2, .int x2), (3, .int (1 : Int32))] [1, 2, 3, 0] C dX8_spread_46 rfl (by decide) rfl ?_
      obtain ⟨⟨o_w_near_47, o_w_far_47, o_w_totals_47⟩, hc, hf⟩ := bd_some hf
      refine Ck_W_spread_w_n_47 C ?_ _ _ _ _ _ hc
      refine v_iinc (fun x2_68 => [(0, .ref (a 38)), (1, .ref (a 2)), (2, .int x2_68)]) [1, 2, 0] C dX8_spread_68 (j := 2) rfl (dv := 1) (by decide) (by decide) (fun _ => rfl) hf (fun x2_68 hf => ?_)
      refine v_goto 31 C dX8_spread_71 (by decide) ?_
      exact hrec _ _ _ _ _ hf
set_option maxRecDepth 100000 in
theorem Cc_W_clear_w  {cc : ByteArray} {own : String} {ret : Option FieldType} {nl fr lo pc ix : Nat} {lv : List (Nat × Value)} {rest : List Value} {β : Type} {K : ((Nat → Nat → Int64) × (Nat → Nat → Int64) × (Nat → Int64) × (Nat → Int64)) → Option β} {oo : β} (hl : Cond.methodLink own ix yX8_clear ∈ wsG) (C : Cx X (SFG E) T cc own ret nl fr lo) (hdg : decode cc pc = .ok (.invokevirtual ix, 3)) (hroom : 1 + 1 ≤ fr ∧ 8 + (2 + 11) + 24 ≤ lo) (hst : (rest.map fun v => v.category).sum ≤ 8) (hf : bd (Cf_W_clear_w c_w_near c_w_far c_w_echoes c_w_totals) K = some oo) (kk : ∀ (o_w_near : Nat → Nat → Int64) (o_w_far : Nat → Nat → Int64) (o_w_echoes : Nat → Int64) (o_w_totals : Nat → Int64), K (o_w_near, o_w_far, o_w_echoes, o_w_totals) = some oo → V X 0 0 (wL E a T c_waveIsFresh c_peelingIsFresh c_n_count c_n_front c_n_least c_n_window c_n_pulses c_n_lengths c_n_fractions c_n_pulseTimes c_n_pulseEnergies c_n_sound c_n_seen c_hcount c_hp c_h0_count c_h0_front c_h0_least c_h0_window c_h0_pulses c_h0_lengths c_h0_fractions c_h0_pulseTimes c_h0_pulseEnergies c_h0_sound c_h0_seen c_h1_count c_h1_front c_h1_least c_h1_window c_h1_pulses c_h1_lengths c_h1_fractions c_h1_pulseTimes c_h1_pulseEnergies c_h1_sound c_h1_seen c_h2_count c_h2_front c_h2_least c_h2_window c_h2_pulses c_h2_lengths c_h2_fractions c_h2_pulseTimes c_h2_pulseEnergies c_h2_sound c_h2_seen c_s_length c_s_command c_s_position c_s_fault c_s_bytes c_s_numbers o_w_near o_w_far o_w_echoes o_w_totals c_p_result c_p_endTime c_q_count c_q_front c_q_least c_q_window c_q_pulses c_q_lengths c_q_fractions c_q_pulseTimes c_q_pulseEnergies c_t_near c_t_far c_t_echoes c_t_totals) lv (pc + 3) rest) : V X 0 0 (wL E a T c_waveIsFresh c_peelingIsFresh c_n_count c_n_front c_n_least c_n_window c_n_pulses c_n_lengths c_n_fractions c_n_pulseTimes c_n_pulseEnergies c_n_sound c_n_seen c_hcount c_hp c_h0_count c_h0_front c_h0_least c_h0_window c_h0_pulses c_h0_lengths c_h0_fractions c_h0_pulseTimes c_h0_pulseEnergies c_h0_sound c_h0_seen c_h1_count c_h1_front c_h1_least c_h1_window c_h1_pulses c_h1_lengths c_h1_fractions c_h1_pulseTimes c_h1_pulseEnergies c_h1_sound c_h1_seen c_h2_count c_h2_front c_h2_least c_h2_window c_h2_pulses c_h2_lengths c_h2_fractions c_h2_pulseTimes c_h2_pulseEnergies c_h2_sound c_h2_seen c_s_length c_s_command c_s_position c_s_fault c_s_bytes c_s_numbers c_w_near c_w_far c_w_echoes c_w_totals c_p_result c_p_endTime c_q_count c_q_front c_q_least c_q_window c_q_pulses c_q_lengths c_q_fractions c_q_pulseTimes c_q_pulseEnergies c_t_near c_t_far c_t_echoes c_t_totals) lv pc (.ref (a 38) :: rest) := by
  obtain ⟨⟨o_w_near, o_w_far, o_w_echoes, o_w_totals⟩, hc, hk⟩ := bd_some hf
  exact v_callV (As := []) (rest := rest) (q0 := 38) 0 C (CapOK.z X) (fun D => Cm_W_clear_w hc) (goodV hl winstanceMethod_yX8_clear wselects_RX8_yX8_clear_yX8_clear winitialized_RX8 wcode_yX8_clear_cX8_clear_2_none) (by decide +kernel) hroom ⟨rfl, rfl⟩ rfl rfl rfl hst hdg (kk o_w_near o_w_far o_w_echoes o_w_totals hk)
set_option maxRecDepth 100000 in
theorem Cc_W_addUpPulses_w_n  {cc : ByteArray} {own : String} {ret : Option FieldType} {nl fr lo pc ix : Nat} {lv : List (Nat × Value)} {rest : List Value} {β : Type} {K : (Nat → Int64) → Option β} {oo : β} (hl : Cond.methodLink own ix yX8_addUpPulses ∈ wsG) (C : Cx X (SFG E) T cc own ret nl fr lo) (hdg : decode cc pc = .ok (.invokevirtual ix, 3)) (hroom : 0 + 1 ≤ fr ∧ 8 + (3 + 11) + 0 ≤ lo) (hst : (rest.map fun v => v.category).sum ≤ 8) (hf : bd (Cf_W_addUpPulses_w_n c_n_window c_n_pulses c_n_pulseTimes c_n_pulseEnergies c_w_totals) K = some oo) (kk : ∀ (o_w_totals : Nat → Int64), K o_w_totals = some oo → V X 0 0 (wL E a T c_waveIsFresh c_peelingIsFresh c_n_count c_n_front c_n_least c_n_window c_n_pulses c_n_lengths c_n_fractions c_n_pulseTimes c_n_pulseEnergies c_n_sound c_n_seen c_hcount c_hp c_h0_count c_h0_front c_h0_least c_h0_window c_h0_pulses c_h0_lengths c_h0_fractions c_h0_pulseTimes c_h0_pulseEnergies c_h0_sound c_h0_seen c_h1_count c_h1_front c_h1_least c_h1_window c_h1_pulses c_h1_lengths c_h1_fractions c_h1_pulseTimes c_h1_pulseEnergies c_h1_sound c_h1_seen c_h2_count c_h2_front c_h2_least c_h2_window c_h2_pulses c_h2_lengths c_h2_fractions c_h2_pulseTimes c_h2_pulseEnergies c_h2_sound c_h2_seen c_s_length c_s_command c_s_position c_s_fault c_s_bytes c_s_numbers c_w_near c_w_far c_w_echoes o_w_totals c_p_result c_p_endTime c_q_count c_q_front c_q_least c_q_window c_q_pulses c_q_lengths c_q_fractions c_q_pulseTimes c_q_pulseEnergies c_t_near c_t_far c_t_echoes c_t_totals) lv (pc + 3) rest) : V X 0 0 (wL E a T c_waveIsFresh c_peelingIsFresh c_n_count c_n_front c_n_least c_n_window c_n_pulses c_n_lengths c_n_fractions c_n_pulseTimes c_n_pulseEnergies c_n_sound c_n_seen c_hcount c_hp c_h0_count c_h0_front c_h0_least c_h0_window c_h0_pulses c_h0_lengths c_h0_fractions c_h0_pulseTimes c_h0_pulseEnergies c_h0_sound c_h0_seen c_h1_count c_h1_front c_h1_least c_h1_window c_h1_pulses c_h1_lengths c_h1_fractions c_h1_pulseTimes c_h1_pulseEnergies c_h1_sound c_h1_seen c_h2_count c_h2_front c_h2_least c_h2_window c_h2_pulses c_h2_lengths c_h2_fractions c_h2_pulseTimes c_h2_pulseEnergies c_h2_sound c_h2_seen c_s_length c_s_command c_s_position c_s_fault c_s_bytes c_s_numbers c_w_near c_w_far c_w_echoes c_w_totals c_p_result c_p_endTime c_q_count c_q_front c_q_least c_q_window c_q_pulses c_q_lengths c_q_fractions c_q_pulseTimes c_q_pulseEnergies c_t_near c_t_far c_t_echoes c_t_totals) lv pc (.ref (a 2) :: .ref (a 38) :: rest) := by
  obtain ⟨o_w_totals, hc, hk⟩ := bd_some hf
  exact v_callV (As := [.ref (a 2)]) (rest := rest) (q0 := 38) 1 C (CapOK.z X) (fun D => Cm_W_addUpPulses_w_n hc) (goodV hl winstanceMethod_yX8_addUpPulses wselects_RX8_yX8_addUpPulses_yX8_addUpPulses winitialized_RX8 wcode_yX8_addUpPulses_cX8_addUpPulses_3_none) (by decide +kernel) hroom ⟨rfl, rfl⟩ rfl rfl rfl hst hdg (kk o_w_totals hk)
set_option maxRecDepth 100000 in
theorem Cc_W_addUpEchoes_w  {cc : ByteArray} {own : String} {ret : Option FieldType} {nl fr lo pc ix : Nat} {lv : List (Nat × Value)} {rest : List Value} {β : Type} {K : (Nat → Int64) → Option β} {oo : β} (hl : Cond.methodLink own ix yX8_addUpEchoes ∈ wsG) (C : Cx X (SFG E) T cc own ret nl fr lo) (hdg : decode cc pc = .ok (.invokevirtual ix, 3)) (hroom : 1 + 1 ≤ fr ∧ 8 + (2 + 11) + 30 ≤ lo) (hst : (rest.map fun v => v.category).sum ≤ 8) (hf : bd (Cf_W_addUpEchoes_w c_w_echoes c_w_totals) K = some oo) (kk : ∀ (o_w_totals : Nat → Int64), K o_w_totals = some oo → V X 0 0 (wL E a T c_waveIsFresh c_peelingIsFresh c_n_count c_n_front c_n_least c_n_window c_n_pulses c_n_lengths c_n_fractions c_n_pulseTimes c_n_pulseEnergies c_n_sound c_n_seen c_hcount c_hp c_h0_count c_h0_front c_h0_least c_h0_window c_h0_pulses c_h0_lengths c_h0_fractions c_h0_pulseTimes c_h0_pulseEnergies c_h0_sound c_h0_seen c_h1_count c_h1_front c_h1_least c_h1_window c_h1_pulses c_h1_lengths c_h1_fractions c_h1_pulseTimes c_h1_pulseEnergies c_h1_sound c_h1_seen c_h2_count c_h2_front c_h2_least c_h2_window c_h2_pulses c_h2_lengths c_h2_fractions c_h2_pulseTimes c_h2_pulseEnergies c_h2_sound c_h2_seen c_s_length c_s_command c_s_position c_s_fault c_s_bytes c_s_numbers c_w_near c_w_far c_w_echoes o_w_totals c_p_result c_p_endTime c_q_count c_q_front c_q_least c_q_window c_q_pulses c_q_lengths c_q_fractions c_q_pulseTimes c_q_pulseEnergies c_t_near c_t_far c_t_echoes c_t_totals) lv (pc + 3) rest) : V X 0 0 (wL E a T c_waveIsFresh c_peelingIsFresh c_n_count c_n_front c_n_least c_n_window c_n_pulses c_n_lengths c_n_fractions c_n_pulseTimes c_n_pulseEnergies c_n_sound c_n_seen c_hcount c_hp c_h0_count c_h0_front c_h0_least c_h0_window c_h0_pulses c_h0_lengths c_h0_fractions c_h0_pulseTimes c_h0_pulseEnergies c_h0_sound c_h0_seen c_h1_count c_h1_front c_h1_least c_h1_window c_h1_pulses c_h1_lengths c_h1_fractions c_h1_pulseTimes c_h1_pulseEnergies c_h1_sound c_h1_seen c_h2_count c_h2_front c_h2_least c_h2_window c_h2_pulses c_h2_lengths c_h2_fractions c_h2_pulseTimes c_h2_pulseEnergies c_h2_sound c_h2_seen c_s_length c_s_command c_s_position c_s_fault c_s_bytes c_s_numbers c_w_near c_w_far c_w_echoes c_w_totals c_p_result c_p_endTime c_q_count c_q_front c_q_least c_q_window c_q_pulses c_q_lengths c_q_fractions c_q_pulseTimes c_q_pulseEnergies c_t_near c_t_far c_t_echoes c_t_totals) lv pc (.ref (a 38) :: rest) := by
  obtain ⟨o_w_totals, hc, hk⟩ := bd_some hf
  exact v_callV (As := []) (rest := rest) (q0 := 38) 0 C (CapOK.z X) (fun D => Cm_W_addUpEchoes_w hc) (goodV hl winstanceMethod_yX8_addUpEchoes wselects_RX8_yX8_addUpEchoes_yX8_addUpEchoes winitialized_RX8 wcode_yX8_addUpEchoes_cX8_addUpEchoes_2_none) (by decide +kernel) hroom ⟨rfl, rfl⟩ rfl rfl rfl hst hdg (kk o_w_totals hk)
def Cf_W_spread_w_n (c_n_count : Int32) (c_n_front : Int32) (c_n_least : Int32) (c_n_window : Int32) (c_n_pulses : Int32) (c_n_lengths : Nat → Int32) (c_n_fractions : Nat → Int32) (c_n_pulseTimes : Nat → Int32) (c_n_pulseEnergies : Nat → Int32) (c_w_near : Nat → Nat → Int64) (c_w_far : Nat → Nat → Int64) (c_w_echoes : Nat → Int64) (c_w_totals : Nat → Int64) : Option ((Nat → Nat → Int64) × (Nat → Nat → Int64) × (Nat → Int64) × (Nat → Int64)) :=
  bd (Cf_W_clear_w c_w_near c_w_far c_w_echoes c_w_totals) fun (w_near_1, w_far_1, w_echoes_1, w_totals_1) =>
  bd (Cf_W_addUpPulses_w_n c_n_window c_n_pulses c_n_pulseTimes c_n_pulseEnergies w_totals_1) fun w_totals_6 =>
  if c_n_count = 0 then
    chk (inb (0 : Int32) 9) <| nm (w_totals_6 (0 : Int32).toNatClampNeg) fun z26 =>
    chk (inb (2 : Int32) 9) <| nm (vp_updL w_totals_6 (2 : Int32).toNatClampNeg z26) fun w_totals_27 =>
    some (w_near_1, w_far_1, w_echoes_1, w_totals_27)
  else
    bd (Cl_W_spread_w_n_31 c_n_count c_n_front c_n_least c_n_window c_n_pulses c_n_lengths c_n_fractions c_n_pulseTimes c_n_pulseEnergies FUEL w_near_1 w_far_1 w_echoes_1 w_totals_6 (0 : Int32)) fun (o_w_near_31, o_w_far_31, o_w_echoes_31, o_w_totals_31) =>
    bd (Cf_W_addUpEchoes_w o_w_echoes_31 o_w_totals_31) fun w_totals_75 =>
    some (o_w_near_31, o_w_far_31, o_w_echoes_31, w_totals_75)
set_option maxRecDepth 100000 in
set_option maxHeartbeats 4000000 in
theorem Cb_W_spread_w_n (C : Cx X (SFG E) T cX8_spread RX8 none 4 2 59)  {o_w_near : Nat → Nat → Int64} {o_w_far : Nat → Nat → Int64} {o_w_echoes : Nat → Int64} {o_w_totals : Nat → Int64} (hret : RetOK X 0 0 none (wL E a T c_waveIsFresh c_peelingIsFresh c_n_count c_n_front c_n_least c_n_window c_n_pulses c_n_lengths c_n_fractions c_n_pulseTimes c_n_pulseEnergies c_n_sound c_n_seen c_hcount c_hp c_h0_count c_h0_front c_h0_least c_h0_window c_h0_pulses c_h0_lengths c_h0_fractions c_h0_pulseTimes c_h0_pulseEnergies c_h0_sound c_h0_seen c_h1_count c_h1_front c_h1_least c_h1_window c_h1_pulses c_h1_lengths c_h1_fractions c_h1_pulseTimes c_h1_pulseEnergies c_h1_sound c_h1_seen c_h2_count c_h2_front c_h2_least c_h2_window c_h2_pulses c_h2_lengths c_h2_fractions c_h2_pulseTimes c_h2_pulseEnergies c_h2_sound c_h2_seen c_s_length c_s_command c_s_position c_s_fault c_s_bytes c_s_numbers o_w_near o_w_far o_w_echoes o_w_totals c_p_result c_p_endTime c_q_count c_q_front c_q_least c_q_window c_q_pulses c_q_lengths c_q_fractions c_q_pulseTimes c_q_pulseEnergies c_t_near c_t_far c_t_echoes c_t_totals)) (hf : Cf_W_spread_w_n c_n_count c_n_front c_n_least c_n_window c_n_pulses c_n_lengths c_n_fractions c_n_pulseTimes c_n_pulseEnergies c_w_near c_w_far c_w_echoes c_w_totals = some (o_w_near, o_w_far, o_w_echoes, o_w_totals)) : V X 0 0 (wL E a T c_waveIsFresh c_peelingIsFresh c_n_count c_n_front c_n_least c_n_window c_n_pulses c_n_lengths c_n_fractions c_n_pulseTimes c_n_pulseEnergies c_n_sound c_n_seen c_hcount c_hp c_h0_count c_h0_front c_h0_least c_h0_window c_h0_pulses c_h0_lengths c_h0_fractions c_h0_pulseTimes c_h0_pulseEnergies c_h0_sound c_h0_seen c_h1_count c_h1_front c_h1_least c_h1_window c_h1_pulses c_h1_lengths c_h1_fractions c_h1_pulseTimes c_h1_pulseEnergies c_h1_sound c_h1_seen c_h2_count c_h2_front c_h2_least c_h2_window c_h2_pulses c_h2_lengths c_h2_fractions c_h2_pulseTimes c_h2_pulseEnergies c_h2_sound c_h2_seen c_s_length c_s_command c_s_position c_s_fault c_s_bytes c_s_numbers c_w_near c_w_far c_w_echoes c_w_totals c_p_result c_p_endTime c_q_count c_q_front c_q_least c_q_window c_q_pulses c_q_lengths c_q_fractions c_q_pulseTimes c_q_pulseEnergies c_t_near c_t_far c_t_echoes c_t_totals) [(0, .ref (a 38)), (1, .ref (a 2))] 0 [] := by
  unfold Cf_W_spread_w_n at hf
  refine v_aload_n 0 C dX8_spread_0 rfl rfl ?_
  refine Cc_W_clear_w wmethodLink_RX8_26_yX8_clear C dX8_spread_1 (by decide) (Nat.le_of_ble_eq_true rfl) hf (fun w_near_1 w_far_1 w_echoes_1 w_totals_1 hf => ?_)
  refine v_aload_n 0 C dX8_spread_4 rfl rfl ?_
  refine v_aload_n 1 C dX8_spread_5 rfl rfl ?_
  refine Cc_W_addUpPulses_w_n wmethodLink_RX8_29_yX8_addUpPulses C dX8_spread_6 (by decide) (Nat.le_of_ble_eq_true rfl) hf (fun w_totals_6 hf => ?_)
  refine v_aload_n 1 C dX8_spread_9 rfl rfl ?_
  refine Cg_2_count wfieldLink_RX8_33_LineEchoes_Bench_count_I C dX8_spread_10 ?_
  refine v_if_ne 29 C dX8_spread_13 (by decide) hf (fun c hf => ?_) (fun c hf => ?_)
  · refine v_aload_n 0 C dX8_spread_16 rfl rfl ?_
    refine Cg_38_totals wfieldLink_RX8_23_LineEchoes_Wave_totals_J C dX8_spread_17 ?_
    refine v_iconst (v := 2) C dX8_spread_20 (by decide) ?_
    refine v_aload_n 0 C dX8_spread_21 rfl rfl ?_
    refine Cg_38_totals wfieldLink_RX8_23_LineEchoes_Wave_totals_J C dX8_spread_22 ?_
    refine v_iconst (v := 0) C dX8_spread_25 (by decide) ?_
    refine Cal_42 C dX8_spread_26 hf (fun z26 hf => ?_)
    refine Cas_42 C dX8_spread_27 hf (fun w_totals_27 hf => ?_)
    cases hf
    exact v_vret C hret dX8_spread_28
  · refine v_iconst (v := 0) C dX8_spread_29 (by decide) ?_
    refine v_istore_n [(0, .ref (a 38)), (1, .ref (a 2)), (2, .int (0 : Int32))] [1, 2, 0] C dX8_spread_30 rfl (by decide) rfl ?_
    obtain ⟨⟨o_w_near_31, o_w_far_31, o_w_echoes_31, o_w_totals_31⟩, hc, hf⟩ := bd_some hf
    refine Ck_W_spread_w_n_31 C ?_ _ _ _ _ _ _ hc
    refine v_aload_n 0 C dX8_spread_74 rfl rfl ?_
    refine Cc_W_addUpEchoes_w wmethodLink_RX8_50_yX8_addUpEchoes C dX8_spread_75 (by decide) (Nat.le_of_ble_eq_true rfl) hf (fun w_totals_75 hf => ?_)
    cases hf
    exact v_vret C hret dX8_spread_78
set_option maxRecDepth 100000 in
set_option maxHeartbeats 4000000 in
theorem Cm_W_spread_w_n {D : va_G}  {o_w_near : Nat → Nat → Int64} {o_w_far : Nat → Nat → Int64} {o_w_echoes : Nat → Int64} {o_w_totals : Nat → Int64} (hf : Cf_W_spread_w_n c_n_count c_n_front c_n_least c_n_window c_n_pulses c_n_lengths c_n_fractions c_n_pulseTimes c_n_pulseEnergies c_w_near c_w_far c_w_echoes c_w_totals = some (o_w_near, o_w_far, o_w_echoes, o_w_totals)) : MetM (SFG E) yX8_spread cX8_spread 4 none { frames := 2, cells := 0, slots := 0, locals := 59 } D T [.ref (a 38), .ref (a 2)] (wL E a T c_waveIsFresh c_peelingIsFresh c_n_count c_n_front c_n_least c_n_window c_n_pulses c_n_lengths c_n_fractions c_n_pulseTimes c_n_pulseEnergies c_n_sound c_n_seen c_hcount c_hp c_h0_count c_h0_front c_h0_least c_h0_window c_h0_pulses c_h0_lengths c_h0_fractions c_h0_pulseTimes c_h0_pulseEnergies c_h0_sound c_h0_seen c_h1_count c_h1_front c_h1_least c_h1_window c_h1_pulses c_h1_lengths c_h1_fractions c_h1_pulseTimes c_h1_pulseEnergies c_h1_sound c_h1_seen c_h2_count c_h2_front c_h2_least c_h2_window c_h2_pulses c_h2_lengths c_h2_fractions c_h2_pulseTimes c_h2_pulseEnergies c_h2_sound c_h2_seen c_s_length c_s_command c_s_position c_s_fault c_s_bytes c_s_numbers c_w_near c_w_far c_w_echoes c_w_totals c_p_result c_p_endTime c_q_count c_q_front c_q_least c_q_window c_q_pulses c_q_lengths c_q_fractions c_q_pulseTimes c_q_pulseEnergies c_t_near c_t_far c_t_echoes c_t_totals) none (wL E a T c_waveIsFresh c_peelingIsFresh c_n_count c_n_front c_n_least c_n_window c_n_pulses c_n_lengths c_n_fractions c_n_pulseTimes c_n_pulseEnergies c_n_sound c_n_seen c_hcount c_hp c_h0_count c_h0_front c_h0_least c_h0_window c_h0_pulses c_h0_lengths c_h0_fractions c_h0_pulseTimes c_h0_pulseEnergies c_h0_sound c_h0_seen c_h1_count c_h1_front c_h1_least c_h1_window c_h1_pulses c_h1_lengths c_h1_fractions c_h1_pulseTimes c_h1_pulseEnergies c_h1_sound c_h1_seen c_h2_count c_h2_front c_h2_least c_h2_window c_h2_pulses c_h2_lengths c_h2_fractions c_h2_pulseTimes c_h2_pulseEnergies c_h2_sound c_h2_seen c_s_length c_s_command c_s_position c_s_fault c_s_bytes c_s_numbers o_w_near o_w_far o_w_echoes o_w_totals c_p_result c_p_endTime c_q_count c_q_front c_q_least c_q_window c_q_pulses c_q_lengths c_q_fractions c_q_pulseTimes c_q_pulseEnergies c_t_near c_t_far c_t_echoes c_t_totals) :=
  MetM.of [(0, .ref (a 38)), (1, .ref (a 2))] (by decide) (Nat.le_of_ble_eq_true rfl) rfl (fun X C hret => Cb_W_spread_w_n C hret hf)
def Cl_A_fill_rr72_6 (x0 : Int32) (x1 : Int64) (x4 : Int32) : Nat → (Nat → Nat → Int64) → Int32 → Option (Nat → Nat → Int64)
  | 0, _, _ => none
  | n + 1, c_t_near, x3 =>
    if x4 ≤ x3 then
      some c_t_near
    else
      chk (inb x3 201) <| nm (va_up c_t_near x0.toNatClampNeg (vp_updL (c_t_near x0.toNatClampNeg) x3.toNatClampNeg x1)) fun t_near_15 =>
      nm (x3 + (1 : Int32)) fun x3_16 =>
      Cl_A_fill_rr72_6 x0 x1 x4 n t_near_15 x3_16
set_option maxRecDepth 100000 in
set_option maxHeartbeats 4000000 in
theorem Ck_A_fill_rr72_6 (C : Cx X (SFG E) T cJ7_fill_d0a16 RJ7 none 5 0 0) {x0 : Int32} {x1 : Int64} {x4 : Int32} (hj0 : inb x0 9) {o_t_near : Nat → Nat → Int64} (hk : V X 0 0 (wL E a T c_waveIsFresh c_peelingIsFresh c_n_count c_n_front c_n_least c_n_window c_n_pulses c_n_lengths c_n_fractions c_n_pulseTimes c_n_pulseEnergies c_n_sound c_n_seen c_hcount c_hp c_h0_count c_h0_front c_h0_least c_h0_window c_h0_pulses c_h0_lengths c_h0_fractions c_h0_pulseTimes c_h0_pulseEnergies c_h0_sound c_h0_seen c_h1_count c_h1_front c_h1_least c_h1_window c_h1_pulses c_h1_lengths c_h1_fractions c_h1_pulseTimes c_h1_pulseEnergies c_h1_sound c_h1_seen c_h2_count c_h2_front c_h2_least c_h2_window c_h2_pulses c_h2_lengths c_h2_fractions c_h2_pulseTimes c_h2_pulseEnergies c_h2_sound c_h2_seen c_s_length c_s_command c_s_position c_s_fault c_s_bytes c_s_numbers c_w_near c_w_far c_w_echoes c_w_totals c_p_result c_p_endTime c_q_count c_q_front c_q_least c_q_window c_q_pulses c_q_lengths c_q_fractions c_q_pulseTimes c_q_pulseEnergies o_t_near c_t_far c_t_echoes c_t_totals) [] 22 []) : ∀ (n : Nat) (c_t_near : Nat → Nat → Int64) (x3 : Int32), Cl_A_fill_rr72_6 x0 x1 x4 n c_t_near x3 = some o_t_near → V X 0 0 (wL E a T c_waveIsFresh c_peelingIsFresh c_n_count c_n_front c_n_least c_n_window c_n_pulses c_n_lengths c_n_fractions c_n_pulseTimes c_n_pulseEnergies c_n_sound c_n_seen c_hcount c_hp c_h0_count c_h0_front c_h0_least c_h0_window c_h0_pulses c_h0_lengths c_h0_fractions c_h0_pulseTimes c_h0_pulseEnergies c_h0_sound c_h0_seen c_h1_count c_h1_front c_h1_least c_h1_window c_h1_pulses c_h1_lengths c_h1_fractions c_h1_pulseTimes c_h1_pulseEnergies c_h1_sound c_h1_seen c_h2_count c_h2_front c_h2_least c_h2_window c_h2_pulses c_h2_lengths c_h2_fractions c_h2_pulseTimes c_h2_pulseEnergies c_h2_sound c_h2_seen c_s_length c_s_command c_s_position c_s_fault c_s_bytes c_s_numbers c_w_near c_w_far c_w_echoes c_w_totals c_p_result c_p_endTime c_q_count c_q_front c_q_least c_q_window c_q_pulses c_q_lengths c_q_fractions c_q_pulseTimes c_q_pulseEnergies c_t_near c_t_far c_t_echoes c_t_totals) [(0, .ref (a (72 + x0.toNatClampNeg))), (1, .long x1), (3, .int x3), (4, .int x4)] 6 [] := by
  intro n
  induction n with
  | zero =>
    intro _ _ hf
    cases hf
  | succ n hrec =>
    intro c_t_near x3 hf
    rw [Cl_A_fill_rr72_6] at hf
    refine v_iload_n 2 C dJ7_fill_d0a16_6 rfl rfl ?_
    refine v_iload 3 C dJ7_fill_d0a16_7 rfl ?_
    refine v_icmp_ge 22 C dJ7_fill_d0a16_9 (by decide) hf (fun c hf => ?_) (fun c hf => ?_)
    · refine v_lv [] [] rfl ?_
      cases hf
      exact hk
    · refine v_aload_n 0 C dJ7_fill_d0a16_12 rfl rfl ?_
      refine v_iload_n 2 C dJ7_fill_d0a16_13 rfl rfl ?_
      refine v_lload_n 1 C dJ7_fill_d0a16_14 rfl rfl ?_
      refine Crs_72 hj0 C dJ7_fill_d0a16_15 hf (fun t_near_15 hf => ?_)
      refine v_iinc (fun x3_16 => [(0, .ref (a (72 + x0.toNatClampNeg))), (1, .long x1), (3, .int x3_16), (4, .int x4)]) [1, 2, 0, 3] C dJ7_fill_d0a16_16 (j := 2) rfl (dv := 1) (by decide) (by decide) (fun _ => rfl) hf (fun x3_16 hf => ?_)
      refine v_goto 6 C dJ7_fill_d0a16_19 (by decide) ?_
      exact hrec _ _ hf
def Cf_A_fill_rr72 (c_t_near : Nat → Nat → Int64) (x0 : Int32) (x1 : Int64) : Option (Nat → Nat → Int64) :=
  bd (Cl_A_fill_rr72_6 x0 x1 (201 : Int32) FUEL c_t_near (0 : Int32)) fun o_t_near_6 =>
  some o_t_near_6
set_option maxRecDepth 100000 in
set_option maxHeartbeats 4000000 in
theorem Cb_A_fill_rr72 (C : Cx X (SFG E) T cJ7_fill_d0a16 RJ7 none 5 0 0) {x0 : Int32} {x1 : Int64} (hj0 : inb x0 9) {o_t_near : Nat → Nat → Int64} (hret : RetOK X 0 0 none (wL E a T c_waveIsFresh c_peelingIsFresh c_n_count c_n_front c_n_least c_n_window c_n_pulses c_n_lengths c_n_fractions c_n_pulseTimes c_n_pulseEnergies c_n_sound c_n_seen c_hcount c_hp c_h0_count c_h0_front c_h0_least c_h0_window c_h0_pulses c_h0_lengths c_h0_fractions c_h0_pulseTimes c_h0_pulseEnergies c_h0_sound c_h0_seen c_h1_count c_h1_front c_h1_least c_h1_window c_h1_pulses c_h1_lengths c_h1_fractions c_h1_pulseTimes c_h1_pulseEnergies c_h1_sound c_h1_seen c_h2_count c_h2_front c_h2_least c_h2_window c_h2_pulses c_h2_lengths c_h2_fractions c_h2_pulseTimes c_h2_pulseEnergies c_h2_sound c_h2_seen c_s_length c_s_command c_s_position c_s_fault c_s_bytes c_s_numbers c_w_near c_w_far c_w_echoes c_w_totals c_p_result c_p_endTime c_q_count c_q_front c_q_least c_q_window c_q_pulses c_q_lengths c_q_fractions c_q_pulseTimes c_q_pulseEnergies o_t_near c_t_far c_t_echoes c_t_totals)) (hf : Cf_A_fill_rr72 c_t_near x0 x1 = some o_t_near) : V X 0 0 (wL E a T c_waveIsFresh c_peelingIsFresh c_n_count c_n_front c_n_least c_n_window c_n_pulses c_n_lengths c_n_fractions c_n_pulseTimes c_n_pulseEnergies c_n_sound c_n_seen c_hcount c_hp c_h0_count c_h0_front c_h0_least c_h0_window c_h0_pulses c_h0_lengths c_h0_fractions c_h0_pulseTimes c_h0_pulseEnergies c_h0_sound c_h0_seen c_h1_count c_h1_front c_h1_least c_h1_window c_h1_pulses c_h1_lengths c_h1_fractions c_h1_pulseTimes c_h1_pulseEnergies c_h1_sound c_h1_seen c_h2_count c_h2_front c_h2_least c_h2_window c_h2_pulses c_h2_lengths c_h2_fractions c_h2_pulseTimes c_h2_pulseEnergies c_h2_sound c_h2_seen c_s_length c_s_command c_s_position c_s_fault c_s_bytes c_s_numbers c_w_near c_w_far c_w_echoes c_w_totals c_p_result c_p_endTime c_q_count c_q_front c_q_least c_q_window c_q_pulses c_q_lengths c_q_fractions c_q_pulseTimes c_q_pulseEnergies c_t_near c_t_far c_t_echoes c_t_totals) [(0, .ref (a (72 + x0.toNatClampNeg))), (1, .long x1)] 0 [] := by
  unfold Cf_A_fill_rr72 at hf
  refine v_iconst (v := 0) C dJ7_fill_d0a16_0 (by decide) ?_
  refine v_istore_n [(0, .ref (a (72 + x0.toNatClampNeg))), (1, .long x1), (3, .int (0 : Int32))] [1, 2, 0] C dJ7_fill_d0a16_1 rfl (by decide) rfl ?_
  refine v_aload_n 0 C dJ7_fill_d0a16_2 rfl rfl ?_
  refine Crn_72 hj0 C dJ7_fill_d0a16_3 ?_
  refine v_istore [(0, .ref (a (72 + x0.toNatClampNeg))), (1, .long x1), (3, .int (0 : Int32)), (4, .int (201 : Int32))] [1, 2, 3, 0] C dJ7_fill_d0a16_4 (by decide) rfl ?_
  obtain ⟨o_t_near_6, hc, hf⟩ := bd_some hf
  refine Ck_A_fill_rr72_6 C hj0 ?_ _ _ _ hc
  cases hf
  exact v_vret C hret dJ7_fill_d0a16_22
set_option maxRecDepth 100000 in
set_option maxHeartbeats 4000000 in
theorem Cm_A_fill_rr72 {D : va_G} {x0 : Int32} {x1 : Int64} (hj0 : inb x0 9) {o_t_near : Nat → Nat → Int64} (hf : Cf_A_fill_rr72 c_t_near x0 x1 = some o_t_near) : MetM (SFG E) yJ7_fill_d0a16 cJ7_fill_d0a16 5 none { frames := 0, cells := 0, slots := 0, locals := 0 } D T [.ref (a (72 + x0.toNatClampNeg)), .long x1] (wL E a T c_waveIsFresh c_peelingIsFresh c_n_count c_n_front c_n_least c_n_window c_n_pulses c_n_lengths c_n_fractions c_n_pulseTimes c_n_pulseEnergies c_n_sound c_n_seen c_hcount c_hp c_h0_count c_h0_front c_h0_least c_h0_window c_h0_pulses c_h0_lengths c_h0_fractions c_h0_pulseTimes c_h0_pulseEnergies c_h0_sound c_h0_seen c_h1_count c_h1_front c_h1_least c_h1_window c_h1_pulses c_h1_lengths c_h1_fractions c_h1_pulseTimes c_h1_pulseEnergies c_h1_sound c_h1_seen c_h2_count c_h2_front c_h2_least c_h2_window c_h2_pulses c_h2_lengths c_h2_fractions c_h2_pulseTimes c_h2_pulseEnergies c_h2_sound c_h2_seen c_s_length c_s_command c_s_position c_s_fault c_s_bytes c_s_numbers c_w_near c_w_far c_w_echoes c_w_totals c_p_result c_p_endTime c_q_count c_q_front c_q_least c_q_window c_q_pulses c_q_lengths c_q_fractions c_q_pulseTimes c_q_pulseEnergies c_t_near c_t_far c_t_echoes c_t_totals) none (wL E a T c_waveIsFresh c_peelingIsFresh c_n_count c_n_front c_n_least c_n_window c_n_pulses c_n_lengths c_n_fractions c_n_pulseTimes c_n_pulseEnergies c_n_sound c_n_seen c_hcount c_hp c_h0_count c_h0_front c_h0_least c_h0_window c_h0_pulses c_h0_lengths c_h0_fractions c_h0_pulseTimes c_h0_pulseEnergies c_h0_sound c_h0_seen c_h1_count c_h1_front c_h1_least c_h1_window c_h1_pulses c_h1_lengths c_h1_fractions c_h1_pulseTimes c_h1_pulseEnergies c_h1_sound c_h1_seen c_h2_count c_h2_front c_h2_least c_h2_window c_h2_pulses c_h2_lengths c_h2_fractions c_h2_pulseTimes c_h2_pulseEnergies c_h2_sound c_h2_seen c_s_length c_s_command c_s_position c_s_fault c_s_bytes c_s_numbers c_w_near c_w_far c_w_echoes c_w_totals c_p_result c_p_endTime c_q_count c_q_front c_q_least c_q_window c_q_pulses c_q_lengths c_q_fractions c_q_pulseTimes c_q_pulseEnergies o_t_near c_t_far c_t_echoes c_t_totals) :=
  MetM.of [(0, .ref (a (72 + x0.toNatClampNeg))), (1, .long x1)] (by decide) (Nat.le_of_ble_eq_true rfl) rfl (fun X C hret => Cb_A_fill_rr72 C hj0 hret hf)
def Cl_A_fill_rr81_6 (x0 : Int32) (x1 : Int64) (x4 : Int32) : Nat → (Nat → Nat → Int64) → Int32 → Option (Nat → Nat → Int64)
  | 0, _, _ => none
  | n + 1, c_t_far, x3 =>
    if x4 ≤ x3 then
      some c_t_far
    else
      chk (inb x3 201) <| nm (va_up c_t_far x0.toNatClampNeg (vp_updL (c_t_far x0.toNatClampNeg) x3.toNatClampNeg x1)) fun t_far_15 =>
      nm (x3 + (1 : Int32)) fun x3_16 =>
      Cl_A_fill_rr81_6 x0 x1 x4 n t_far_15 x3_16
set_option maxRecDepth 100000 in
set_option maxHeartbeats 4000000 in
theorem Ck_A_fill_rr81_6 (C : Cx X (SFG E) T cJ7_fill_d0a16 RJ7 none 5 0 0) {x0 : Int32} {x1 : Int64} {x4 : Int32} (hj0 : inb x0 9) {o_t_far : Nat → Nat → Int64} (hk : V X 0 0 (wL E a T c_waveIsFresh c_peelingIsFresh c_n_count c_n_front c_n_least c_n_window c_n_pulses c_n_lengths c_n_fractions c_n_pulseTimes c_n_pulseEnergies c_n_sound c_n_seen c_hcount c_hp c_h0_count c_h0_front c_h0_least c_h0_window c_h0_pulses c_h0_lengths c_h0_fractions c_h0_pulseTimes c_h0_pulseEnergies c_h0_sound c_h0_seen c_h1_count c_h1_front c_h1_least c_h1_window c_h1_pulses c_h1_lengths c_h1_fractions c_h1_pulseTimes c_h1_pulseEnergies c_h1_sound c_h1_seen c_h2_count c_h2_front c_h2_least c_h2_window c_h2_pulses c_h2_lengths c_h2_fractions c_h2_pulseTimes c_h2_pulseEnergies c_h2_sound c_h2_seen c_s_length c_s_command c_s_position c_s_fault c_s_bytes c_s_numbers c_w_near c_w_far c_w_echoes c_w_totals c_p_result c_p_endTime c_q_count c_q_front c_q_least c_q_window c_q_pulses c_q_lengths c_q_fractions c_q_pulseTimes c_q_pulseEnergies c_t_near o_t_far c_t_echoes c_t_totals) [] 22 []) : ∀ (n : Nat) (c_t_far : Nat → Nat → Int64) (x3 : Int32), Cl_A_fill_rr81_6 x0 x1 x4 n c_t_far x3 = some o_t_far → V X 0 0 (wL E a T c_waveIsFresh c_peelingIsFresh c_n_count c_n_front c_n_least c_n_window c_n_pulses c_n_lengths c_n_fractions c_n_pulseTimes c_n_pulseEnergies c_n_sound c_n_seen c_hcount c_hp c_h0_count c_h0_front c_h0_least c_h0_window c_h0_pulses c_h0_lengths c_h0_fractions c_h0_pulseTimes c_h0_pulseEnergies c_h0_sound c_h0_seen c_h1_count c_h1_front c_h1_least c_h1_window c_h1_pulses c_h1_lengths c_h1_fractions c_h1_pulseTimes c_h1_pulseEnergies c_h1_sound c_h1_seen c_h2_count c_h2_front c_h2_least c_h2_window c_h2_pulses c_h2_lengths c_h2_fractions c_h2_pulseTimes c_h2_pulseEnergies c_h2_sound c_h2_seen c_s_length c_s_command c_s_position c_s_fault c_s_bytes c_s_numbers c_w_near c_w_far c_w_echoes c_w_totals c_p_result c_p_endTime c_q_count c_q_front c_q_least c_q_window c_q_pulses c_q_lengths c_q_fractions c_q_pulseTimes c_q_pulseEnergies c_t_near c_t_far c_t_echoes c_t_totals) [(0, .ref (a (81 + x0.toNatClampNeg))), (1, .long x1), (3, .int x3), (4, .int x4)] 6 [] := by
  intro n
  induction n with
  | zero =>
    intro _ _ hf
    cases hf
  | succ n hrec =>
    intro c_t_far x3 hf
    rw [Cl_A_fill_rr81_6] at hf
    refine v_iload_n 2 C dJ7_fill_d0a16_6 rfl rfl ?_
    refine v_iload 3 C dJ7_fill_d0a16_7 rfl ?_
    refine v_icmp_ge 22 C dJ7_fill_d0a16_9 (by decide) hf (fun c hf => ?_) (fun c hf => ?_)
    · refine v_lv [] [] rfl ?_
      cases hf
      exact hk
    · refine v_aload_n 0 C dJ7_fill_d0a16_12 rfl rfl ?_
      refine v_iload_n 2 C dJ7_fill_d0a16_13 rfl rfl ?_
      refine v_lload_n 1 C dJ7_fill_d0a16_14 rfl rfl ?_
      refine Crs_81 hj0 C dJ7_fill_d0a16_15 hf (fun t_far_15 hf => ?_)
      refine v_iinc (fun x3_16 => [(0, .ref (a (81 + x0.toNatClampNeg))), (1, .long x1), (3, .int x3_16), (4, .int x4)]) [1, 2, 0, 3] C dJ7_fill_d0a16_16 (j := 2) rfl (dv := 1) (by decide) (by decide) (fun _ => rfl) hf (fun x3_16 hf => ?_)
      refine v_goto 6 C dJ7_fill_d0a16_19 (by decide) ?_
      exact hrec _ _ hf
def Cf_A_fill_rr81 (c_t_far : Nat → Nat → Int64) (x0 : Int32) (x1 : Int64) : Option (Nat → Nat → Int64) :=
  bd (Cl_A_fill_rr81_6 x0 x1 (201 : Int32) FUEL c_t_far (0 : Int32)) fun o_t_far_6 =>
  some o_t_far_6
set_option maxRecDepth 100000 in
set_option maxHeartbeats 4000000 in
theorem Cb_A_fill_rr81 (C : Cx X (SFG E) T cJ7_fill_d0a16 RJ7 none 5 0 0) {x0 : Int32} {x1 : Int64} (hj0 : inb x0 9) {o_t_far : Nat → Nat → Int64} (hret : RetOK X 0 0 none (wL E a T c_waveIsFresh c_peelingIsFresh c_n_count c_n_front c_n_least c_n_window c_n_pulses c_n_lengths c_n_fractions c_n_pulseTimes c_n_pulseEnergies c_n_sound c_n_seen c_hcount c_hp c_h0_count c_h0_front c_h0_least c_h0_window c_h0_pulses c_h0_lengths c_h0_fractions c_h0_pulseTimes c_h0_pulseEnergies c_h0_sound c_h0_seen c_h1_count c_h1_front c_h1_least c_h1_window c_h1_pulses c_h1_lengths c_h1_fractions c_h1_pulseTimes c_h1_pulseEnergies c_h1_sound c_h1_seen c_h2_count c_h2_front c_h2_least c_h2_window c_h2_pulses c_h2_lengths c_h2_fractions c_h2_pulseTimes c_h2_pulseEnergies c_h2_sound c_h2_seen c_s_length c_s_command c_s_position c_s_fault c_s_bytes c_s_numbers c_w_near c_w_far c_w_echoes c_w_totals c_p_result c_p_endTime c_q_count c_q_front c_q_least c_q_window c_q_pulses c_q_lengths c_q_fractions c_q_pulseTimes c_q_pulseEnergies c_t_near o_t_far c_t_echoes c_t_totals)) (hf : Cf_A_fill_rr81 c_t_far x0 x1 = some o_t_far) : V X 0 0 (wL E a T c_waveIsFresh c_peelingIsFresh c_n_count c_n_front c_n_least c_n_window c_n_pulses c_n_lengths c_n_fractions c_n_pulseTimes c_n_pulseEnergies c_n_sound c_n_seen c_hcount c_hp c_h0_count c_h0_front c_h0_least c_h0_window c_h0_pulses c_h0_lengths c_h0_fractions c_h0_pulseTimes c_h0_pulseEnergies c_h0_sound c_h0_seen c_h1_count c_h1_front c_h1_least c_h1_window c_h1_pulses c_h1_lengths c_h1_fractions c_h1_pulseTimes c_h1_pulseEnergies c_h1_sound c_h1_seen c_h2_count c_h2_front c_h2_least c_h2_window c_h2_pulses c_h2_lengths c_h2_fractions c_h2_pulseTimes c_h2_pulseEnergies c_h2_sound c_h2_seen c_s_length c_s_command c_s_position c_s_fault c_s_bytes c_s_numbers c_w_near c_w_far c_w_echoes c_w_totals c_p_result c_p_endTime c_q_count c_q_front c_q_least c_q_window c_q_pulses c_q_lengths c_q_fractions c_q_pulseTimes c_q_pulseEnergies c_t_near c_t_far c_t_echoes c_t_totals) [(0, .ref (a (81 + x0.toNatClampNeg))), (1, .long x1)] 0 [] := by
  unfold Cf_A_fill_rr81 at hf
  refine v_iconst (v := 0) C dJ7_fill_d0a16_0 (by decide) ?_
  refine v_istore_n [(0, .ref (a (81 + x0.toNatClampNeg))), (1, .long x1), (3, .int (0 : Int32))] [1, 2, 0] C dJ7_fill_d0a16_1 rfl (by decide) rfl ?_
  refine v_aload_n 0 C dJ7_fill_d0a16_2 rfl rfl ?_
  refine Crn_81 hj0 C dJ7_fill_d0a16_3 ?_
  refine v_istore [(0, .ref (a (81 + x0.toNatClampNeg))), (1, .long x1), (3, .int (0 : Int32)), (4, .int (201 : Int32))] [1, 2, 3, 0] C dJ7_fill_d0a16_4 (by decide) rfl ?_
  obtain ⟨o_t_far_6, hc, hf⟩ := bd_some hf
  refine Ck_A_fill_rr81_6 C hj0 ?_ _ _ _ hc
  cases hf
  exact v_vret C hret dJ7_fill_d0a16_22
set_option maxRecDepth 100000 in
set_option maxHeartbeats 4000000 in
theorem Cm_A_fill_rr81 {D : va_G} {x0 : Int32} {x1 : Int64} (hj0 : inb x0 9) {o_t_far : Nat → Nat → Int64} (hf : Cf_A_fill_rr81 c_t_far x0 x1 = some o_t_far) : MetM (SFG E) yJ7_fill_d0a16 cJ7_fill_d0a16 5 none { frames := 0, cells := 0, slots := 0, locals := 0 } D T [.ref (a (81 + x0.toNatClampNeg)), .long x1] (wL E a T c_waveIsFresh c_peelingIsFresh c_n_count c_n_front c_n_least c_n_window c_n_pulses c_n_lengths c_n_fractions c_n_pulseTimes c_n_pulseEnergies c_n_sound c_n_seen c_hcount c_hp c_h0_count c_h0_front c_h0_least c_h0_window c_h0_pulses c_h0_lengths c_h0_fractions c_h0_pulseTimes c_h0_pulseEnergies c_h0_sound c_h0_seen c_h1_count c_h1_front c_h1_least c_h1_window c_h1_pulses c_h1_lengths c_h1_fractions c_h1_pulseTimes c_h1_pulseEnergies c_h1_sound c_h1_seen c_h2_count c_h2_front c_h2_least c_h2_window c_h2_pulses c_h2_lengths c_h2_fractions c_h2_pulseTimes c_h2_pulseEnergies c_h2_sound c_h2_seen c_s_length c_s_command c_s_position c_s_fault c_s_bytes c_s_numbers c_w_near c_w_far c_w_echoes c_w_totals c_p_result c_p_endTime c_q_count c_q_front c_q_least c_q_window c_q_pulses c_q_lengths c_q_fractions c_q_pulseTimes c_q_pulseEnergies c_t_near c_t_far c_t_echoes c_t_totals) none (wL E a T c_waveIsFresh c_peelingIsFresh c_n_count c_n_front c_n_least c_n_window c_n_pulses c_n_lengths c_n_fractions c_n_pulseTimes c_n_pulseEnergies c_n_sound c_n_seen c_hcount c_hp c_h0_count c_h0_front c_h0_least c_h0_window c_h0_pulses c_h0_lengths c_h0_fractions c_h0_pulseTimes c_h0_pulseEnergies c_h0_sound c_h0_seen c_h1_count c_h1_front c_h1_least c_h1_window c_h1_pulses c_h1_lengths c_h1_fractions c_h1_pulseTimes c_h1_pulseEnergies c_h1_sound c_h1_seen c_h2_count c_h2_front c_h2_least c_h2_window c_h2_pulses c_h2_lengths c_h2_fractions c_h2_pulseTimes c_h2_pulseEnergies c_h2_sound c_h2_seen c_s_length c_s_command c_s_position c_s_fault c_s_bytes c_s_numbers c_w_near c_w_far c_w_echoes c_w_totals c_p_result c_p_endTime c_q_count c_q_front c_q_least c_q_window c_q_pulses c_q_lengths c_q_fractions c_q_pulseTimes c_q_pulseEnergies c_t_near o_t_far c_t_echoes c_t_totals) :=
  MetM.of [(0, .ref (a (81 + x0.toNatClampNeg))), (1, .long x1)] (by decide) (Nat.le_of_ble_eq_true rfl) rfl (fun X C hret => Cb_A_fill_rr81 C hj0 hret hf)
def Cl_A_fill_t_echoes_6 (x1 : Int64) (x4 : Int32) : Nat → (Nat → Int64) → Int32 → Option (Nat → Int64)
  | 0, _, _ => none
  | n + 1, c_t_echoes, x3 =>
    if x4 ≤ x3 then
      some c_t_echoes
    else
      chk (inb x3 201) <| nm (vp_updL c_t_echoes x3.toNatClampNeg x1) fun t_echoes_15 =>
      nm (x3 + (1 : Int32)) fun x3_16 =>
      Cl_A_fill_t_echoes_6 x1 x4 n t_echoes_15 x3_16
set_option maxRecDepth 100000 in
set_option maxHeartbeats 4000000 in
theorem Ck_A_fill_t_echoes_6 (C : Cx X (SFG E) T cJ7_fill_d0a16 RJ7 none 5 0 0) {x1 : Int64} {x4 : Int32} {o_t_echoes : Nat → Int64} (hk : V X 0 0 (wL E a T c_waveIsFresh c_peelingIsFresh c_n_count c_n_front c_n_least c_n_window c_n_pulses c_n_lengths c_n_fractions c_n_pulseTimes c_n_pulseEnergies c_n_sound c_n_seen c_hcount c_hp c_h0_count c_h0_front c_h0_least c_h0_window c_h0_pulses c_h0_lengths c_h0_fractions c_h0_pulseTimes c_h0_pulseEnergies c_h0_sound c_h0_seen c_h1_count c_h1_front c_h1_least c_h1_window c_h1_pulses c_h1_lengths c_h1_fractions c_h1_pulseTimes c_h1_pulseEnergies c_h1_sound c_h1_seen c_h2_count c_h2_front c_h2_least c_h2_window c_h2_pulses c_h2_lengths c_h2_fractions c_h2_pulseTimes c_h2_pulseEnergies c_h2_sound c_h2_seen c_s_length c_s_command c_s_position c_s_fault c_s_bytes c_s_numbers c_w_near c_w_far c_w_echoes c_w_totals c_p_result c_p_endTime c_q_count c_q_front c_q_least c_q_window c_q_pulses c_q_lengths c_q_fractions c_q_pulseTimes c_q_pulseEnergies c_t_near c_t_far o_t_echoes c_t_totals) [] 22 []) : ∀ (n : Nat) (c_t_echoes : Nat → Int64) (x3 : Int32), Cl_A_fill_t_echoes_6 x1 x4 n c_t_echoes x3 = some o_t_echoes → V X 0 0 (wL E a T c_waveIsFresh c_peelingIsFresh c_n_count c_n_front c_n_least c_n_window c_n_pulses c_n_lengths c_n_fractions c_n_pulseTimes c_n_pulseEnergies c_n_sound c_n_seen c_hcount c_hp c_h0_count c_h0_front c_h0_least c_h0_window c_h0_pulses c_h0_lengths c_h0_fractions c_h0_pulseTimes c_h0_pulseEnergies c_h0_sound c_h0_seen c_h1_count c_h1_front c_h1_least c_h1_window c_h1_pulses c_h1_lengths c_h1_fractions c_h1_pulseTimes c_h1_pulseEnergies c_h1_sound c_h1_seen c_h2_count c_h2_front c_h2_least c_h2_window c_h2_pulses c_h2_lengths c_h2_fractions c_h2_pulseTimes c_h2_pulseEnergies c_h2_sound c_h2_seen c_s_length c_s_command c_s_position c_s_fault c_s_bytes c_s_numbers c_w_near c_w_far c_w_echoes c_w_totals c_p_result c_p_endTime c_q_count c_q_front c_q_least c_q_window c_q_pulses c_q_lengths c_q_fractions c_q_pulseTimes c_q_pulseEnergies c_t_near c_t_far c_t_echoes c_t_totals) [(0, .ref (a 70)), (1, .long x1), (3, .int x3), (4, .int x4)] 6 [] := by
  intro n
  induction n with
  | zero =>
    intro _ _ hf
    cases hf
  | succ n hrec =>
    intro c_t_echoes x3 hf
    rw [Cl_A_fill_t_echoes_6] at hf
    refine v_iload_n 2 C dJ7_fill_d0a16_6 rfl rfl ?_
    refine v_iload 3 C dJ7_fill_d0a16_7 rfl ?_
    refine v_icmp_ge 22 C dJ7_fill_d0a16_9 (by decide) hf (fun c hf => ?_) (fun c hf => ?_)
    · refine v_lv [] [] rfl ?_
      cases hf
      exact hk
    · refine v_aload_n 0 C dJ7_fill_d0a16_12 rfl rfl ?_
      refine v_iload_n 2 C dJ7_fill_d0a16_13 rfl rfl ?_
      refine v_lload_n 1 C dJ7_fill_d0a16_14 rfl rfl ?_
      refine Cas_70 C dJ7_fill_d0a16_15 hf (fun t_echoes_15 hf => ?_)
      refine v_iinc (fun x3_16 => [(0, .ref (a 70)), (1, .long x1), (3, .int x3_16), (4, .int x4)]) [1, 2, 0, 3] C dJ7_fill_d0a16_16 (j := 2) rfl (dv := 1) (by decide) (by decide) (fun _ => rfl) hf (fun x3_16 hf => ?_)
      refine v_goto 6 C dJ7_fill_d0a16_19 (by decide) ?_
      exact hrec _ _ hf
def Cf_A_fill_t_echoes (c_t_echoes : Nat → Int64) (x1 : Int64) : Option (Nat → Int64) :=
  bd (Cl_A_fill_t_echoes_6 x1 (201 : Int32) FUEL c_t_echoes (0 : Int32)) fun o_t_echoes_6 =>
  some o_t_echoes_6
set_option maxRecDepth 100000 in
set_option maxHeartbeats 4000000 in
theorem Cb_A_fill_t_echoes (C : Cx X (SFG E) T cJ7_fill_d0a16 RJ7 none 5 0 0) {x1 : Int64} {o_t_echoes : Nat → Int64} (hret : RetOK X 0 0 none (wL E a T c_waveIsFresh c_peelingIsFresh c_n_count c_n_front c_n_least c_n_window c_n_pulses c_n_lengths c_n_fractions c_n_pulseTimes c_n_pulseEnergies c_n_sound c_n_seen c_hcount c_hp c_h0_count c_h0_front c_h0_least c_h0_window c_h0_pulses c_h0_lengths c_h0_fractions c_h0_pulseTimes c_h0_pulseEnergies c_h0_sound c_h0_seen c_h1_count c_h1_front c_h1_least c_h1_window c_h1_pulses c_h1_lengths c_h1_fractions c_h1_pulseTimes c_h1_pulseEnergies c_h1_sound c_h1_seen c_h2_count c_h2_front c_h2_least c_h2_window c_h2_pulses c_h2_lengths c_h2_fractions c_h2_pulseTimes c_h2_pulseEnergies c_h2_sound c_h2_seen c_s_length c_s_command c_s_position c_s_fault c_s_bytes c_s_numbers c_w_near c_w_far c_w_echoes c_w_totals c_p_result c_p_endTime c_q_count c_q_front c_q_least c_q_window c_q_pulses c_q_lengths c_q_fractions c_q_pulseTimes c_q_pulseEnergies c_t_near c_t_far o_t_echoes c_t_totals)) (hf : Cf_A_fill_t_echoes c_t_echoes x1 = some o_t_echoes) : V X 0 0 (wL E a T c_waveIsFresh c_peelingIsFresh c_n_count c_n_front c_n_least c_n_window c_n_pulses c_n_lengths c_n_fractions c_n_pulseTimes c_n_pulseEnergies c_n_sound c_n_seen c_hcount c_hp c_h0_count c_h0_front c_h0_least c_h0_window c_h0_pulses c_h0_lengths c_h0_fractions c_h0_pulseTimes c_h0_pulseEnergies c_h0_sound c_h0_seen c_h1_count c_h1_front c_h1_least c_h1_window c_h1_pulses c_h1_lengths c_h1_fractions c_h1_pulseTimes c_h1_pulseEnergies c_h1_sound c_h1_seen c_h2_count c_h2_front c_h2_least c_h2_window c_h2_pulses c_h2_lengths c_h2_fractions c_h2_pulseTimes c_h2_pulseEnergies c_h2_sound c_h2_seen c_s_length c_s_command c_s_position c_s_fault c_s_bytes c_s_numbers c_w_near c_w_far c_w_echoes c_w_totals c_p_result c_p_endTime c_q_count c_q_front c_q_least c_q_window c_q_pulses c_q_lengths c_q_fractions c_q_pulseTimes c_q_pulseEnergies c_t_near c_t_far c_t_echoes c_t_totals) [(0, .ref (a 70)), (1, .long x1)] 0 [] := by
  unfold Cf_A_fill_t_echoes at hf
  refine v_iconst (v := 0) C dJ7_fill_d0a16_0 (by decide) ?_
  refine v_istore_n [(0, .ref (a 70)), (1, .long x1), (3, .int (0 : Int32))] [1, 2, 0] C dJ7_fill_d0a16_1 rfl (by decide) rfl ?_
  refine v_aload_n 0 C dJ7_fill_d0a16_2 rfl rfl ?_
  refine Cln_70 C dJ7_fill_d0a16_3 ?_
  refine v_istore [(0, .ref (a 70)), (1, .long x1), (3, .int (0 : Int32)), (4, .int (201 : Int32))] [1, 2, 3, 0] C dJ7_fill_d0a16_4 (by decide) rfl ?_
  obtain ⟨o_t_echoes_6, hc, hf⟩ := bd_some hf
  refine Ck_A_fill_t_echoes_6 C ?_ _ _ _ hc
  cases hf
  exact v_vret C hret dJ7_fill_d0a16_22
set_option maxRecDepth 100000 in
set_option maxHeartbeats 4000000 in
theorem Cm_A_fill_t_echoes {D : va_G} {x1 : Int64} {o_t_echoes : Nat → Int64} (hf : Cf_A_fill_t_echoes c_t_echoes x1 = some o_t_echoes) : MetM (SFG E) yJ7_fill_d0a16 cJ7_fill_d0a16 5 none { frames := 0, cells := 0, slots := 0, locals := 0 } D T [.ref (a 70), .long x1] (wL E a T c_waveIsFresh c_peelingIsFresh c_n_count c_n_front c_n_least c_n_window c_n_pulses c_n_lengths c_n_fractions c_n_pulseTimes c_n_pulseEnergies c_n_sound c_n_seen c_hcount c_hp c_h0_count c_h0_front c_h0_least c_h0_window c_h0_pulses c_h0_lengths c_h0_fractions c_h0_pulseTimes c_h0_pulseEnergies c_h0_sound c_h0_seen c_h1_count c_h1_front c_h1_least c_h1_window c_h1_pulses c_h1_lengths c_h1_fractions c_h1_pulseTimes c_h1_pulseEnergies c_h1_sound c_h1_seen c_h2_count c_h2_front c_h2_least c_h2_window c_h2_pulses c_h2_lengths c_h2_fractions c_h2_pulseTimes c_h2_pulseEnergies c_h2_sound c_h2_seen c_s_length c_s_command c_s_position c_s_fault c_s_bytes c_s_numbers c_w_near c_w_far c_w_echoes c_w_totals c_p_result c_p_endTime c_q_count c_q_front c_q_least c_q_window c_q_pulses c_q_lengths c_q_fractions c_q_pulseTimes c_q_pulseEnergies c_t_near c_t_far c_t_echoes c_t_totals) none (wL E a T c_waveIsFresh c_peelingIsFresh c_n_count c_n_front c_n_least c_n_window c_n_pulses c_n_lengths c_n_fractions c_n_pulseTimes c_n_pulseEnergies c_n_sound c_n_seen c_hcount c_hp c_h0_count c_h0_front c_h0_least c_h0_window c_h0_pulses c_h0_lengths c_h0_fractions c_h0_pulseTimes c_h0_pulseEnergies c_h0_sound c_h0_seen c_h1_count c_h1_front c_h1_least c_h1_window c_h1_pulses c_h1_lengths c_h1_fractions c_h1_pulseTimes c_h1_pulseEnergies c_h1_sound c_h1_seen c_h2_count c_h2_front c_h2_least c_h2_window c_h2_pulses c_h2_lengths c_h2_fractions c_h2_pulseTimes c_h2_pulseEnergies c_h2_sound c_h2_seen c_s_length c_s_command c_s_position c_s_fault c_s_bytes c_s_numbers c_w_near c_w_far c_w_echoes c_w_totals c_p_result c_p_endTime c_q_count c_q_front c_q_least c_q_window c_q_pulses c_q_lengths c_q_fractions c_q_pulseTimes c_q_pulseEnergies c_t_near c_t_far o_t_echoes c_t_totals) :=
  MetM.of [(0, .ref (a 70)), (1, .long x1)] (by decide) (Nat.le_of_ble_eq_true rfl) rfl (fun X C hret => Cb_A_fill_t_echoes C hret hf)
def Cl_A_fill_t_totals_6 (x1 : Int64) (x4 : Int32) : Nat → (Nat → Int64) → Int32 → Option (Nat → Int64)
  | 0, _, _ => none
  | n + 1, c_t_totals, x3 =>
    if x4 ≤ x3 then
      some c_t_totals
    else
      chk (inb x3 9) <| nm (vp_updL c_t_totals x3.toNatClampNeg x1) fun t_totals_15 =>
      nm (x3 + (1 : Int32)) fun x3_16 =>
      Cl_A_fill_t_totals_6 x1 x4 n t_totals_15 x3_16
set_option maxRecDepth 100000 in
set_option maxHeartbeats 4000000 in
theorem Ck_A_fill_t_totals_6 (C : Cx X (SFG E) T cJ7_fill_d0a16 RJ7 none 5 0 0) {x1 : Int64} {x4 : Int32} {o_t_totals : Nat → Int64} (hk : V X 0 0 (wL E a T c_waveIsFresh c_peelingIsFresh c_n_count c_n_front c_n_least c_n_window c_n_pulses c_n_lengths c_n_fractions c_n_pulseTimes c_n_pulseEnergies c_n_sound c_n_seen c_hcount c_hp c_h0_count c_h0_front c_h0_least c_h0_window c_h0_pulses c_h0_lengths c_h0_fractions c_h0_pulseTimes c_h0_pulseEnergies c_h0_sound c_h0_seen c_h1_count c_h1_front c_h1_least c_h1_window c_h1_pulses c_h1_lengths c_h1_fractions c_h1_pulseTimes c_h1_pulseEnergies c_h1_sound c_h1_seen c_h2_count c_h2_front c_h2_least c_h2_window c_h2_pulses c_h2_lengths c_h2_fractions c_h2_pulseTimes c_h2_pulseEnergies c_h2_sound c_h2_seen c_s_length c_s_command c_s_position c_s_fault c_s_bytes c_s_numbers c_w_near c_w_far c_w_echoes c_w_totals c_p_result c_p_endTime c_q_count c_q_front c_q_least c_q_window c_q_pulses c_q_lengths c_q_fractions c_q_pulseTimes c_q_pulseEnergies c_t_near c_t_far c_t_echoes o_t_totals) [] 22 []) : ∀ (n : Nat) (c_t_totals : Nat → Int64) (x3 : Int32), Cl_A_fill_t_totals_6 x1 x4 n c_t_totals x3 = some o_t_totals → V X 0 0 (wL E a T c_waveIsFresh c_peelingIsFresh c_n_count c_n_front c_n_least c_n_window c_n_pulses c_n_lengths c_n_fractions c_n_pulseTimes c_n_pulseEnergies c_n_sound c_n_seen c_hcount c_hp c_h0_count c_h0_front c_h0_least c_h0_window c_h0_pulses c_h0_lengths c_h0_fractions c_h0_pulseTimes c_h0_pulseEnergies c_h0_sound c_h0_seen c_h1_count c_h1_front c_h1_least c_h1_window c_h1_pulses c_h1_lengths c_h1_fractions c_h1_pulseTimes c_h1_pulseEnergies c_h1_sound c_h1_seen c_h2_count c_h2_front c_h2_least c_h2_window c_h2_pulses c_h2_lengths c_h2_fractions c_h2_pulseTimes c_h2_pulseEnergies c_h2_sound c_h2_seen c_s_length c_s_command c_s_position c_s_fault c_s_bytes c_s_numbers c_w_near c_w_far c_w_echoes c_w_totals c_p_result c_p_endTime c_q_count c_q_front c_q_least c_q_window c_q_pulses c_q_lengths c_q_fractions c_q_pulseTimes c_q_pulseEnergies c_t_near c_t_far c_t_echoes c_t_totals) [(0, .ref (a 71)), (1, .long x1), (3, .int x3), (4, .int x4)] 6 [] := by
  intro n
  induction n with
  | zero =>
    intro _ _ hf
    cases hf
  | succ n hrec =>
    intro c_t_totals x3 hf
    rw [Cl_A_fill_t_totals_6] at hf
    refine v_iload_n 2 C dJ7_fill_d0a16_6 rfl rfl ?_
    refine v_iload 3 C dJ7_fill_d0a16_7 rfl ?_
    refine v_icmp_ge 22 C dJ7_fill_d0a16_9 (by decide) hf (fun c hf => ?_) (fun c hf => ?_)
    · refine v_lv [] [] rfl ?_
      cases hf
      exact hk
    · refine v_aload_n 0 C dJ7_fill_d0a16_12 rfl rfl ?_
      refine v_iload_n 2 C dJ7_fill_d0a16_13 rfl rfl ?_
      refine v_lload_n 1 C dJ7_fill_d0a16_14 rfl rfl ?_
      refine Cas_71 C dJ7_fill_d0a16_15 hf (fun t_totals_15 hf => ?_)
      refine v_iinc (fun x3_16 => [(0, .ref (a 71)), (1, .long x1), (3, .int x3_16), (4, .int x4)]) [1, 2, 0, 3] C dJ7_fill_d0a16_16 (j := 2) rfl (dv := 1) (by decide) (by decide) (fun _ => rfl) hf (fun x3_16 hf => ?_)
      refine v_goto 6 C dJ7_fill_d0a16_19 (by decide) ?_
      exact hrec _ _ hf
def Cf_A_fill_t_totals (c_t_totals : Nat → Int64) (x1 : Int64) : Option (Nat → Int64) :=
  bd (Cl_A_fill_t_totals_6 x1 (9 : Int32) FUEL c_t_totals (0 : Int32)) fun o_t_totals_6 =>
  some o_t_totals_6
set_option maxRecDepth 100000 in
set_option maxHeartbeats 4000000 in
theorem Cb_A_fill_t_totals (C : Cx X (SFG E) T cJ7_fill_d0a16 RJ7 none 5 0 0) {x1 : Int64} {o_t_totals : Nat → Int64} (hret : RetOK X 0 0 none (wL E a T c_waveIsFresh c_peelingIsFresh c_n_count c_n_front c_n_least c_n_window c_n_pulses c_n_lengths c_n_fractions c_n_pulseTimes c_n_pulseEnergies c_n_sound c_n_seen c_hcount c_hp c_h0_count c_h0_front c_h0_least c_h0_window c_h0_pulses c_h0_lengths c_h0_fractions c_h0_pulseTimes c_h0_pulseEnergies c_h0_sound c_h0_seen c_h1_count c_h1_front c_h1_least c_h1_window c_h1_pulses c_h1_lengths c_h1_fractions c_h1_pulseTimes c_h1_pulseEnergies c_h1_sound c_h1_seen c_h2_count c_h2_front c_h2_least c_h2_window c_h2_pulses c_h2_lengths c_h2_fractions c_h2_pulseTimes c_h2_pulseEnergies c_h2_sound c_h2_seen c_s_length c_s_command c_s_position c_s_fault c_s_bytes c_s_numbers c_w_near c_w_far c_w_echoes c_w_totals c_p_result c_p_endTime c_q_count c_q_front c_q_least c_q_window c_q_pulses c_q_lengths c_q_fractions c_q_pulseTimes c_q_pulseEnergies c_t_near c_t_far c_t_echoes o_t_totals)) (hf : Cf_A_fill_t_totals c_t_totals x1 = some o_t_totals) : V X 0 0 (wL E a T c_waveIsFresh c_peelingIsFresh c_n_count c_n_front c_n_least c_n_window c_n_pulses c_n_lengths c_n_fractions c_n_pulseTimes c_n_pulseEnergies c_n_sound c_n_seen c_hcount c_hp c_h0_count c_h0_front c_h0_least c_h0_window c_h0_pulses c_h0_lengths c_h0_fractions c_h0_pulseTimes c_h0_pulseEnergies c_h0_sound c_h0_seen c_h1_count c_h1_front c_h1_least c_h1_window c_h1_pulses c_h1_lengths c_h1_fractions c_h1_pulseTimes c_h1_pulseEnergies c_h1_sound c_h1_seen c_h2_count c_h2_front c_h2_least c_h2_window c_h2_pulses c_h2_lengths c_h2_fractions c_h2_pulseTimes c_h2_pulseEnergies c_h2_sound c_h2_seen c_s_length c_s_command c_s_position c_s_fault c_s_bytes c_s_numbers c_w_near c_w_far c_w_echoes c_w_totals c_p_result c_p_endTime c_q_count c_q_front c_q_least c_q_window c_q_pulses c_q_lengths c_q_fractions c_q_pulseTimes c_q_pulseEnergies c_t_near c_t_far c_t_echoes c_t_totals) [(0, .ref (a 71)), (1, .long x1)] 0 [] := by
  unfold Cf_A_fill_t_totals at hf
  refine v_iconst (v := 0) C dJ7_fill_d0a16_0 (by decide) ?_
  refine v_istore_n [(0, .ref (a 71)), (1, .long x1), (3, .int (0 : Int32))] [1, 2, 0] C dJ7_fill_d0a16_1 rfl (by decide) rfl ?_
  refine v_aload_n 0 C dJ7_fill_d0a16_2 rfl rfl ?_
  refine Cln_71 C dJ7_fill_d0a16_3 ?_
  refine v_istore [(0, .ref (a 71)), (1, .long x1), (3, .int (0 : Int32)), (4, .int (9 : Int32))] [1, 2, 3, 0] C dJ7_fill_d0a16_4 (by decide) rfl ?_
  obtain ⟨o_t_totals_6, hc, hf⟩ := bd_some hf
  refine Ck_A_fill_t_totals_6 C ?_ _ _ _ hc
  cases hf
  exact v_vret C hret dJ7_fill_d0a16_22
set_option maxRecDepth 100000 in
set_option maxHeartbeats 4000000 in
theorem Cm_A_fill_t_totals {D : va_G} {x1 : Int64} {o_t_totals : Nat → Int64} (hf : Cf_A_fill_t_totals c_t_totals x1 = some o_t_totals) : MetM (SFG E) yJ7_fill_d0a16 cJ7_fill_d0a16 5 none { frames := 0, cells := 0, slots := 0, locals := 0 } D T [.ref (a 71), .long x1] (wL E a T c_waveIsFresh c_peelingIsFresh c_n_count c_n_front c_n_least c_n_window c_n_pulses c_n_lengths c_n_fractions c_n_pulseTimes c_n_pulseEnergies c_n_sound c_n_seen c_hcount c_hp c_h0_count c_h0_front c_h0_least c_h0_window c_h0_pulses c_h0_lengths c_h0_fractions c_h0_pulseTimes c_h0_pulseEnergies c_h0_sound c_h0_seen c_h1_count c_h1_front c_h1_least c_h1_window c_h1_pulses c_h1_lengths c_h1_fractions c_h1_pulseTimes c_h1_pulseEnergies c_h1_sound c_h1_seen c_h2_count c_h2_front c_h2_least c_h2_window c_h2_pulses c_h2_lengths c_h2_fractions c_h2_pulseTimes c_h2_pulseEnergies c_h2_sound c_h2_seen c_s_length c_s_command c_s_position c_s_fault c_s_bytes c_s_numbers c_w_near c_w_far c_w_echoes c_w_totals c_p_result c_p_endTime c_q_count c_q_front c_q_least c_q_window c_q_pulses c_q_lengths c_q_fractions c_q_pulseTimes c_q_pulseEnergies c_t_near c_t_far c_t_echoes c_t_totals) none (wL E a T c_waveIsFresh c_peelingIsFresh c_n_count c_n_front c_n_least c_n_window c_n_pulses c_n_lengths c_n_fractions c_n_pulseTimes c_n_pulseEnergies c_n_sound c_n_seen c_hcount c_hp c_h0_count c_h0_front c_h0_least c_h0_window c_h0_pulses c_h0_lengths c_h0_fractions c_h0_pulseTimes c_h0_pulseEnergies c_h0_sound c_h0_seen c_h1_count c_h1_front c_h1_least c_h1_window c_h1_pulses c_h1_lengths c_h1_fractions c_h1_pulseTimes c_h1_pulseEnergies c_h1_sound c_h1_seen c_h2_count c_h2_front c_h2_least c_h2_window c_h2_pulses c_h2_lengths c_h2_fractions c_h2_pulseTimes c_h2_pulseEnergies c_h2_sound c_h2_seen c_s_length c_s_command c_s_position c_s_fault c_s_bytes c_s_numbers c_w_near c_w_far c_w_echoes c_w_totals c_p_result c_p_endTime c_q_count c_q_front c_q_least c_q_window c_q_pulses c_q_lengths c_q_fractions c_q_pulseTimes c_q_pulseEnergies c_t_near c_t_far c_t_echoes o_t_totals) :=
  MetM.of [(0, .ref (a 71)), (1, .long x1)] (by decide) (Nat.le_of_ble_eq_true rfl) rfl (fun X C hret => Cb_A_fill_t_totals C hret hf)
set_option maxRecDepth 100000 in
theorem Cc_A_fill_rr72 {x0 : Int32} {x1 : Int64} {cc : ByteArray} {own : String} {ret : Option FieldType} {nl fr lo pc ix : Nat} {lv : List (Nat × Value)} {rest : List Value} {β : Type} {K : (Nat → Nat → Int64) → Option β} {oo : β} (hl : Cond.methodLink own ix yJ7_fill_d0a16 ∈ wsG) (C : Cx X (SFG E) T cc own ret nl fr lo) (hj0 : inb x0 9) (hdg : decode cc pc = .ok (.invokestatic ix, 3)) (hroom : 0 + 1 ≤ fr ∧ 8 + (5 + 11) + 0 ≤ lo) (hst : (rest.map fun v => v.category).sum ≤ 8) (hf : bd (Cf_A_fill_rr72 c_t_near x0 x1) K = some oo) (kk : ∀ (o_t_near : Nat → Nat → Int64), K o_t_near = some oo → V X 0 0 (wL E a T c_waveIsFresh c_peelingIsFresh c_n_count c_n_front c_n_least c_n_window c_n_pulses c_n_lengths c_n_fractions c_n_pulseTimes c_n_pulseEnergies c_n_sound c_n_seen c_hcount c_hp c_h0_count c_h0_front c_h0_least c_h0_window c_h0_pulses c_h0_lengths c_h0_fractions c_h0_pulseTimes c_h0_pulseEnergies c_h0_sound c_h0_seen c_h1_count c_h1_front c_h1_least c_h1_window c_h1_pulses c_h1_lengths c_h1_fractions c_h1_pulseTimes c_h1_pulseEnergies c_h1_sound c_h1_seen c_h2_count c_h2_front c_h2_least c_h2_window c_h2_pulses c_h2_lengths c_h2_fractions c_h2_pulseTimes c_h2_pulseEnergies c_h2_sound c_h2_seen c_s_length c_s_command c_s_position c_s_fault c_s_bytes c_s_numbers c_w_near c_w_far c_w_echoes c_w_totals c_p_result c_p_endTime c_q_count c_q_front c_q_least c_q_window c_q_pulses c_q_lengths c_q_fractions c_q_pulseTimes c_q_pulseEnergies o_t_near c_t_far c_t_echoes c_t_totals) lv (pc + 3) rest) : V X 0 0 (wL E a T c_waveIsFresh c_peelingIsFresh c_n_count c_n_front c_n_least c_n_window c_n_pulses c_n_lengths c_n_fractions c_n_pulseTimes c_n_pulseEnergies c_n_sound c_n_seen c_hcount c_hp c_h0_count c_h0_front c_h0_least c_h0_window c_h0_pulses c_h0_lengths c_h0_fractions c_h0_pulseTimes c_h0_pulseEnergies c_h0_sound c_h0_seen c_h1_count c_h1_front c_h1_least c_h1_window c_h1_pulses c_h1_lengths c_h1_fractions c_h1_pulseTimes c_h1_pulseEnergies c_h1_sound c_h1_seen c_h2_count c_h2_front c_h2_least c_h2_window c_h2_pulses c_h2_lengths c_h2_fractions c_h2_pulseTimes c_h2_pulseEnergies c_h2_sound c_h2_seen c_s_length c_s_command c_s_position c_s_fault c_s_bytes c_s_numbers c_w_near c_w_far c_w_echoes c_w_totals c_p_result c_p_endTime c_q_count c_q_front c_q_least c_q_window c_q_pulses c_q_lengths c_q_fractions c_q_pulseTimes c_q_pulseEnergies c_t_near c_t_far c_t_echoes c_t_totals) lv pc (.long x1 :: .ref (a (72 + x0.toNatClampNeg)) :: rest) := by
  obtain ⟨o_t_near, hc, hk⟩ := bd_some hf
  exact v_callS2 (As := [.ref (a (72 + x0.toNatClampNeg)), .long x1]) (rest := rest) 2 C (CapOK.z X) (fun D => Cm_A_fill_rr72 hj0 hc) hl wcode_yJ7_fill_d0a16_cJ7_fill_d0a16_5_none wstatic_yJ7_fill_d0a16 winitialized_RJ7 (by decide +kernel) hroom ⟨rfl, rfl⟩ rfl hst hdg (kk o_t_near hk)
set_option maxRecDepth 100000 in
theorem Cc_A_fill_rr81 {x0 : Int32} {x1 : Int64} {cc : ByteArray} {own : String} {ret : Option FieldType} {nl fr lo pc ix : Nat} {lv : List (Nat × Value)} {rest : List Value} {β : Type} {K : (Nat → Nat → Int64) → Option β} {oo : β} (hl : Cond.methodLink own ix yJ7_fill_d0a16 ∈ wsG) (C : Cx X (SFG E) T cc own ret nl fr lo) (hj0 : inb x0 9) (hdg : decode cc pc = .ok (.invokestatic ix, 3)) (hroom : 0 + 1 ≤ fr ∧ 8 + (5 + 11) + 0 ≤ lo) (hst : (rest.map fun v => v.category).sum ≤ 8) (hf : bd (Cf_A_fill_rr81 c_t_far x0 x1) K = some oo) (kk : ∀ (o_t_far : Nat → Nat → Int64), K o_t_far = some oo → V X 0 0 (wL E a T c_waveIsFresh c_peelingIsFresh c_n_count c_n_front c_n_least c_n_window c_n_pulses c_n_lengths c_n_fractions c_n_pulseTimes c_n_pulseEnergies c_n_sound c_n_seen c_hcount c_hp c_h0_count c_h0_front c_h0_least c_h0_window c_h0_pulses c_h0_lengths c_h0_fractions c_h0_pulseTimes c_h0_pulseEnergies c_h0_sound c_h0_seen c_h1_count c_h1_front c_h1_least c_h1_window c_h1_pulses c_h1_lengths c_h1_fractions c_h1_pulseTimes c_h1_pulseEnergies c_h1_sound c_h1_seen c_h2_count c_h2_front c_h2_least c_h2_window c_h2_pulses c_h2_lengths c_h2_fractions c_h2_pulseTimes c_h2_pulseEnergies c_h2_sound c_h2_seen c_s_length c_s_command c_s_position c_s_fault c_s_bytes c_s_numbers c_w_near c_w_far c_w_echoes c_w_totals c_p_result c_p_endTime c_q_count c_q_front c_q_least c_q_window c_q_pulses c_q_lengths c_q_fractions c_q_pulseTimes c_q_pulseEnergies c_t_near o_t_far c_t_echoes c_t_totals) lv (pc + 3) rest) : V X 0 0 (wL E a T c_waveIsFresh c_peelingIsFresh c_n_count c_n_front c_n_least c_n_window c_n_pulses c_n_lengths c_n_fractions c_n_pulseTimes c_n_pulseEnergies c_n_sound c_n_seen c_hcount c_hp c_h0_count c_h0_front c_h0_least c_h0_window c_h0_pulses c_h0_lengths c_h0_fractions c_h0_pulseTimes c_h0_pulseEnergies c_h0_sound c_h0_seen c_h1_count c_h1_front c_h1_least c_h1_window c_h1_pulses c_h1_lengths c_h1_fractions c_h1_pulseTimes c_h1_pulseEnergies c_h1_sound c_h1_seen c_h2_count c_h2_front c_h2_least c_h2_window c_h2_pulses c_h2_lengths c_h2_fractions c_h2_pulseTimes c_h2_pulseEnergies c_h2_sound c_h2_seen c_s_length c_s_command c_s_position c_s_fault c_s_bytes c_s_numbers c_w_near c_w_far c_w_echoes c_w_totals c_p_result c_p_endTime c_q_count c_q_front c_q_least c_q_window c_q_pulses c_q_lengths c_q_fractions c_q_pulseTimes c_q_pulseEnergies c_t_near c_t_far c_t_echoes c_t_totals) lv pc (.long x1 :: .ref (a (81 + x0.toNatClampNeg)) :: rest) := by
  obtain ⟨o_t_far, hc, hk⟩ := bd_some hf
  exact v_callS2 (As := [.ref (a (81 + x0.toNatClampNeg)), .long x1]) (rest := rest) 2 C (CapOK.z X) (fun D => Cm_A_fill_rr81 hj0 hc) hl wcode_yJ7_fill_d0a16_cJ7_fill_d0a16_5_none wstatic_yJ7_fill_d0a16 winitialized_RJ7 (by decide +kernel) hroom ⟨rfl, rfl⟩ rfl hst hdg (kk o_t_far hk)
def Cl_W_clear_t_2  : Nat → (Nat → Nat → Int64) → (Nat → Nat → Int64) → Int32 → Option ((Nat → Nat → Int64) × (Nat → Nat → Int64))
  | 0, _, _, _ => none
  | n + 1, c_t_near, c_t_far, x1 =>
    if (8 : Int32) < x1 then
      some (c_t_near, c_t_far)
    else
      chk (inb x1 9) <|
      bd (Cf_A_fill_rr72 c_t_near x1 (0 : Int64)) fun t_near_15 =>
      chk (inb x1 9) <|
      bd (Cf_A_fill_rr81 c_t_far x1 (0 : Int64)) fun t_far_25 =>
      nm (x1 + (1 : Int32)) fun x1_28 =>
      Cl_W_clear_t_2 n t_near_15 t_far_25 x1_28
set_option maxRecDepth 100000 in
set_option maxHeartbeats 4000000 in
theorem Ck_W_clear_t_2 (C : Cx X (SFG E) T cX8_clear RX8 none 2 1 24)  {o_t_near : Nat → Nat → Int64} {o_t_far : Nat → Nat → Int64} (hk : V X 0 0 (wL E a T c_waveIsFresh c_peelingIsFresh c_n_count c_n_front c_n_least c_n_window c_n_pulses c_n_lengths c_n_fractions c_n_pulseTimes c_n_pulseEnergies c_n_sound c_n_seen c_hcount c_hp c_h0_count c_h0_front c_h0_least c_h0_window c_h0_pulses c_h0_lengths c_h0_fractions c_h0_pulseTimes c_h0_pulseEnergies c_h0_sound c_h0_seen c_h1_count c_h1_front c_h1_least c_h1_window c_h1_pulses c_h1_lengths c_h1_fractions c_h1_pulseTimes c_h1_pulseEnergies c_h1_sound c_h1_seen c_h2_count c_h2_front c_h2_least c_h2_window c_h2_pulses c_h2_lengths c_h2_fractions c_h2_pulseTimes c_h2_pulseEnergies c_h2_sound c_h2_seen c_s_length c_s_command c_s_position c_s_fault c_s_bytes c_s_numbers c_w_near c_w_far c_w_echoes c_w_totals c_p_result c_p_endTime c_q_count c_q_front c_q_least c_q_window c_q_pulses c_q_lengths c_q_fractions c_q_pulseTimes c_q_pulseEnergies o_t_near o_t_far c_t_echoes c_t_totals) [(0, .ref (a 67))] 34 []) : ∀ (n : Nat) (c_t_near : Nat → Nat → Int64) (c_t_far : Nat → Nat → Int64) (x1 : Int32), Cl_W_clear_t_2  n c_t_near c_t_far x1 = some (o_t_near, o_t_far) → V X 0 0 (wL E a T c_waveIsFresh c_peelingIsFresh c_n_count c_n_front c_n_least c_n_window c_n_pulses c_n_lengths c_n_fractions c_n_pulseTimes c_n_pulseEnergies c_n_sound c_n_seen c_hcount c_hp c_h0_count c_h0_front c_h0_least c_h0_window c_h0_pulses c_h0_lengths c_h0_fractions c_h0_pulseTimes c_h0_pulseEnergies c_h0_sound c_h0_seen c_h1_count c_h1_front c_h1_least c_h1_window c_h1_pulses c_h1_lengths c_h1_fractions c_h1_pulseTimes c_h1_pulseEnergies c_h1_sound c_h1_seen c_h2_count c_h2_front c_h2_least c_h2_window c_h2_pulses c_h2_lengths c_h2_fractions c_h2_pulseTimes c_h2_pulseEnergies c_h2_sound c_h2_seen c_s_length c_s_command c_s_position c_s_fault c_s_bytes c_s_numbers c_w_near c_w_far c_w_echoes c_w_totals c_p_result c_p_endTime c_q_count c_q_front c_q_least c_q_window c_q_pulses c_q_lengths c_q_fractions c_q_pulseTimes c_q_pulseEnergies c_t_near c_t_far c_t_echoes c_t_totals) [(0, .ref (a 67)), (1, .int x1)] 2 [] := by
  intro n
  induction n with
  | zero =>
    intro _ _ _ hf
    cases hf
  | succ n hrec =>
    intro c_t_near c_t_far x1 hf
    rw [Cl_W_clear_t_2] at hf
    refine v_iload_n 1 C dX8_clear_2 rfl rfl ?_
    refine v_bipush (v := 8) C dX8_clear_3 (by decide) ?_
    refine v_icmp_gt 34 C dX8_clear_5 (by decide) hf (fun c hf => ?_) (fun c hf => ?_)
    · refine v_lv [(0, .ref (a 67))] [0] rfl ?_
      cases hf
      exact hk
    · refine v_aload_n 0 C dX8_clear_8 rfl rfl ?_
      refine Cg_67_fromNear wfieldLink_RX8_11_LineEchoes_Wave_fromNear_J C dX8_clear_9 ?_
      refine v_iload_n 1 C dX8_clear_12 rfl rfl ?_
      refine Cao_68 C dX8_clear_13 hf (fun hj13 hf => ?_)
      refine v_lconst (v := 0) C dX8_clear_14 (by decide) ?_
      refine Cc_A_fill_rr72 wmethodLink_RX8_53_yJ7_fill_d0a16 C hj13 dX8_clear_15 (by decide) (Nat.le_of_ble_eq_true rfl) hf (fun t_near_15 hf => ?_)
      refine v_aload_n 0 C dX8_clear_18 rfl rfl ?_
      refine Cg_67_fromFar wfieldLink_RX8_16_LineEchoes_Wave_fromFar_J C dX8_clear_19 ?_
      refine v_iload_n 1 C dX8_clear_22 rfl rfl ?_
      refine Cao_69 C dX8_clear_23 hf (fun hj23 hf => ?_)
      refine v_lconst (v := 0) C dX8_clear_24 (by decide) ?_
      refine Cc_A_fill_rr81 wmethodLink_RX8_53_yJ7_fill_d0a16 C hj23 dX8_clear_25 (by decide) (Nat.le_of_ble_eq_true rfl) hf (fun t_far_25 hf => ?_)
      refine v_iinc (fun x1_28 => [(0, .ref (a 67)), (1, .int x1_28)]) [1, 0] C dX8_clear_28 (j := 1) rfl (dv := 1) (by decide) (by decide) (fun _ => rfl) hf (fun x1_28 hf => ?_)
      refine v_goto 2 C dX8_clear_31 (by decide) ?_
      exact hrec _ _ _ hf
set_option maxRecDepth 100000 in
theorem Cc_A_fill_t_echoes {x1 : Int64} {cc : ByteArray} {own : String} {ret : Option FieldType} {nl fr lo pc ix : Nat} {lv : List (Nat × Value)} {rest : List Value} {β : Type} {K : (Nat → Int64) → Option β} {oo : β} (hl : Cond.methodLink own ix yJ7_fill_d0a16 ∈ wsG) (C : Cx X (SFG E) T cc own ret nl fr lo) (hdg : decode cc pc = .ok (.invokestatic ix, 3)) (hroom : 0 + 1 ≤ fr ∧ 8 + (5 + 11) + 0 ≤ lo) (hst : (rest.map fun v => v.category).sum ≤ 8) (hf : bd (Cf_A_fill_t_echoes c_t_echoes x1) K = some oo) (kk : ∀ (o_t_echoes : Nat → Int64), K o_t_echoes = some oo → V X 0 0 (wL E a T c_waveIsFresh c_peelingIsFresh c_n_count c_n_front c_n_least c_n_window c_n_pulses c_n_lengths c_n_fractions c_n_pulseTimes c_n_pulseEnergies c_n_sound c_n_seen c_hcount c_hp c_h0_count c_h0_front c_h0_least c_h0_window c_h0_pulses c_h0_lengths c_h0_fractions c_h0_pulseTimes c_h0_pulseEnergies c_h0_sound c_h0_seen c_h1_count c_h1_front c_h1_least c_h1_window c_h1_pulses c_h1_lengths c_h1_fractions c_h1_pulseTimes c_h1_pulseEnergies c_h1_sound c_h1_seen c_h2_count c_h2_front c_h2_least c_h2_window c_h2_pulses c_h2_lengths c_h2_fractions c_h2_pulseTimes c_h2_pulseEnergies c_h2_sound c_h2_seen c_s_length c_s_command c_s_position c_s_fault c_s_bytes c_s_numbers c_w_near c_w_far c_w_echoes c_w_totals c_p_result c_p_endTime c_q_count c_q_front c_q_least c_q_window c_q_pulses c_q_lengths c_q_fractions c_q_pulseTimes c_q_pulseEnergies c_t_near c_t_far o_t_echoes c_t_totals) lv (pc + 3) rest) : V X 0 0 (wL E a T c_waveIsFresh c_peelingIsFresh c_n_count c_n_front c_n_least c_n_window c_n_pulses c_n_lengths c_n_fractions c_n_pulseTimes c_n_pulseEnergies c_n_sound c_n_seen c_hcount c_hp c_h0_count c_h0_front c_h0_least c_h0_window c_h0_pulses c_h0_lengths c_h0_fractions c_h0_pulseTimes c_h0_pulseEnergies c_h0_sound c_h0_seen c_h1_count c_h1_front c_h1_least c_h1_window c_h1_pulses c_h1_lengths c_h1_fractions c_h1_pulseTimes c_h1_pulseEnergies c_h1_sound c_h1_seen c_h2_count c_h2_front c_h2_least c_h2_window c_h2_pulses c_h2_lengths c_h2_fractions c_h2_pulseTimes c_h2_pulseEnergies c_h2_sound c_h2_seen c_s_length c_s_command c_s_position c_s_fault c_s_bytes c_s_numbers c_w_near c_w_far c_w_echoes c_w_totals c_p_result c_p_endTime c_q_count c_q_front c_q_least c_q_window c_q_pulses c_q_lengths c_q_fractions c_q_pulseTimes c_q_pulseEnergies c_t_near c_t_far c_t_echoes c_t_totals) lv pc (.long x1 :: .ref (a 70) :: rest) := by
  obtain ⟨o_t_echoes, hc, hk⟩ := bd_some hf
  exact v_callS2 (As := [.ref (a 70), .long x1]) (rest := rest) 2 C (CapOK.z X) (fun D => Cm_A_fill_t_echoes hc) hl wcode_yJ7_fill_d0a16_cJ7_fill_d0a16_5_none wstatic_yJ7_fill_d0a16 winitialized_RJ7 (by decide +kernel) hroom ⟨rfl, rfl⟩ rfl hst hdg (kk o_t_echoes hk)
set_option maxRecDepth 100000 in
theorem Cc_A_fill_t_totals {x1 : Int64} {cc : ByteArray} {own : String} {ret : Option FieldType} {nl fr lo pc ix : Nat} {lv : List (Nat × Value)} {rest : List Value} {β : Type} {K : (Nat → Int64) → Option β} {oo : β} (hl : Cond.methodLink own ix yJ7_fill_d0a16 ∈ wsG) (C : Cx X (SFG E) T cc own ret nl fr lo) (hdg : decode cc pc = .ok (.invokestatic ix, 3)) (hroom : 0 + 1 ≤ fr ∧ 8 + (5 + 11) + 0 ≤ lo) (hst : (rest.map fun v => v.category).sum ≤ 8) (hf : bd (Cf_A_fill_t_totals c_t_totals x1) K = some oo) (kk : ∀ (o_t_totals : Nat → Int64), K o_t_totals = some oo → V X 0 0 (wL E a T c_waveIsFresh c_peelingIsFresh c_n_count c_n_front c_n_least c_n_window c_n_pulses c_n_lengths c_n_fractions c_n_pulseTimes c_n_pulseEnergies c_n_sound c_n_seen c_hcount c_hp c_h0_count c_h0_front c_h0_least c_h0_window c_h0_pulses c_h0_lengths c_h0_fractions c_h0_pulseTimes c_h0_pulseEnergies c_h0_sound c_h0_seen c_h1_count c_h1_front c_h1_least c_h1_window c_h1_pulses c_h1_lengths c_h1_fractions c_h1_pulseTimes c_h1_pulseEnergies c_h1_sound c_h1_seen c_h2_count c_h2_front c_h2_least c_h2_window c_h2_pulses c_h2_lengths c_h2_fractions c_h2_pulseTimes c_h2_pulseEnergies c_h2_sound c_h2_seen c_s_length c_s_command c_s_position c_s_fault c_s_bytes c_s_numbers c_w_near c_w_far c_w_echoes c_w_totals c_p_result c_p_endTime c_q_count c_q_front c_q_least c_q_window c_q_pulses c_q_lengths c_q_fractions c_q_pulseTimes c_q_pulseEnergies c_t_near c_t_far c_t_echoes o_t_totals) lv (pc + 3) rest) : V X 0 0 (wL E a T c_waveIsFresh c_peelingIsFresh c_n_count c_n_front c_n_least c_n_window c_n_pulses c_n_lengths c_n_fractions c_n_pulseTimes c_n_pulseEnergies c_n_sound c_n_seen c_hcount c_hp c_h0_count c_h0_front c_h0_least c_h0_window c_h0_pulses c_h0_lengths c_h0_fractions c_h0_pulseTimes c_h0_pulseEnergies c_h0_sound c_h0_seen c_h1_count c_h1_front c_h1_least c_h1_window c_h1_pulses c_h1_lengths c_h1_fractions c_h1_pulseTimes c_h1_pulseEnergies c_h1_sound c_h1_seen c_h2_count c_h2_front c_h2_least c_h2_window c_h2_pulses c_h2_lengths c_h2_fractions c_h2_pulseTimes c_h2_pulseEnergies c_h2_sound c_h2_seen c_s_length c_s_command c_s_position c_s_fault c_s_bytes c_s_numbers c_w_near c_w_far c_w_echoes c_w_totals c_p_result c_p_endTime c_q_count c_q_front c_q_least c_q_window c_q_pulses c_q_lengths c_q_fractions c_q_pulseTimes c_q_pulseEnergies c_t_near c_t_far c_t_echoes c_t_totals) lv pc (.long x1 :: .ref (a 71) :: rest) := by
  obtain ⟨o_t_totals, hc, hk⟩ := bd_some hf
  exact v_callS2 (As := [.ref (a 71), .long x1]) (rest := rest) 2 C (CapOK.z X) (fun D => Cm_A_fill_t_totals hc) hl wcode_yJ7_fill_d0a16_cJ7_fill_d0a16_5_none wstatic_yJ7_fill_d0a16 winitialized_RJ7 (by decide +kernel) hroom ⟨rfl, rfl⟩ rfl hst hdg (kk o_t_totals hk)
def Cf_W_clear_t (c_t_near : Nat → Nat → Int64) (c_t_far : Nat → Nat → Int64) (c_t_echoes : Nat → Int64) (c_t_totals : Nat → Int64) : Option ((Nat → Nat → Int64) × (Nat → Nat → Int64) × (Nat → Int64) × (Nat → Int64)) :=
  bd (Cl_W_clear_t_2 FUEL c_t_near c_t_far (0 : Int32)) fun (o_t_near_2, o_t_far_2) =>
  bd (Cf_A_fill_t_echoes c_t_echoes (0 : Int64)) fun t_echoes_39 =>
  bd (Cf_A_fill_t_totals c_t_totals (0 : Int64)) fun t_totals_47 =>
  some (o_t_near_2, o_t_far_2, t_echoes_39, t_totals_47)
set_option maxRecDepth 100000 in
set_option maxHeartbeats 4000000 in
theorem Cb_W_clear_t (C : Cx X (SFG E) T cX8_clear RX8 none 2 1 24)  {o_t_near : Nat → Nat → Int64} {o_t_far : Nat → Nat → Int64} {o_t_echoes : Nat → Int64} {o_t_totals : Nat → Int64} (hret : RetOK X 0 0 none (wL E a T c_waveIsFresh c_peelingIsFresh c_n_count c_n_front c_n_least c_n_window c_n_pulses c_n_lengths c_n_fractions c_n_pulseTimes c_n_pulseEnergies c_n_sound c_n_seen c_hcount c_hp c_h0_count c_h0_front c_h0_least c_h0_window c_h0_pulses c_h0_lengths c_h0_fractions c_h0_pulseTimes c_h0_pulseEnergies c_h0_sound c_h0_seen c_h1_count c_h1_front c_h1_least c_h1_window c_h1_pulses c_h1_lengths c_h1_fractions c_h1_pulseTimes c_h1_pulseEnergies c_h1_sound c_h1_seen c_h2_count c_h2_front c_h2_least c_h2_window c_h2_pulses c_h2_lengths c_h2_fractions c_h2_pulseTimes c_h2_pulseEnergies c_h2_sound c_h2_seen c_s_length c_s_command c_s_position c_s_fault c_s_bytes c_s_numbers c_w_near c_w_far c_w_echoes c_w_totals c_p_result c_p_endTime c_q_count c_q_front c_q_least c_q_window c_q_pulses c_q_lengths c_q_fractions c_q_pulseTimes c_q_pulseEnergies o_t_near o_t_far o_t_echoes o_t_totals)) (hf : Cf_W_clear_t c_t_near c_t_far c_t_echoes c_t_totals = some (o_t_near, o_t_far, o_t_echoes, o_t_totals)) : V X 0 0 (wL E a T c_waveIsFresh c_peelingIsFresh c_n_count c_n_front c_n_least c_n_window c_n_pulses c_n_lengths c_n_fractions c_n_pulseTimes c_n_pulseEnergies c_n_sound c_n_seen c_hcount c_hp c_h0_count c_h0_front c_h0_least c_h0_window c_h0_pulses c_h0_lengths c_h0_fractions c_h0_pulseTimes c_h0_pulseEnergies c_h0_sound c_h0_seen c_h1_count c_h1_front c_h1_least c_h1_window c_h1_pulses c_h1_lengths c_h1_fractions c_h1_pulseTimes c_h1_pulseEnergies c_h1_sound c_h1_seen c_h2_count c_h2_front c_h2_least c_h2_window c_h2_pulses c_h2_lengths c_h2_fractions c_h2_pulseTimes c_h2_pulseEnergies c_h2_sound c_h2_seen c_s_length c_s_command c_s_position c_s_fault c_s_bytes c_s_numbers c_w_near c_w_far c_w_echoes c_w_totals c_p_result c_p_endTime c_q_count c_q_front c_q_least c_q_window c_q_pulses c_q_lengths c_q_fractions c_q_pulseTimes c_q_pulseEnergies c_t_near c_t_far c_t_echoes c_t_totals) [(0, .ref (a 67))] 0 [] := by
  unfold Cf_W_clear_t at hf
  refine v_iconst (v := 0) C dX8_clear_0 (by decide) ?_
  refine v_istore_n [(0, .ref (a 67)), (1, .int (0 : Int32))] [1, 0] C dX8_clear_1 rfl (by decide) rfl ?_
  obtain ⟨⟨o_t_near_2, o_t_far_2⟩, hc, hf⟩ := bd_some hf
  refine Ck_W_clear_t_2 C ?_ _ _ _ _ hc
  refine v_aload_n 0 C dX8_clear_34 rfl rfl ?_
  refine Cg_67_echoes wfieldLink_RX8_19_LineEchoes_Wave_echoes_J C dX8_clear_35 ?_
  refine v_lconst (v := 0) C dX8_clear_38 (by decide) ?_
  refine Cc_A_fill_t_echoes wmethodLink_RX8_53_yJ7_fill_d0a16 C dX8_clear_39 (by decide) (Nat.le_of_ble_eq_true rfl) hf (fun t_echoes_39 hf => ?_)
  refine v_aload_n 0 C dX8_clear_42 rfl rfl ?_
  refine Cg_67_totals wfieldLink_RX8_23_LineEchoes_Wave_totals_J C dX8_clear_43 ?_
  refine v_lconst (v := 0) C dX8_clear_46 (by decide) ?_
  refine Cc_A_fill_t_totals wmethodLink_RX8_53_yJ7_fill_d0a16 C dX8_clear_47 (by decide) (Nat.le_of_ble_eq_true rfl) hf (fun t_totals_47 hf => ?_)
  cases hf
  exact v_vret C hret dX8_clear_50
set_option maxRecDepth 100000 in
set_option maxHeartbeats 4000000 in
theorem Cm_W_clear_t {D : va_G}  {o_t_near : Nat → Nat → Int64} {o_t_far : Nat → Nat → Int64} {o_t_echoes : Nat → Int64} {o_t_totals : Nat → Int64} (hf : Cf_W_clear_t c_t_near c_t_far c_t_echoes c_t_totals = some (o_t_near, o_t_far, o_t_echoes, o_t_totals)) : MetM (SFG E) yX8_clear cX8_clear 2 none { frames := 1, cells := 0, slots := 0, locals := 24 } D T [.ref (a 67)] (wL E a T c_waveIsFresh c_peelingIsFresh c_n_count c_n_front c_n_least c_n_window c_n_pulses c_n_lengths c_n_fractions c_n_pulseTimes c_n_pulseEnergies c_n_sound c_n_seen c_hcount c_hp c_h0_count c_h0_front c_h0_least c_h0_window c_h0_pulses c_h0_lengths c_h0_fractions c_h0_pulseTimes c_h0_pulseEnergies c_h0_sound c_h0_seen c_h1_count c_h1_front c_h1_least c_h1_window c_h1_pulses c_h1_lengths c_h1_fractions c_h1_pulseTimes c_h1_pulseEnergies c_h1_sound c_h1_seen c_h2_count c_h2_front c_h2_least c_h2_window c_h2_pulses c_h2_lengths c_h2_fractions c_h2_pulseTimes c_h2_pulseEnergies c_h2_sound c_h2_seen c_s_length c_s_command c_s_position c_s_fault c_s_bytes c_s_numbers c_w_near c_w_far c_w_echoes c_w_totals c_p_result c_p_endTime c_q_count c_q_front c_q_least c_q_window c_q_pulses c_q_lengths c_q_fractions c_q_pulseTimes c_q_pulseEnergies c_t_near c_t_far c_t_echoes c_t_totals) none (wL E a T c_waveIsFresh c_peelingIsFresh c_n_count c_n_front c_n_least c_n_window c_n_pulses c_n_lengths c_n_fractions c_n_pulseTimes c_n_pulseEnergies c_n_sound c_n_seen c_hcount c_hp c_h0_count c_h0_front c_h0_least c_h0_window c_h0_pulses c_h0_lengths c_h0_fractions c_h0_pulseTimes c_h0_pulseEnergies c_h0_sound c_h0_seen c_h1_count c_h1_front c_h1_least c_h1_window c_h1_pulses c_h1_lengths c_h1_fractions c_h1_pulseTimes c_h1_pulseEnergies c_h1_sound c_h1_seen c_h2_count c_h2_front c_h2_least c_h2_window c_h2_pulses c_h2_lengths c_h2_fractions c_h2_pulseTimes c_h2_pulseEnergies c_h2_sound c_h2_seen c_s_length c_s_command c_s_position c_s_fault c_s_bytes c_s_numbers c_w_near c_w_far c_w_echoes c_w_totals c_p_result c_p_endTime c_q_count c_q_front c_q_least c_q_window c_q_pulses c_q_lengths c_q_fractions c_q_pulseTimes c_q_pulseEnergies o_t_near o_t_far o_t_echoes o_t_totals) :=
  MetM.of [(0, .ref (a 67))] (by decide) (Nat.le_of_ble_eq_true rfl) rfl (fun X C hret => Cb_W_clear_t C hret hf)
def Cf_W_addUpPulses_t_q_39 (rec : (Nat → Int64) → Int32 → Option (Nat → Int64)) (c_t_totals : Nat → Int64) (x2 : Int32) : Option (Nat → Int64) :=
  nm (x2 + (1 : Int32)) fun x2_39 =>
  rec c_t_totals x2_39
set_option maxRecDepth 100000 in
set_option maxHeartbeats 4000000 in
theorem Cb_W_addUpPulses_t_q_39 (C : Cx X (SFG E) T cX8_addUpPulses RX8 none 3 0 0) {rec : (Nat → Int64) → Int32 → Option (Nat → Int64)} {x2 : Int32} {o_t_totals : Nat → Int64} (hrec : ∀ (c_t_totals : Nat → Int64) (x2 : Int32), rec c_t_totals x2 = some o_t_totals → V X 0 0 (wL E a T c_waveIsFresh c_peelingIsFresh c_n_count c_n_front c_n_least c_n_window c_n_pulses c_n_lengths c_n_fractions c_n_pulseTimes c_n_pulseEnergies c_n_sound c_n_seen c_hcount c_hp c_h0_count c_h0_front c_h0_least c_h0_window c_h0_pulses c_h0_lengths c_h0_fractions c_h0_pulseTimes c_h0_pulseEnergies c_h0_sound c_h0_seen c_h1_count c_h1_front c_h1_least c_h1_window c_h1_pulses c_h1_lengths c_h1_fractions c_h1_pulseTimes c_h1_pulseEnergies c_h1_sound c_h1_seen c_h2_count c_h2_front c_h2_least c_h2_window c_h2_pulses c_h2_lengths c_h2_fractions c_h2_pulseTimes c_h2_pulseEnergies c_h2_sound c_h2_seen c_s_length c_s_command c_s_position c_s_fault c_s_bytes c_s_numbers c_w_near c_w_far c_w_echoes c_w_totals c_p_result c_p_endTime c_q_count c_q_front c_q_least c_q_window c_q_pulses c_q_lengths c_q_fractions c_q_pulseTimes c_q_pulseEnergies c_t_near c_t_far c_t_echoes c_t_totals) [(0, .ref (a 67)), (1, .ref (a 62)), (2, .int x2)] 2 []) (hk : V X 0 0 (wL E a T c_waveIsFresh c_peelingIsFresh c_n_count c_n_front c_n_least c_n_window c_n_pulses c_n_lengths c_n_fractions c_n_pulseTimes c_n_pulseEnergies c_n_sound c_n_seen c_hcount c_hp c_h0_count c_h0_front c_h0_least c_h0_window c_h0_pulses c_h0_lengths c_h0_fractions c_h0_pulseTimes c_h0_pulseEnergies c_h0_sound c_h0_seen c_h1_count c_h1_front c_h1_least c_h1_window c_h1_pulses c_h1_lengths c_h1_fractions c_h1_pulseTimes c_h1_pulseEnergies c_h1_sound c_h1_seen c_h2_count c_h2_front c_h2_least c_h2_window c_h2_pulses c_h2_lengths c_h2_fractions c_h2_pulseTimes c_h2_pulseEnergies c_h2_sound c_h2_seen c_s_length c_s_command c_s_position c_s_fault c_s_bytes c_s_numbers c_w_near c_w_far c_w_echoes c_w_totals c_p_result c_p_endTime c_q_count c_q_front c_q_least c_q_window c_q_pulses c_q_lengths c_q_fractions c_q_pulseTimes c_q_pulseEnergies c_t_near c_t_far c_t_echoes o_t_totals) [] 45 []) (hf : Cf_W_addUpPulses_t_q_39 rec c_t_totals x2 = some o_t_totals) : V X 0 0 (wL E a T c_waveIsFresh c_peelingIsFresh c_n_count c_n_front c_n_least c_n_window c_n_pulses c_n_lengths c_n_fractions c_n_pulseTimes c_n_pulseEnergies c_n_sound c_n_seen c_hcount c_hp c_h0_count c_h0_front c_h0_least c_h0_window c_h0_pulses c_h0_lengths c_h0_fractions c_h0_pulseTimes c_h0_pulseEnergies c_h0_sound c_h0_seen c_h1_count c_h1_front c_h1_least c_h1_window c_h1_pulses c_h1_lengths c_h1_fractions c_h1_pulseTimes c_h1_pulseEnergies c_h1_sound c_h1_seen c_h2_count c_h2_front c_h2_least c_h2_window c_h2_pulses c_h2_lengths c_h2_fractions c_h2_pulseTimes c_h2_pulseEnergies c_h2_sound c_h2_seen c_s_length c_s_command c_s_position c_s_fault c_s_bytes c_s_numbers c_w_near c_w_far c_w_echoes c_w_totals c_p_result c_p_endTime c_q_count c_q_front c_q_least c_q_window c_q_pulses c_q_lengths c_q_fractions c_q_pulseTimes c_q_pulseEnergies c_t_near c_t_far c_t_echoes c_t_totals) [(0, .ref (a 67)), (1, .ref (a 62)), (2, .int x2)] 39 [] := by
  unfold Cf_W_addUpPulses_t_q_39 at hf
  refine v_iinc (fun x2_39 => [(0, .ref (a 67)), (1, .ref (a 62)), (2, .int x2_39)]) [1, 2, 0] C dX8_addUpPulses_39 (j := 2) rfl (dv := 1) (by decide) (by decide) (fun _ => rfl) hf (fun x2_39 hf => ?_)
  refine v_goto 2 C dX8_addUpPulses_42 (by decide) ?_
  exact hrec _ _ hf
def Cl_W_addUpPulses_t_q_2 (c_q_window : Int32) (c_q_pulses : Int32) (c_q_pulseTimes : Nat → Int32) (c_q_pulseEnergies : Nat → Int32) : Nat → (Nat → Int64) → Int32 → Option (Nat → Int64)
  | 0, _, _ => none
  | n + 1, c_t_totals, x2 =>
    if c_q_pulses ≤ x2 then
      some c_t_totals
    else
      chk (inb x2 4) <| nm (c_q_pulseTimes x2.toNatClampNeg) fun z15 =>
      if c_q_window < z15 then
        Cf_W_addUpPulses_t_q_39 (Cl_W_addUpPulses_t_q_2 c_q_window c_q_pulses c_q_pulseTimes c_q_pulseEnergies n) c_t_totals x2
      else
        chk (inb (0 : Int32) 9) <| nm (c_t_totals (0 : Int32).toNatClampNeg) fun z29 =>
        chk (inb x2 4) <| nm (c_q_pulseEnergies x2.toNatClampNeg) fun z35 =>
        nm (z35.toInt64) fun z36 =>
        nm (z29 + z36) fun z37 =>
        chk (inb (0 : Int32) 9) <| nm (vp_updL c_t_totals (0 : Int32).toNatClampNeg z37) fun t_totals_38 =>
        Cf_W_addUpPulses_t_q_39 (Cl_W_addUpPulses_t_q_2 c_q_window c_q_pulses c_q_pulseTimes c_q_pulseEnergies n) t_totals_38 x2
set_option maxRecDepth 100000 in
set_option maxHeartbeats 4000000 in
theorem Ck_W_addUpPulses_t_q_2 (C : Cx X (SFG E) T cX8_addUpPulses RX8 none 3 0 0)  {o_t_totals : Nat → Int64} (hk : V X 0 0 (wL E a T c_waveIsFresh c_peelingIsFresh c_n_count c_n_front c_n_least c_n_window c_n_pulses c_n_lengths c_n_fractions c_n_pulseTimes c_n_pulseEnergies c_n_sound c_n_seen c_hcount c_hp c_h0_count c_h0_front c_h0_least c_h0_window c_h0_pulses c_h0_lengths c_h0_fractions c_h0_pulseTimes c_h0_pulseEnergies c_h0_sound c_h0_seen c_h1_count c_h1_front c_h1_least c_h1_window c_h1_pulses c_h1_lengths c_h1_fractions c_h1_pulseTimes c_h1_pulseEnergies c_h1_sound c_h1_seen c_h2_count c_h2_front c_h2_least c_h2_window c_h2_pulses c_h2_lengths c_h2_fractions c_h2_pulseTimes c_h2_pulseEnergies c_h2_sound c_h2_seen c_s_length c_s_command c_s_position c_s_fault c_s_bytes c_s_numbers c_w_near c_w_far c_w_echoes c_w_totals c_p_result c_p_endTime c_q_count c_q_front c_q_least c_q_window c_q_pulses c_q_lengths c_q_fractions c_q_pulseTimes c_q_pulseEnergies c_t_near c_t_far c_t_echoes o_t_totals) [] 45 []) : ∀ (n : Nat) (c_t_totals : Nat → Int64) (x2 : Int32), Cl_W_addUpPulses_t_q_2 c_q_window c_q_pulses c_q_pulseTimes c_q_pulseEnergies n c_t_totals x2 = some o_t_totals → V X 0 0 (wL E a T c_waveIsFresh c_peelingIsFresh c_n_count c_n_front c_n_least c_n_window c_n_pulses c_n_lengths c_n_fractions c_n_pulseTimes c_n_pulseEnergies c_n_sound c_n_seen c_hcount c_hp c_h0_count c_h0_front c_h0_least c_h0_window c_h0_pulses c_h0_lengths c_h0_fractions c_h0_pulseTimes c_h0_pulseEnergies c_h0_sound c_h0_seen c_h1_count c_h1_front c_h1_least c_h1_window c_h1_pulses c_h1_lengths c_h1_fractions c_h1_pulseTimes c_h1_pulseEnergies c_h1_sound c_h1_seen c_h2_count c_h2_front c_h2_least c_h2_window c_h2_pulses c_h2_lengths c_h2_fractions c_h2_pulseTimes c_h2_pulseEnergies c_h2_sound c_h2_seen c_s_length c_s_command c_s_position c_s_fault c_s_bytes c_s_numbers c_w_near c_w_far c_w_echoes c_w_totals c_p_result c_p_endTime c_q_count c_q_front c_q_least c_q_window c_q_pulses c_q_lengths c_q_fractions c_q_pulseTimes c_q_pulseEnergies c_t_near c_t_far c_t_echoes c_t_totals) [(0, .ref (a 67)), (1, .ref (a 62)), (2, .int x2)] 2 [] := by
  intro n
  induction n with
  | zero =>
    intro _ _ hf
    cases hf
  | succ n hrec =>
    intro c_t_totals x2 hf
    rw [Cl_W_addUpPulses_t_q_2] at hf
    refine v_iload_n 2 C dX8_addUpPulses_2 rfl rfl ?_
    refine v_aload_n 1 C dX8_addUpPulses_3 rfl rfl ?_
    refine Cg_62_pulses wfieldLink_RX8_59_LineEchoes_Bench_pulses_I C dX8_addUpPulses_4 ?_
    refine v_icmp_ge 45 C dX8_addUpPulses_7 (by decide) hf (fun c hf => ?_) (fun c hf => ?_)
    · refine v_lv [] [] rfl ?_
      cases hf
      exact hk
    · refine v_aload_n 1 C dX8_addUpPulses_10 rfl rfl ?_
      refine Cg_62_pulseTimes wfieldLink_RX8_62_LineEchoes_Bench_pulseTimes_I C dX8_addUpPulses_11 ?_
      refine v_iload_n 2 C dX8_addUpPulses_14 rfl rfl ?_
      refine Cal_65 C dX8_addUpPulses_15 hf (fun z15 hf => ?_)
      refine v_aload_n 1 C dX8_addUpPulses_16 rfl rfl ?_
      refine Cg_62_window wfieldLink_RX8_39_LineEchoes_Bench_window_I C dX8_addUpPulses_17 ?_
      refine v_icmp_gt 39 C dX8_addUpPulses_20 (by decide) hf (fun c hf => ?_) (fun c hf => ?_)
      · exact Cb_W_addUpPulses_t_q_39 C hrec hk hf
      · refine v_aload_n 0 C dX8_addUpPulses_23 rfl rfl ?_
        refine Cg_67_totals wfieldLink_RX8_23_LineEchoes_Wave_totals_J C dX8_addUpPulses_24 ?_
        refine v_iconst (v := 0) C dX8_addUpPulses_27 (by decide) ?_
        refine v_dup2_11 C dX8_addUpPulses_28 rfl rfl ?_
        refine Cal_71 C dX8_addUpPulses_29 hf (fun z29 hf => ?_)
        refine v_aload_n 1 C dX8_addUpPulses_30 rfl rfl ?_
        refine Cg_62_pulseEnergies wfieldLink_RX8_66_LineEchoes_Bench_pulseEnergies_I C dX8_addUpPulses_31 ?_
        refine v_iload_n 2 C dX8_addUpPulses_34 rfl rfl ?_
        refine Cal_66 C dX8_addUpPulses_35 hf (fun z35 hf => ?_)
        refine v_i2l C dX8_addUpPulses_36 hf (fun z36 hf => ?_)
        refine v_ladd C dX8_addUpPulses_37 hf (fun z37 hf => ?_)
        refine Cas_71 C dX8_addUpPulses_38 hf (fun t_totals_38 hf => ?_)
        exact Cb_W_addUpPulses_t_q_39 C hrec hk hf
def Cf_W_addUpPulses_t_q (c_q_window : Int32) (c_q_pulses : Int32) (c_q_pulseTimes : Nat → Int32) (c_q_pulseEnergies : Nat → Int32) (c_t_totals : Nat → Int64) : Option (Nat → Int64) :=
  bd (Cl_W_addUpPulses_t_q_2 c_q_window c_q_pulses c_q_pulseTimes c_q_pulseEnergies FUEL c_t_totals (0 : Int32)) fun o_t_totals_2 =>
  some o_t_totals_2
set_option maxRecDepth 100000 in
set_option maxHeartbeats 4000000 in
theorem Cb_W_addUpPulses_t_q (C : Cx X (SFG E) T cX8_addUpPulses RX8 none 3 0 0)  {o_t_totals : Nat → Int64} (hret : RetOK X 0 0 none (wL E a T c_waveIsFresh c_peelingIsFresh c_n_count c_n_front c_n_least c_n_window c_n_pulses c_n_lengths c_n_fractions c_n_pulseTimes c_n_pulseEnergies c_n_sound c_n_seen c_hcount c_hp c_h0_count c_h0_front c_h0_least c_h0_window c_h0_pulses c_h0_lengths c_h0_fractions c_h0_pulseTimes c_h0_pulseEnergies c_h0_sound c_h0_seen c_h1_count c_h1_front c_h1_least c_h1_window c_h1_pulses c_h1_lengths c_h1_fractions c_h1_pulseTimes c_h1_pulseEnergies c_h1_sound c_h1_seen c_h2_count c_h2_front c_h2_least c_h2_window c_h2_pulses c_h2_lengths c_h2_fractions c_h2_pulseTimes c_h2_pulseEnergies c_h2_sound c_h2_seen c_s_length c_s_command c_s_position c_s_fault c_s_bytes c_s_numbers c_w_near c_w_far c_w_echoes c_w_totals c_p_result c_p_endTime c_q_count c_q_front c_q_least c_q_window c_q_pulses c_q_lengths c_q_fractions c_q_pulseTimes c_q_pulseEnergies c_t_near c_t_far c_t_echoes o_t_totals)) (hf : Cf_W_addUpPulses_t_q c_q_window c_q_pulses c_q_pulseTimes c_q_pulseEnergies c_t_totals = some o_t_totals) : V X 0 0 (wL E a T c_waveIsFresh c_peelingIsFresh c_n_count c_n_front c_n_least c_n_window c_n_pulses c_n_lengths c_n_fractions c_n_pulseTimes c_n_pulseEnergies c_n_sound c_n_seen c_hcount c_hp c_h0_count c_h0_front c_h0_least c_h0_window c_h0_pulses c_h0_lengths c_h0_fractions c_h0_pulseTimes c_h0_pulseEnergies c_h0_sound c_h0_seen c_h1_count c_h1_front c_h1_least c_h1_window c_h1_pulses c_h1_lengths c_h1_fractions c_h1_pulseTimes c_h1_pulseEnergies c_h1_sound c_h1_seen c_h2_count c_h2_front c_h2_least c_h2_window c_h2_pulses c_h2_lengths c_h2_fractions c_h2_pulseTimes c_h2_pulseEnergies c_h2_sound c_h2_seen c_s_length c_s_command c_s_position c_s_fault c_s_bytes c_s_numbers c_w_near c_w_far c_w_echoes c_w_totals c_p_result c_p_endTime c_q_count c_q_front c_q_least c_q_window c_q_pulses c_q_lengths c_q_fractions c_q_pulseTimes c_q_pulseEnergies c_t_near c_t_far c_t_echoes c_t_totals) [(0, .ref (a 67)), (1, .ref (a 62))] 0 [] := by
  unfold Cf_W_addUpPulses_t_q at hf
  refine v_iconst (v := 0) C dX8_addUpPulses_0 (by decide) ?_
  refine v_istore_n [(0, .ref (a 67)), (1, .ref (a 62)), (2, .int (0 : Int32))] [1, 2, 0] C dX8_addUpPulses_1 rfl (by decide) rfl ?_
  obtain ⟨o_t_totals_2, hc, hf⟩ := bd_some hf
  refine Ck_W_addUpPulses_t_q_2 C ?_ _ _ _ hc
  cases hf
  exact v_vret C hret dX8_addUpPulses_45
set_option maxRecDepth 100000 in
set_option maxHeartbeats 4000000 in
theorem Cm_W_addUpPulses_t_q {D : va_G}  {o_t_totals : Nat → Int64} (hf : Cf_W_addUpPulses_t_q c_q_window c_q_pulses c_q_pulseTimes c_q_pulseEnergies c_t_totals = some o_t_totals) : MetM (SFG E) yX8_addUpPulses cX8_addUpPulses 3 none { frames := 0, cells := 0, slots := 0, locals := 0 } D T [.ref (a 67), .ref (a 62)] (wL E a T c_waveIsFresh c_peelingIsFresh c_n_count c_n_front c_n_least c_n_window c_n_pulses c_n_lengths c_n_fractions c_n_pulseTimes c_n_pulseEnergies c_n_sound c_n_seen c_hcount c_hp c_h0_count c_h0_front c_h0_least c_h0_window c_h0_pulses c_h0_lengths c_h0_fractions c_h0_pulseTimes c_h0_pulseEnergies c_h0_sound c_h0_seen c_h1_count c_h1_front c_h1_least c_h1_window c_h1_pulses c_h1_lengths c_h1_fractions c_h1_pulseTimes c_h1_pulseEnergies c_h1_sound c_h1_seen c_h2_count c_h2_front c_h2_least c_h2_window c_h2_pulses c_h2_lengths c_h2_fractions c_h2_pulseTimes c_h2_pulseEnergies c_h2_sound c_h2_seen c_s_length c_s_command c_s_position c_s_fault c_s_bytes c_s_numbers c_w_near c_w_far c_w_echoes c_w_totals c_p_result c_p_endTime c_q_count c_q_front c_q_least c_q_window c_q_pulses c_q_lengths c_q_fractions c_q_pulseTimes c_q_pulseEnergies c_t_near c_t_far c_t_echoes c_t_totals) none (wL E a T c_waveIsFresh c_peelingIsFresh c_n_count c_n_front c_n_least c_n_window c_n_pulses c_n_lengths c_n_fractions c_n_pulseTimes c_n_pulseEnergies c_n_sound c_n_seen c_hcount c_hp c_h0_count c_h0_front c_h0_least c_h0_window c_h0_pulses c_h0_lengths c_h0_fractions c_h0_pulseTimes c_h0_pulseEnergies c_h0_sound c_h0_seen c_h1_count c_h1_front c_h1_least c_h1_window c_h1_pulses c_h1_lengths c_h1_fractions c_h1_pulseTimes c_h1_pulseEnergies c_h1_sound c_h1_seen c_h2_count c_h2_front c_h2_least c_h2_window c_h2_pulses c_h2_lengths c_h2_fractions c_h2_pulseTimes c_h2_pulseEnergies c_h2_sound c_h2_seen c_s_length c_s_command c_s_position c_s_fault c_s_bytes c_s_numbers c_w_near c_w_far c_w_echoes c_w_totals c_p_result c_p_endTime c_q_count c_q_front c_q_least c_q_window c_q_pulses c_q_lengths c_q_fractions c_q_pulseTimes c_q_pulseEnergies c_t_near c_t_far c_t_echoes o_t_totals) :=
  MetM.of [(0, .ref (a 67)), (1, .ref (a 62))] (by decide) (Nat.le_of_ble_eq_true rfl) rfl (fun X C hret => Cb_W_addUpPulses_t_q C hret hf)
def Cf_W_setOut_t_q_109 (c_t_near : Nat → Nat → Int64) (c_t_far : Nat → Nat → Int64) (c_t_totals : Nat → Int64) : Option ((Nat → Nat → Int64) × (Nat → Nat → Int64) × (Nat → Int64)) :=
  some (c_t_near, c_t_far, c_t_totals)
set_option maxRecDepth 100000 in
set_option maxHeartbeats 4000000 in
theorem Cb_W_setOut_t_q_109 (C : Cx X (SFG E) T cX8_setOut RX8 none 8 0 0)  {o_t_near : Nat → Nat → Int64} {o_t_far : Nat → Nat → Int64} {o_t_totals : Nat → Int64} (hret : RetOK X 0 0 none (wL E a T c_waveIsFresh c_peelingIsFresh c_n_count c_n_front c_n_least c_n_window c_n_pulses c_n_lengths c_n_fractions c_n_pulseTimes c_n_pulseEnergies c_n_sound c_n_seen c_hcount c_hp c_h0_count c_h0_front c_h0_least c_h0_window c_h0_pulses c_h0_lengths c_h0_fractions c_h0_pulseTimes c_h0_pulseEnergies c_h0_sound c_h0_seen c_h1_count c_h1_front c_h1_least c_h1_window c_h1_pulses c_h1_lengths c_h1_fractions c_h1_pulseTimes c_h1_pulseEnergies c_h1_sound c_h1_seen c_h2_count c_h2_front c_h2_least c_h2_window c_h2_pulses c_h2_lengths c_h2_fractions c_h2_pulseTimes c_h2_pulseEnergies c_h2_sound c_h2_seen c_s_length c_s_command c_s_position c_s_fault c_s_bytes c_s_numbers c_w_near c_w_far c_w_echoes c_w_totals c_p_result c_p_endTime c_q_count c_q_front c_q_least c_q_window c_q_pulses c_q_lengths c_q_fractions c_q_pulseTimes c_q_pulseEnergies o_t_near o_t_far c_t_echoes o_t_totals)) (hf : Cf_W_setOut_t_q_109 c_t_near c_t_far c_t_totals = some (o_t_near, o_t_far, o_t_totals)) : V X 0 0 (wL E a T c_waveIsFresh c_peelingIsFresh c_n_count c_n_front c_n_least c_n_window c_n_pulses c_n_lengths c_n_fractions c_n_pulseTimes c_n_pulseEnergies c_n_sound c_n_seen c_hcount c_hp c_h0_count c_h0_front c_h0_least c_h0_window c_h0_pulses c_h0_lengths c_h0_fractions c_h0_pulseTimes c_h0_pulseEnergies c_h0_sound c_h0_seen c_h1_count c_h1_front c_h1_least c_h1_window c_h1_pulses c_h1_lengths c_h1_fractions c_h1_pulseTimes c_h1_pulseEnergies c_h1_sound c_h1_seen c_h2_count c_h2_front c_h2_least c_h2_window c_h2_pulses c_h2_lengths c_h2_fractions c_h2_pulseTimes c_h2_pulseEnergies c_h2_sound c_h2_seen c_s_length c_s_command c_s_position c_s_fault c_s_bytes c_s_numbers c_w_near c_w_far c_w_echoes c_w_totals c_p_result c_p_endTime c_q_count c_q_front c_q_least c_q_window c_q_pulses c_q_lengths c_q_fractions c_q_pulseTimes c_q_pulseEnergies c_t_near c_t_far c_t_echoes c_t_totals) [] 109 [] := by
  unfold Cf_W_setOut_t_q_109 at hf
  cases hf
  exact v_vret C hret dX8_setOut_109
def Cf_W_setOut_t_q (c_q_least : Int32) (c_q_window : Int32) (c_q_lengths : Nat → Int32) (c_t_near : Nat → Nat → Int64) (c_t_far : Nat → Nat → Int64) (c_t_totals : Nat → Int64) (x2 : Int32) (x3 : Int32) (x4 : Int32) (x5 : Int64) : Option ((Nat → Nat → Int64) × (Nat → Nat → Int64) × (Nat → Int64)) :=
  if x5 = (0 : Int64) then
    some (c_t_near, c_t_far, c_t_totals)
  else
    chk (inb x2 8) <| nm (c_q_lengths x2.toNatClampNeg) fun z15 =>
    nm (x4 + z15) fun z16 =>
    nm (c_q_least.toInt64) fun z25 =>
    if z25 ≤ x5 then
      if z16 ≤ c_q_window then
        if x3 = 0 then
          chk (inb x2 9) <|
          chk (inb z16 201) <| nm (va_up c_t_far x2.toNatClampNeg (vp_updL (c_t_far x2.toNatClampNeg) z16.toNatClampNeg x5)) fun t_far_108 =>
          Cf_W_setOut_t_q_109 c_t_near t_far_108 c_t_totals
        else
          nm (x2 + (1 : Int32)) fun z88 =>
          chk (inb z88 9) <|
          chk (inb z16 201) <| nm (va_up c_t_near z88.toNatClampNeg (vp_updL (c_t_near z88.toNatClampNeg) z16.toNatClampNeg x5)) fun t_near_94 =>
          Cf_W_setOut_t_q_109 t_near_94 c_t_far c_t_totals
      else
        chk (inb (4 : Int32) 9) <| nm (c_t_totals (4 : Int32).toNatClampNeg) fun z70 =>
        nm (z70 + x5) fun z73 =>
        chk (inb (4 : Int32) 9) <| nm (vp_updL c_t_totals (4 : Int32).toNatClampNeg z73) fun t_totals_74 =>
        Cf_W_setOut_t_q_109 c_t_near c_t_far t_totals_74
    else
      chk (inb (3 : Int32) 9) <| nm (c_t_totals (3 : Int32).toNatClampNeg) fun z36 =>
      nm (z36 + x5) fun z39 =>
      chk (inb (3 : Int32) 9) <| nm (vp_updL c_t_totals (3 : Int32).toNatClampNeg z39) fun t_totals_40 =>
      chk (inb (6 : Int32) 9) <| nm (t_totals_40 (6 : Int32).toNatClampNeg) fun z48 =>
      nm (z48 + (1 : Int64)) fun z50 =>
      chk (inb (6 : Int32) 9) <| nm (vp_updL t_totals_40 (6 : Int32).toNatClampNeg z50) fun t_totals_51 =>
      Cf_W_setOut_t_q_109 c_t_near c_t_far t_totals_51
set_option maxRecDepth 100000 in
set_option maxHeartbeats 4000000 in
theorem Cb_W_setOut_t_q (C : Cx X (SFG E) T cX8_setOut RX8 none 8 0 0) {x2 : Int32} {x3 : Int32} {x4 : Int32} {x5 : Int64} {o_t_near : Nat → Nat → Int64} {o_t_far : Nat → Nat → Int64} {o_t_totals : Nat → Int64} (hret : RetOK X 0 0 none (wL E a T c_waveIsFresh c_peelingIsFresh c_n_count c_n_front c_n_least c_n_window c_n_pulses c_n_lengths c_n_fractions c_n_pulseTimes c_n_pulseEnergies c_n_sound c_n_seen c_hcount c_hp c_h0_count c_h0_front c_h0_least c_h0_window c_h0_pulses c_h0_lengths c_h0_fractions c_h0_pulseTimes c_h0_pulseEnergies c_h0_sound c_h0_seen c_h1_count c_h1_front c_h1_least c_h1_window c_h1_pulses c_h1_lengths c_h1_fractions c_h1_pulseTimes c_h1_pulseEnergies c_h1_sound c_h1_seen c_h2_count c_h2_front c_h2_least c_h2_window c_h2_pulses c_h2_lengths c_h2_fractions c_h2_pulseTimes c_h2_pulseEnergies c_h2_sound c_h2_seen c_s_length c_s_command c_s_position c_s_fault c_s_bytes c_s_numbers c_w_near c_w_far c_w_echoes c_w_totals c_p_result c_p_endTime c_q_count c_q_front c_q_least c_q_window c_q_pulses c_q_lengths c_q_fractions c_q_pulseTimes c_q_pulseEnergies o_t_near o_t_far c_t_echoes o_t_totals)) (hf : Cf_W_setOut_t_q c_q_least c_q_window c_q_lengths c_t_near c_t_far c_t_totals x2 x3 x4 x5 = some (o_t_near, o_t_far, o_t_totals)) : V X 0 0 (wL E a T c_waveIsFresh c_peelingIsFresh c_n_count c_n_front c_n_least c_n_window c_n_pulses c_n_lengths c_n_fractions c_n_pulseTimes c_n_pulseEnergies c_n_sound c_n_seen c_hcount c_hp c_h0_count c_h0_front c_h0_least c_h0_window c_h0_pulses c_h0_lengths c_h0_fractions c_h0_pulseTimes c_h0_pulseEnergies c_h0_sound c_h0_seen c_h1_count c_h1_front c_h1_least c_h1_window c_h1_pulses c_h1_lengths c_h1_fractions c_h1_pulseTimes c_h1_pulseEnergies c_h1_sound c_h1_seen c_h2_count c_h2_front c_h2_least c_h2_window c_h2_pulses c_h2_lengths c_h2_fractions c_h2_pulseTimes c_h2_pulseEnergies c_h2_sound c_h2_seen c_s_length c_s_command c_s_position c_s_fault c_s_bytes c_s_numbers c_w_near c_w_far c_w_echoes c_w_totals c_p_result c_p_endTime c_q_count c_q_front c_q_least c_q_window c_q_pulses c_q_lengths c_q_fractions c_q_pulseTimes c_q_pulseEnergies c_t_near c_t_far c_t_echoes c_t_totals) [(0, .ref (a 67)), (1, .ref (a 62)), (2, .int x2), (3, .int x3), (4, .int x4), (5, .long x5)] 0 [] := by
  unfold Cf_W_setOut_t_q at hf
  refine v_lload 5 C dX8_setOut_0 rfl ?_
  refine v_lconst (v := 0) C dX8_setOut_2 (by decide) ?_
  refine v_lcmp_ne 8 C dX8_setOut_3 dX8_setOut_4 (by decide) hf (fun c hf => ?_) (fun c hf => ?_)
  · cases hf
    exact v_vret C hret dX8_setOut_7
  · refine v_iload 4 C dX8_setOut_8 rfl ?_
    refine v_aload_n 1 C dX8_setOut_10 rfl rfl ?_
    refine Cg_62_lengths wfieldLink_RX8_93_LineEchoes_Bench_lengths_I C dX8_setOut_11 ?_
    refine v_iload_n 2 C dX8_setOut_14 rfl rfl ?_
    refine Cal_63 C dX8_setOut_15 hf (fun z15 hf => ?_)
    refine v_iadd C dX8_setOut_16 hf (fun z16 hf => ?_)
    refine v_istore [(0, .ref (a 67)), (1, .ref (a 62)), (2, .int x2), (3, .int x3), (5, .long x5), (7, .int z16)] [1, 2, 3, 4, 6, 0] C dX8_setOut_17 (by decide) rfl ?_
    refine v_lload 4 C dX8_setOut_19 rfl ?_
    refine v_aload_n 1 C dX8_setOut_21 rfl rfl ?_
    refine Cg_62_least wfieldLink_RX8_96_LineEchoes_Bench_least_I C dX8_setOut_22 ?_
    refine v_i2l C dX8_setOut_25 hf (fun z25 hf => ?_)
    refine v_lcmp_ge 55 C dX8_setOut_26 dX8_setOut_27 (by decide) hf (fun c hf => ?_) (fun c hf => ?_)
    · refine v_iload 5 C dX8_setOut_55 rfl ?_
      refine v_aload_n 1 C dX8_setOut_57 rfl rfl ?_
      refine Cg_62_window wfieldLink_RX8_39_LineEchoes_Bench_window_I C dX8_setOut_58 ?_
      refine v_icmp_le 78 C dX8_setOut_61 (by decide) hf (fun c hf => ?_) (fun c hf => ?_)
      · refine v_iload_n 3 C dX8_setOut_78 rfl rfl ?_
        refine v_if_eq 98 C dX8_setOut_79 (by decide) hf (fun c hf => ?_) (fun c hf => ?_)
        · refine v_aload_n 0 C dX8_setOut_98 rfl rfl ?_
          refine Cg_67_fromFar wfieldLink_RX8_16_LineEchoes_Wave_fromFar_J C dX8_setOut_99 ?_
          refine v_iload_n 2 C dX8_setOut_102 rfl rfl ?_
          refine Cao_69 C dX8_setOut_103 hf (fun hj103 hf => ?_)
          refine v_iload 5 C dX8_setOut_104 rfl ?_
          refine v_lload 4 C dX8_setOut_106 rfl ?_
          refine Crs_81 hj103 C dX8_setOut_108 hf (fun t_far_108 hf => ?_)
          refine v_lv [] [] rfl ?_
          exact Cb_W_setOut_t_q_109 C hret hf
        · refine v_aload_n 0 C dX8_setOut_82 rfl rfl ?_
          refine Cg_67_fromNear wfieldLink_RX8_11_LineEchoes_Wave_fromNear_J C dX8_setOut_83 ?_
          refine v_iload_n 2 C dX8_setOut_86 rfl rfl ?_
          refine v_iconst (v := 1) C dX8_setOut_87 (by decide) ?_
          refine v_iadd C dX8_setOut_88 hf (fun z88 hf => ?_)
          refine Cao_68 C dX8_setOut_89 hf (fun hj89 hf => ?_)
          refine v_iload 5 C dX8_setOut_90 rfl ?_
          refine v_lload 4 C dX8_setOut_92 rfl ?_
          refine Crs_72 hj89 C dX8_setOut_94 hf (fun t_near_94 hf => ?_)
          refine v_goto 109 C dX8_setOut_95 (by decide) ?_
          refine v_lv [] [] rfl ?_
          exact Cb_W_setOut_t_q_109 C hret hf
      · refine v_aload_n 0 C dX8_setOut_64 rfl rfl ?_
        refine Cg_67_totals wfieldLink_RX8_23_LineEchoes_Wave_totals_J C dX8_setOut_65 ?_
        refine v_iconst (v := 4) C dX8_setOut_68 (by decide) ?_
        refine v_dup2_11 C dX8_setOut_69 rfl rfl ?_
        refine Cal_71 C dX8_setOut_70 hf (fun z70 hf => ?_)
        refine v_lload 4 C dX8_setOut_71 rfl ?_
        refine v_ladd C dX8_setOut_73 hf (fun z73 hf => ?_)
        refine Cas_71 C dX8_setOut_74 hf (fun t_totals_74 hf => ?_)
        refine v_goto 109 C dX8_setOut_75 (by decide) ?_
        refine v_lv [] [] rfl ?_
        exact Cb_W_setOut_t_q_109 C hret hf
    · refine v_aload_n 0 C dX8_setOut_30 rfl rfl ?_
      refine Cg_67_totals wfieldLink_RX8_23_LineEchoes_Wave_totals_J C dX8_setOut_31 ?_
      refine v_iconst (v := 3) C dX8_setOut_34 (by decide) ?_
      refine v_dup2_11 C dX8_setOut_35 rfl rfl ?_
      refine Cal_71 C dX8_setOut_36 hf (fun z36 hf => ?_)
      refine v_lload 4 C dX8_setOut_37 rfl ?_
      refine v_ladd C dX8_setOut_39 hf (fun z39 hf => ?_)
      refine Cas_71 C dX8_setOut_40 hf (fun t_totals_40 hf => ?_)
      refine v_aload_n 0 C dX8_setOut_41 rfl rfl ?_
      refine Cg_67_totals wfieldLink_RX8_23_LineEchoes_Wave_totals_J C dX8_setOut_42 ?_
      refine v_bipush (v := 6) C dX8_setOut_45 (by decide) ?_
      refine v_dup2_11 C dX8_setOut_47 rfl rfl ?_
      refine Cal_71 C dX8_setOut_48 hf (fun z48 hf => ?_)
      refine v_lconst (v := 1) C dX8_setOut_49 (by decide) ?_
      refine v_ladd C dX8_setOut_50 hf (fun z50 hf => ?_)
      refine Cas_71 C dX8_setOut_51 hf (fun t_totals_51 hf => ?_)
      refine v_goto 109 C dX8_setOut_52 (by decide) ?_
      refine v_lv [] [] rfl ?_
      exact Cb_W_setOut_t_q_109 C hret hf
set_option maxRecDepth 100000 in
set_option maxHeartbeats 4000000 in
theorem Cm_W_setOut_t_q {D : va_G} {x2 : Int32} {x3 : Int32} {x4 : Int32} {x5 : Int64} {o_t_near : Nat → Nat → Int64} {o_t_far : Nat → Nat → Int64} {o_t_totals : Nat → Int64} (hf : Cf_W_setOut_t_q c_q_least c_q_window c_q_lengths c_t_near c_t_far c_t_totals x2 x3 x4 x5 = some (o_t_near, o_t_far, o_t_totals)) : MetM (SFG E) yX8_setOut cX8_setOut 8 none { frames := 0, cells := 0, slots := 0, locals := 0 } D T [.ref (a 67), .ref (a 62), .int x2, .int x3, .int x4, .long x5] (wL E a T c_waveIsFresh c_peelingIsFresh c_n_count c_n_front c_n_least c_n_window c_n_pulses c_n_lengths c_n_fractions c_n_pulseTimes c_n_pulseEnergies c_n_sound c_n_seen c_hcount c_hp c_h0_count c_h0_front c_h0_least c_h0_window c_h0_pulses c_h0_lengths c_h0_fractions c_h0_pulseTimes c_h0_pulseEnergies c_h0_sound c_h0_seen c_h1_count c_h1_front c_h1_least c_h1_window c_h1_pulses c_h1_lengths c_h1_fractions c_h1_pulseTimes c_h1_pulseEnergies c_h1_sound c_h1_seen c_h2_count c_h2_front c_h2_least c_h2_window c_h2_pulses c_h2_lengths c_h2_fractions c_h2_pulseTimes c_h2_pulseEnergies c_h2_sound c_h2_seen c_s_length c_s_command c_s_position c_s_fault c_s_bytes c_s_numbers c_w_near c_w_far c_w_echoes c_w_totals c_p_result c_p_endTime c_q_count c_q_front c_q_least c_q_window c_q_pulses c_q_lengths c_q_fractions c_q_pulseTimes c_q_pulseEnergies c_t_near c_t_far c_t_echoes c_t_totals) none (wL E a T c_waveIsFresh c_peelingIsFresh c_n_count c_n_front c_n_least c_n_window c_n_pulses c_n_lengths c_n_fractions c_n_pulseTimes c_n_pulseEnergies c_n_sound c_n_seen c_hcount c_hp c_h0_count c_h0_front c_h0_least c_h0_window c_h0_pulses c_h0_lengths c_h0_fractions c_h0_pulseTimes c_h0_pulseEnergies c_h0_sound c_h0_seen c_h1_count c_h1_front c_h1_least c_h1_window c_h1_pulses c_h1_lengths c_h1_fractions c_h1_pulseTimes c_h1_pulseEnergies c_h1_sound c_h1_seen c_h2_count c_h2_front c_h2_least c_h2_window c_h2_pulses c_h2_lengths c_h2_fractions c_h2_pulseTimes c_h2_pulseEnergies c_h2_sound c_h2_seen c_s_length c_s_command c_s_position c_s_fault c_s_bytes c_s_numbers c_w_near c_w_far c_w_echoes c_w_totals c_p_result c_p_endTime c_q_count c_q_front c_q_least c_q_window c_q_pulses c_q_lengths c_q_fractions c_q_pulseTimes c_q_pulseEnergies o_t_near o_t_far c_t_echoes o_t_totals) :=
  MetM.of [(0, .ref (a 67)), (1, .ref (a 62)), (2, .int x2), (3, .int x3), (4, .int x4), (5, .long x5)] (by decide) (Nat.le_of_ble_eq_true rfl) rfl (fun X C hret => Cb_W_setOut_t_q C hret hf)
def Cf_W_meetFront_t_q_82 (rec : Int64 → Int32 → Int32 → Option (Int64 × Int32)) (x2 : Int32) (x5 : Int64) (x7 : Int32) (x8 : Int32) : Option (Int64 × Int32) :=
  nm (x8 + (1 : Int32)) fun x8_82 =>
  rec x5 x7 x8_82
set_option maxRecDepth 100000 in
set_option maxHeartbeats 4000000 in
theorem Cb_W_meetFront_t_q_82 (C : Cx X (SFG E) T cX8_meetFront RX8 none 9 1 27) {rec : Int64 → Int32 → Int32 → Option (Int64 × Int32)} {x2 : Int32} {x5 : Int64} {x7 : Int32} {x8 : Int32} {y5 : Int64} {y7 : Int32} (hrec : ∀ (x5 : Int64) (x7 : Int32) (x8 : Int32), rec x5 x7 x8 = some (y5, y7) → V X 0 0 (wL E a T c_waveIsFresh c_peelingIsFresh c_n_count c_n_front c_n_least c_n_window c_n_pulses c_n_lengths c_n_fractions c_n_pulseTimes c_n_pulseEnergies c_n_sound c_n_seen c_hcount c_hp c_h0_count c_h0_front c_h0_least c_h0_window c_h0_pulses c_h0_lengths c_h0_fractions c_h0_pulseTimes c_h0_pulseEnergies c_h0_sound c_h0_seen c_h1_count c_h1_front c_h1_least c_h1_window c_h1_pulses c_h1_lengths c_h1_fractions c_h1_pulseTimes c_h1_pulseEnergies c_h1_sound c_h1_seen c_h2_count c_h2_front c_h2_least c_h2_window c_h2_pulses c_h2_lengths c_h2_fractions c_h2_pulseTimes c_h2_pulseEnergies c_h2_sound c_h2_seen c_s_length c_s_command c_s_position c_s_fault c_s_bytes c_s_numbers c_w_near c_w_far c_w_echoes c_w_totals c_p_result c_p_endTime c_q_count c_q_front c_q_least c_q_window c_q_pulses c_q_lengths c_q_fractions c_q_pulseTimes c_q_pulseEnergies c_t_near c_t_far c_t_echoes c_t_totals) [(0, .ref (a 67)), (1, .ref (a 62)), (2, .int x2), (5, .long x5), (7, .int x7), (8, .int x8)] 46 []) (hk : V X 0 0 (wL E a T c_waveIsFresh c_peelingIsFresh c_n_count c_n_front c_n_least c_n_window c_n_pulses c_n_lengths c_n_fractions c_n_pulseTimes c_n_pulseEnergies c_n_sound c_n_seen c_hcount c_hp c_h0_count c_h0_front c_h0_least c_h0_window c_h0_pulses c_h0_lengths c_h0_fractions c_h0_pulseTimes c_h0_pulseEnergies c_h0_sound c_h0_seen c_h1_count c_h1_front c_h1_least c_h1_window c_h1_pulses c_h1_lengths c_h1_fractions c_h1_pulseTimes c_h1_pulseEnergies c_h1_sound c_h1_seen c_h2_count c_h2_front c_h2_least c_h2_window c_h2_pulses c_h2_lengths c_h2_fractions c_h2_pulseTimes c_h2_pulseEnergies c_h2_sound c_h2_seen c_s_length c_s_command c_s_position c_s_fault c_s_bytes c_s_numbers c_w_near c_w_far c_w_echoes c_w_totals c_p_result c_p_endTime c_q_count c_q_front c_q_least c_q_window c_q_pulses c_q_lengths c_q_fractions c_q_pulseTimes c_q_pulseEnergies c_t_near c_t_far c_t_echoes c_t_totals) [(0, .ref (a 67)), (1, .ref (a 62)), (2, .int x2), (5, .long y5), (7, .int y7)] 88 []) (hf : Cf_W_meetFront_t_q_82 rec x2 x5 x7 x8 = some (y5, y7)) : V X 0 0 (wL E a T c_waveIsFresh c_peelingIsFresh c_n_count c_n_front c_n_least c_n_window c_n_pulses c_n_lengths c_n_fractions c_n_pulseTimes c_n_pulseEnergies c_n_sound c_n_seen c_hcount c_hp c_h0_count c_h0_front c_h0_least c_h0_window c_h0_pulses c_h0_lengths c_h0_fractions c_h0_pulseTimes c_h0_pulseEnergies c_h0_sound c_h0_seen c_h1_count c_h1_front c_h1_least c_h1_window c_h1_pulses c_h1_lengths c_h1_fractions c_h1_pulseTimes c_h1_pulseEnergies c_h1_sound c_h1_seen c_h2_count c_h2_front c_h2_least c_h2_window c_h2_pulses c_h2_lengths c_h2_fractions c_h2_pulseTimes c_h2_pulseEnergies c_h2_sound c_h2_seen c_s_length c_s_command c_s_position c_s_fault c_s_bytes c_s_numbers c_w_near c_w_far c_w_echoes c_w_totals c_p_result c_p_endTime c_q_count c_q_front c_q_least c_q_window c_q_pulses c_q_lengths c_q_fractions c_q_pulseTimes c_q_pulseEnergies c_t_near c_t_far c_t_echoes c_t_totals) [(0, .ref (a 67)), (1, .ref (a 62)), (2, .int x2), (5, .long x5), (7, .int x7), (8, .int x8)] 82 [] := by
  unfold Cf_W_meetFront_t_q_82 at hf
  refine v_iinc (fun x8_82 => [(0, .ref (a 67)), (1, .ref (a 62)), (2, .int x2), (5, .long x5), (7, .int x7), (8, .int x8_82)]) [1, 2, 3, 4, 5, 0] C dX8_meetFront_82 (j := 5) rfl (dv := 1) (by decide) (by decide) (fun _ => rfl) hf (fun x8_82 hf => ?_)
  refine v_goto 46 C dX8_meetFront_85 (by decide) ?_
  exact hrec _ _ _ hf
def Cl_W_meetFront_t_q_46 (c_q_pulses : Int32) (c_q_pulseTimes : Nat → Int32) (c_q_pulseEnergies : Nat → Int32) (x2 : Int32) : Nat → Int64 → Int32 → Int32 → Option (Int64 × Int32)
  | 0, _, _, _ => none
  | n + 1, x5, x7, x8 =>
    if c_q_pulses ≤ x8 then
      some (x5, x7)
    else
      chk (inb x8 4) <| nm (c_q_pulseTimes x8.toNatClampNeg) fun z61 =>
      if z61 = x2 then
        chk (inb x8 4) <| nm (c_q_pulseEnergies x8.toNatClampNeg) fun z74 =>
        nm (z74.toInt64) fun z75 =>
        nm (x5 + z75) fun z76 =>
        nm (x7 + (1 : Int32)) fun x7_79 =>
        Cf_W_meetFront_t_q_82 (Cl_W_meetFront_t_q_46 c_q_pulses c_q_pulseTimes c_q_pulseEnergies x2 n) x2 z76 x7_79 x8
      else
        Cf_W_meetFront_t_q_82 (Cl_W_meetFront_t_q_46 c_q_pulses c_q_pulseTimes c_q_pulseEnergies x2 n) x2 x5 x7 x8
set_option maxRecDepth 100000 in
set_option maxHeartbeats 4000000 in
theorem Ck_W_meetFront_t_q_46 (C : Cx X (SFG E) T cX8_meetFront RX8 none 9 1 27) {x2 : Int32} {y5 : Int64} {y7 : Int32} (hk : V X 0 0 (wL E a T c_waveIsFresh c_peelingIsFresh c_n_count c_n_front c_n_least c_n_window c_n_pulses c_n_lengths c_n_fractions c_n_pulseTimes c_n_pulseEnergies c_n_sound c_n_seen c_hcount c_hp c_h0_count c_h0_front c_h0_least c_h0_window c_h0_pulses c_h0_lengths c_h0_fractions c_h0_pulseTimes c_h0_pulseEnergies c_h0_sound c_h0_seen c_h1_count c_h1_front c_h1_least c_h1_window c_h1_pulses c_h1_lengths c_h1_fractions c_h1_pulseTimes c_h1_pulseEnergies c_h1_sound c_h1_seen c_h2_count c_h2_front c_h2_least c_h2_window c_h2_pulses c_h2_lengths c_h2_fractions c_h2_pulseTimes c_h2_pulseEnergies c_h2_sound c_h2_seen c_s_length c_s_command c_s_position c_s_fault c_s_bytes c_s_numbers c_w_near c_w_far c_w_echoes c_w_totals c_p_result c_p_endTime c_q_count c_q_front c_q_least c_q_window c_q_pulses c_q_lengths c_q_fractions c_q_pulseTimes c_q_pulseEnergies c_t_near c_t_far c_t_echoes c_t_totals) [(0, .ref (a 67)), (1, .ref (a 62)), (2, .int x2), (5, .long y5), (7, .int y7)] 88 []) : ∀ (n : Nat) (x5 : Int64) (x7 : Int32) (x8 : Int32), Cl_W_meetFront_t_q_46 c_q_pulses c_q_pulseTimes c_q_pulseEnergies x2 n x5 x7 x8 = some (y5, y7) → V X 0 0 (wL E a T c_waveIsFresh c_peelingIsFresh c_n_count c_n_front c_n_least c_n_window c_n_pulses c_n_lengths c_n_fractions c_n_pulseTimes c_n_pulseEnergies c_n_sound c_n_seen c_hcount c_hp c_h0_count c_h0_front c_h0_least c_h0_window c_h0_pulses c_h0_lengths c_h0_fractions c_h0_pulseTimes c_h0_pulseEnergies c_h0_sound c_h0_seen c_h1_count c_h1_front c_h1_least c_h1_window c_h1_pulses c_h1_lengths c_h1_fractions c_h1_pulseTimes c_h1_pulseEnergies c_h1_sound c_h1_seen c_h2_count c_h2_front c_h2_least c_h2_window c_h2_pulses c_h2_lengths c_h2_fractions c_h2_pulseTimes c_h2_pulseEnergies c_h2_sound c_h2_seen c_s_length c_s_command c_s_position c_s_fault c_s_bytes c_s_numbers c_w_near c_w_far c_w_echoes c_w_totals c_p_result c_p_endTime c_q_count c_q_front c_q_least c_q_window c_q_pulses c_q_lengths c_q_fractions c_q_pulseTimes c_q_pulseEnergies c_t_near c_t_far c_t_echoes c_t_totals) [(0, .ref (a 67)), (1, .ref (a 62)), (2, .int x2), (5, .long x5), (7, .int x7), (8, .int x8)] 46 [] := by
  intro n
  induction n with
  | zero =>
    intro _ _ _ hf
    cases hf
  | succ n hrec =>
    intro x5 x7 x8 hf
    rw [Cl_W_meetFront_t_q_46] at hf
    refine v_iload 5 C dX8_meetFront_46 rfl ?_
    refine v_aload_n 1 C dX8_meetFront_48 rfl rfl ?_
    refine Cg_62_pulses wfieldLink_RX8_59_LineEchoes_Bench_pulses_I C dX8_meetFront_49 ?_
    refine v_icmp_ge 88 C dX8_meetFront_52 (by decide) hf (fun c hf => ?_) (fun c hf => ?_)
    · refine v_lv [(0, .ref (a 67)), (1, .ref (a 62)), (2, .int x2), (5, .long x5), (7, .int x7)] [0, 1, 2, 3, 4] rfl ?_
      cases hf
      exact hk
    · refine v_aload_n 1 C dX8_meetFront_55 rfl rfl ?_
      refine Cg_62_pulseTimes wfieldLink_RX8_62_LineEchoes_Bench_pulseTimes_I C dX8_meetFront_56 ?_
      refine v_iload 5 C dX8_meetFront_59 rfl ?_
      refine Cal_65 C dX8_meetFront_61 hf (fun z61 hf => ?_)
      refine v_iload_n 2 C dX8_meetFront_62 rfl rfl ?_
      refine v_icmp_ne 82 C dX8_meetFront_63 (by decide) hf (fun c hf => ?_) (fun c hf => ?_)
      · refine v_lload 3 C dX8_meetFront_66 rfl ?_
        refine v_aload_n 1 C dX8_meetFront_68 rfl rfl ?_
        refine Cg_62_pulseEnergies wfieldLink_RX8_66_LineEchoes_Bench_pulseEnergies_I C dX8_meetFront_69 ?_
        refine v_iload 5 C dX8_meetFront_72 rfl ?_
        refine Cal_66 C dX8_meetFront_74 hf (fun z74 hf => ?_)
        refine v_i2l C dX8_meetFront_75 hf (fun z75 hf => ?_)
        refine v_ladd C dX8_meetFront_76 hf (fun z76 hf => ?_)
        refine v_lstore [(0, .ref (a 67)), (1, .ref (a 62)), (2, .int x2), (5, .long z76), (7, .int x7), (8, .int x8)] [1, 2, 3, 0, 4, 5] C dX8_meetFront_77 (by decide) rfl ?_
        refine v_iinc (fun x7_79 => [(0, .ref (a 67)), (1, .ref (a 62)), (2, .int x2), (5, .long z76), (7, .int x7_79), (8, .int x8)]) [1, 2, 3, 4, 0, 5] C dX8_meetFront_79 (j := 4) rfl (dv := 1) (by decide) (by decide) (fun _ => rfl) hf (fun x7_79 hf => ?_)
        exact Cb_W_meetFront_t_q_82 C hrec hk hf
      · exact Cb_W_meetFront_t_q_82 C hrec hk hf
set_option maxRecDepth 100000 in
theorem Cc_W_setOut_t_q {x2 : Int32} {x3 : Int32} {x4 : Int32} {x5 : Int64} {cc : ByteArray} {own : String} {ret : Option FieldType} {nl fr lo pc ix : Nat} {lv : List (Nat × Value)} {rest : List Value} {β : Type} {K : ((Nat → Nat → Int64) × (Nat → Nat → Int64) × (Nat → Int64)) → Option β} {oo : β} (hl : Cond.methodLink own ix yX8_setOut ∈ wsG) (C : Cx X (SFG E) T cc own ret nl fr lo) (hdg : decode cc pc = .ok (.invokevirtual ix, 3)) (hroom : 0 + 1 ≤ fr ∧ 8 + (8 + 11) + 0 ≤ lo) (hst : (rest.map fun v => v.category).sum ≤ 8) (hf : bd (Cf_W_setOut_t_q c_q_least c_q_window c_q_lengths c_t_near c_t_far c_t_totals x2 x3 x4 x5) K = some oo) (kk : ∀ (o_t_near : Nat → Nat → Int64) (o_t_far : Nat → Nat → Int64) (o_t_totals : Nat → Int64), K (o_t_near, o_t_far, o_t_totals) = some oo → V X 0 0 (wL E a T c_waveIsFresh c_peelingIsFresh c_n_count c_n_front c_n_least c_n_window c_n_pulses c_n_lengths c_n_fractions c_n_pulseTimes c_n_pulseEnergies c_n_sound c_n_seen c_hcount c_hp c_h0_count c_h0_front c_h0_least c_h0_window c_h0_pulses c_h0_lengths c_h0_fractions c_h0_pulseTimes c_h0_pulseEnergies c_h0_sound c_h0_seen c_h1_count c_h1_front c_h1_least c_h1_window c_h1_pulses c_h1_lengths c_h1_fractions c_h1_pulseTimes c_h1_pulseEnergies c_h1_sound c_h1_seen c_h2_count c_h2_front c_h2_least c_h2_window c_h2_pulses c_h2_lengths c_h2_fractions c_h2_pulseTimes c_h2_pulseEnergies c_h2_sound c_h2_seen c_s_length c_s_command c_s_position c_s_fault c_s_bytes c_s_numbers c_w_near c_w_far c_w_echoes c_w_totals c_p_result c_p_endTime c_q_count c_q_front c_q_least c_q_window c_q_pulses c_q_lengths c_q_fractions c_q_pulseTimes c_q_pulseEnergies o_t_near o_t_far c_t_echoes o_t_totals) lv (pc + 3) rest) : V X 0 0 (wL E a T c_waveIsFresh c_peelingIsFresh c_n_count c_n_front c_n_least c_n_window c_n_pulses c_n_lengths c_n_fractions c_n_pulseTimes c_n_pulseEnergies c_n_sound c_n_seen c_hcount c_hp c_h0_count c_h0_front c_h0_least c_h0_window c_h0_pulses c_h0_lengths c_h0_fractions c_h0_pulseTimes c_h0_pulseEnergies c_h0_sound c_h0_seen c_h1_count c_h1_front c_h1_least c_h1_window c_h1_pulses c_h1_lengths c_h1_fractions c_h1_pulseTimes c_h1_pulseEnergies c_h1_sound c_h1_seen c_h2_count c_h2_front c_h2_least c_h2_window c_h2_pulses c_h2_lengths c_h2_fractions c_h2_pulseTimes c_h2_pulseEnergies c_h2_sound c_h2_seen c_s_length c_s_command c_s_position c_s_fault c_s_bytes c_s_numbers c_w_near c_w_far c_w_echoes c_w_totals c_p_result c_p_endTime c_q_count c_q_front c_q_least c_q_window c_q_pulses c_q_lengths c_q_fractions c_q_pulseTimes c_q_pulseEnergies c_t_near c_t_far c_t_echoes c_t_totals) lv pc (.long x5 :: .int x4 :: .int x3 :: .int x2 :: .ref (a 62) :: .ref (a 67) :: rest) := by
  obtain ⟨⟨o_t_near, o_t_far, o_t_totals⟩, hc, hk⟩ := bd_some hf
  exact v_callV (As := [.ref (a 62), .int x2, .int x3, .int x4, .long x5]) (rest := rest) (q0 := 67) 5 C (CapOK.z X) (fun D => Cm_W_setOut_t_q hc) (goodV hl winstanceMethod_yX8_setOut wselects_RX8_yX8_setOut_yX8_setOut winitialized_RX8 wcode_yX8_setOut_cX8_setOut_8_none) (by decide +kernel) hroom ⟨rfl, rfl⟩ rfl rfl rfl hst hdg (kk o_t_near o_t_far o_t_totals hk)
def Cf_W_meetFront_t_q_104 (c_q_least : Int32) (c_q_window : Int32) (c_q_lengths : Nat → Int32) (c_t_near : Nat → Nat → Int64) (c_t_far : Nat → Nat → Int64) (c_t_echoes : Nat → Int64) (c_t_totals : Nat → Int64) (x2 : Int32) (x5 : Int64) : Option ((Nat → Nat → Int64) × (Nat → Nat → Int64) × (Nat → Int64) × (Nat → Int64)) :=
  bd (Cf_W_setOut_t_q c_q_least c_q_window c_q_lengths c_t_near c_t_far c_t_totals (0 : Int32) (1 : Int32) x2 x5) fun (t_near_111, t_far_111, t_totals_111) =>
  some (t_near_111, t_far_111, c_t_echoes, t_totals_111)
set_option maxRecDepth 100000 in
set_option maxHeartbeats 4000000 in
theorem Cb_W_meetFront_t_q_104 (C : Cx X (SFG E) T cX8_meetFront RX8 none 9 1 27) {x2 : Int32} {x5 : Int64} {o_t_near : Nat → Nat → Int64} {o_t_far : Nat → Nat → Int64} {o_t_echoes : Nat → Int64} {o_t_totals : Nat → Int64} (hret : RetOK X 0 0 none (wL E a T c_waveIsFresh c_peelingIsFresh c_n_count c_n_front c_n_least c_n_window c_n_pulses c_n_lengths c_n_fractions c_n_pulseTimes c_n_pulseEnergies c_n_sound c_n_seen c_hcount c_hp c_h0_count c_h0_front c_h0_least c_h0_window c_h0_pulses c_h0_lengths c_h0_fractions c_h0_pulseTimes c_h0_pulseEnergies c_h0_sound c_h0_seen c_h1_count c_h1_front c_h1_least c_h1_window c_h1_pulses c_h1_lengths c_h1_fractions c_h1_pulseTimes c_h1_pulseEnergies c_h1_sound c_h1_seen c_h2_count c_h2_front c_h2_least c_h2_window c_h2_pulses c_h2_lengths c_h2_fractions c_h2_pulseTimes c_h2_pulseEnergies c_h2_sound c_h2_seen c_s_length c_s_command c_s_position c_s_fault c_s_bytes c_s_numbers c_w_near c_w_far c_w_echoes c_w_totals c_p_result c_p_endTime c_q_count c_q_front c_q_least c_q_window c_q_pulses c_q_lengths c_q_fractions c_q_pulseTimes c_q_pulseEnergies o_t_near o_t_far o_t_echoes o_t_totals)) (hf : Cf_W_meetFront_t_q_104 c_q_least c_q_window c_q_lengths c_t_near c_t_far c_t_echoes c_t_totals x2 x5 = some (o_t_near, o_t_far, o_t_echoes, o_t_totals)) : V X 0 0 (wL E a T c_waveIsFresh c_peelingIsFresh c_n_count c_n_front c_n_least c_n_window c_n_pulses c_n_lengths c_n_fractions c_n_pulseTimes c_n_pulseEnergies c_n_sound c_n_seen c_hcount c_hp c_h0_count c_h0_front c_h0_least c_h0_window c_h0_pulses c_h0_lengths c_h0_fractions c_h0_pulseTimes c_h0_pulseEnergies c_h0_sound c_h0_seen c_h1_count c_h1_front c_h1_least c_h1_window c_h1_pulses c_h1_lengths c_h1_fractions c_h1_pulseTimes c_h1_pulseEnergies c_h1_sound c_h1_seen c_h2_count c_h2_front c_h2_least c_h2_window c_h2_pulses c_h2_lengths c_h2_fractions c_h2_pulseTimes c_h2_pulseEnergies c_h2_sound c_h2_seen c_s_length c_s_command c_s_position c_s_fault c_s_bytes c_s_numbers c_w_near c_w_far c_w_echoes c_w_totals c_p_result c_p_endTime c_q_count c_q_front c_q_least c_q_window c_q_pulses c_q_lengths c_q_fractions c_q_pulseTimes c_q_pulseEnergies c_t_near c_t_far c_t_echoes c_t_totals) [(0, .ref (a 67)), (1, .ref (a 62)), (2, .int x2), (5, .long x5)] 104 [] := by
  unfold Cf_W_meetFront_t_q_104 at hf
  refine v_aload_n 0 C dX8_meetFront_104 rfl rfl ?_
  refine v_aload_n 1 C dX8_meetFront_105 rfl rfl ?_
  refine v_iconst (v := 0) C dX8_meetFront_106 (by decide) ?_
  refine v_iconst (v := 1) C dX8_meetFront_107 (by decide) ?_
  refine v_iload_n 2 C dX8_meetFront_108 rfl rfl ?_
  refine v_lload 3 C dX8_meetFront_109 rfl ?_
  refine Cc_W_setOut_t_q wmethodLink_RX8_82_yX8_setOut C dX8_meetFront_111 (by decide) (Nat.le_of_ble_eq_true rfl) hf (fun t_near_111 t_far_111 t_totals_111 hf => ?_)
  cases hf
  exact v_vret C hret dX8_meetFront_114
def Cf_W_meetFront_t_q_31 (c_q_least : Int32) (c_q_window : Int32) (c_q_pulses : Int32) (c_q_lengths : Nat → Int32) (c_q_pulseTimes : Nat → Int32) (c_q_pulseEnergies : Nat → Int32) (c_t_near : Nat → Nat → Int64) (c_t_far : Nat → Nat → Int64) (c_t_echoes : Nat → Int64) (c_t_totals : Nat → Int64) (x2 : Int32) (x3 : Int64) (x5 : Int64) (s0 : Int32) : Option ((Nat → Nat → Int64) × (Nat → Nat → Int64) × (Nat → Int64) × (Nat → Int64)) :=
  nm (x3 - x5) fun z41 =>
  chk (inb x2 201) <| nm (vp_updL c_t_echoes x2.toNatClampNeg z41) fun t_echoes_42 =>
  bd (Cl_W_meetFront_t_q_46 c_q_pulses c_q_pulseTimes c_q_pulseEnergies x2 FUEL x5 s0 (0 : Int32)) fun (y5_46, y7_46) =>
  if y7_46 ≤ (1 : Int32) then
    Cf_W_meetFront_t_q_104 c_q_least c_q_window c_q_lengths c_t_near c_t_far t_echoes_42 c_t_totals x2 y5_46
  else
    chk (inb (5 : Int32) 9) <| nm (c_t_totals (5 : Int32).toNatClampNeg) fun z100 =>
    nm (z100 + (1 : Int64)) fun z102 =>
    chk (inb (5 : Int32) 9) <| nm (vp_updL c_t_totals (5 : Int32).toNatClampNeg z102) fun t_totals_103 =>
    Cf_W_meetFront_t_q_104 c_q_least c_q_window c_q_lengths c_t_near c_t_far t_echoes_42 t_totals_103 x2 y5_46
set_option maxRecDepth 100000 in
set_option maxHeartbeats 4000000 in
theorem Cb_W_meetFront_t_q_31 (C : Cx X (SFG E) T cX8_meetFront RX8 none 9 1 27) {x2 : Int32} {x3 : Int64} {x5 : Int64} {s0 : Int32} {o_t_near : Nat → Nat → Int64} {o_t_far : Nat → Nat → Int64} {o_t_echoes : Nat → Int64} {o_t_totals : Nat → Int64} (hret : RetOK X 0 0 none (wL E a T c_waveIsFresh c_peelingIsFresh c_n_count c_n_front c_n_least c_n_window c_n_pulses c_n_lengths c_n_fractions c_n_pulseTimes c_n_pulseEnergies c_n_sound c_n_seen c_hcount c_hp c_h0_count c_h0_front c_h0_least c_h0_window c_h0_pulses c_h0_lengths c_h0_fractions c_h0_pulseTimes c_h0_pulseEnergies c_h0_sound c_h0_seen c_h1_count c_h1_front c_h1_least c_h1_window c_h1_pulses c_h1_lengths c_h1_fractions c_h1_pulseTimes c_h1_pulseEnergies c_h1_sound c_h1_seen c_h2_count c_h2_front c_h2_least c_h2_window c_h2_pulses c_h2_lengths c_h2_fractions c_h2_pulseTimes c_h2_pulseEnergies c_h2_sound c_h2_seen c_s_length c_s_command c_s_position c_s_fault c_s_bytes c_s_numbers c_w_near c_w_far c_w_echoes c_w_totals c_p_result c_p_endTime c_q_count c_q_front c_q_least c_q_window c_q_pulses c_q_lengths c_q_fractions c_q_pulseTimes c_q_pulseEnergies o_t_near o_t_far o_t_echoes o_t_totals)) (hf : Cf_W_meetFront_t_q_31 c_q_least c_q_window c_q_pulses c_q_lengths c_q_pulseTimes c_q_pulseEnergies c_t_near c_t_far c_t_echoes c_t_totals x2 x3 x5 s0 = some (o_t_near, o_t_far, o_t_echoes, o_t_totals)) : V X 0 0 (wL E a T c_waveIsFresh c_peelingIsFresh c_n_count c_n_front c_n_least c_n_window c_n_pulses c_n_lengths c_n_fractions c_n_pulseTimes c_n_pulseEnergies c_n_sound c_n_seen c_hcount c_hp c_h0_count c_h0_front c_h0_least c_h0_window c_h0_pulses c_h0_lengths c_h0_fractions c_h0_pulseTimes c_h0_pulseEnergies c_h0_sound c_h0_seen c_h1_count c_h1_front c_h1_least c_h1_window c_h1_pulses c_h1_lengths c_h1_fractions c_h1_pulseTimes c_h1_pulseEnergies c_h1_sound c_h1_seen c_h2_count c_h2_front c_h2_least c_h2_window c_h2_pulses c_h2_lengths c_h2_fractions c_h2_pulseTimes c_h2_pulseEnergies c_h2_sound c_h2_seen c_s_length c_s_command c_s_position c_s_fault c_s_bytes c_s_numbers c_w_near c_w_far c_w_echoes c_w_totals c_p_result c_p_endTime c_q_count c_q_front c_q_least c_q_window c_q_pulses c_q_lengths c_q_fractions c_q_pulseTimes c_q_pulseEnergies c_t_near c_t_far c_t_echoes c_t_totals) [(0, .ref (a 67)), (1, .ref (a 62)), (2, .int x2), (3, .long x3), (5, .long x5)] 31 [.int s0] := by
  unfold Cf_W_meetFront_t_q_31 at hf
  refine v_istore [(0, .ref (a 67)), (1, .ref (a 62)), (2, .int x2), (3, .long x3), (5, .long x5), (7, .int s0)] [1, 2, 3, 4, 5, 0] C dX8_meetFront_31 (by decide) rfl ?_
  refine v_aload_n 0 C dX8_meetFront_33 rfl rfl ?_
  refine Cg_67_echoes wfieldLink_RX8_19_LineEchoes_Wave_echoes_J C dX8_meetFront_34 ?_
  refine v_iload_n 2 C dX8_meetFront_37 rfl rfl ?_
  refine v_lload_n 3 C dX8_meetFront_38 rfl rfl ?_
  refine v_lload 4 C dX8_meetFront_39 rfl ?_
  refine v_lsub C dX8_meetFront_41 hf (fun z41 hf => ?_)
  refine Cas_70 C dX8_meetFront_42 hf (fun t_echoes_42 hf => ?_)
  refine v_iconst (v := 0) C dX8_meetFront_43 (by decide) ?_
  refine v_istore [(0, .ref (a 67)), (1, .ref (a 62)), (2, .int x2), (5, .long x5), (7, .int s0), (8, .int (0 : Int32))] [1, 2, 3, 5, 6, 0] C dX8_meetFront_44 (by decide) rfl ?_
  obtain ⟨⟨y5_46, y7_46⟩, hc, hf⟩ := bd_some hf
  refine Ck_W_meetFront_t_q_46 C ?_ _ _ _ _ hc
  refine v_iload 4 C dX8_meetFront_88 rfl ?_
  refine v_iconst (v := 1) C dX8_meetFront_90 (by decide) ?_
  refine v_icmp_le 104 C dX8_meetFront_91 (by decide) hf (fun c hf => ?_) (fun c hf => ?_)
  · refine v_lv [(0, .ref (a 67)), (1, .ref (a 62)), (2, .int x2), (5, .long y5_46)] [0, 1, 2, 3] rfl ?_
    exact Cb_W_meetFront_t_q_104 C hret hf
  · refine v_aload_n 0 C dX8_meetFront_94 rfl rfl ?_
    refine Cg_67_totals wfieldLink_RX8_23_LineEchoes_Wave_totals_J C dX8_meetFront_95 ?_
    refine v_iconst (v := 5) C dX8_meetFront_98 (by decide) ?_
    refine v_dup2_11 C dX8_meetFront_99 rfl rfl ?_
    refine Cal_71 C dX8_meetFront_100 hf (fun z100 hf => ?_)
    refine v_lconst (v := 1) C dX8_meetFront_101 (by decide) ?_
    refine v_ladd C dX8_meetFront_102 hf (fun z102 hf => ?_)
    refine Cas_71 C dX8_meetFront_103 hf (fun t_totals_103 hf => ?_)
    refine v_lv [(0, .ref (a 67)), (1, .ref (a 62)), (2, .int x2), (5, .long y5_46)] [0, 1, 2, 3] rfl ?_
    exact Cb_W_meetFront_t_q_104 C hret hf
def Cf_W_meetFront_t_q (c_q_front : Int32) (c_q_least : Int32) (c_q_window : Int32) (c_q_pulses : Int32) (c_q_lengths : Nat → Int32) (c_q_pulseTimes : Nat → Int32) (c_q_pulseEnergies : Nat → Int32) (c_t_near : Nat → Nat → Int64) (c_t_far : Nat → Nat → Int64) (c_t_echoes : Nat → Int64) (c_t_totals : Nat → Int64) (x2 : Int32) : Option ((Nat → Nat → Int64) × (Nat → Nat → Int64) × (Nat → Int64) × (Nat → Int64)) :=
  chk (inb (0 : Int32) 9) <|
  chk (inb x2 201) <| nm (c_t_far (0 : Int32).toNatClampNeg x2.toNatClampNeg) fun z7 =>
  bd (Cf_L_turnedBack z7 c_q_front) fun r14 =>
  if r14 ≤ (0 : Int64) then
    Cf_W_meetFront_t_q_31 c_q_least c_q_window c_q_pulses c_q_lengths c_q_pulseTimes c_q_pulseEnergies c_t_near c_t_far c_t_echoes c_t_totals x2 z7 r14 (0 : Int32)
  else
    Cf_W_meetFront_t_q_31 c_q_least c_q_window c_q_pulses c_q_lengths c_q_pulseTimes c_q_pulseEnergies c_t_near c_t_far c_t_echoes c_t_totals x2 z7 r14 (1 : Int32)
set_option maxRecDepth 100000 in
set_option maxHeartbeats 4000000 in
theorem Cb_W_meetFront_t_q (C : Cx X (SFG E) T cX8_meetFront RX8 none 9 1 27) {x2 : Int32} {o_t_near : Nat → Nat → Int64} {o_t_far : Nat → Nat → Int64} {o_t_echoes : Nat → Int64} {o_t_totals : Nat → Int64} (hret : RetOK X 0 0 none (wL E a T c_waveIsFresh c_peelingIsFresh c_n_count c_n_front c_n_least c_n_window c_n_pulses c_n_lengths c_n_fractions c_n_pulseTimes c_n_pulseEnergies c_n_sound c_n_seen c_hcount c_hp c_h0_count c_h0_front c_h0_least c_h0_window c_h0_pulses c_h0_lengths c_h0_fractions c_h0_pulseTimes c_h0_pulseEnergies c_h0_sound c_h0_seen c_h1_count c_h1_front c_h1_least c_h1_window c_h1_pulses c_h1_lengths c_h1_fractions c_h1_pulseTimes c_h1_pulseEnergies c_h1_sound c_h1_seen c_h2_count c_h2_front c_h2_least c_h2_window c_h2_pulses c_h2_lengths c_h2_fractions c_h2_pulseTimes c_h2_pulseEnergies c_h2_sound c_h2_seen c_s_length c_s_command c_s_position c_s_fault c_s_bytes c_s_numbers c_w_near c_w_far c_w_echoes c_w_totals c_p_result c_p_endTime c_q_count c_q_front c_q_least c_q_window c_q_pulses c_q_lengths c_q_fractions c_q_pulseTimes c_q_pulseEnergies o_t_near o_t_far o_t_echoes o_t_totals)) (hf : Cf_W_meetFront_t_q c_q_front c_q_least c_q_window c_q_pulses c_q_lengths c_q_pulseTimes c_q_pulseEnergies c_t_near c_t_far c_t_echoes c_t_totals x2 = some (o_t_near, o_t_far, o_t_echoes, o_t_totals)) : V X 0 0 (wL E a T c_waveIsFresh c_peelingIsFresh c_n_count c_n_front c_n_least c_n_window c_n_pulses c_n_lengths c_n_fractions c_n_pulseTimes c_n_pulseEnergies c_n_sound c_n_seen c_hcount c_hp c_h0_count c_h0_front c_h0_least c_h0_window c_h0_pulses c_h0_lengths c_h0_fractions c_h0_pulseTimes c_h0_pulseEnergies c_h0_sound c_h0_seen c_h1_count c_h1_front c_h1_least c_h1_window c_h1_pulses c_h1_lengths c_h1_fractions c_h1_pulseTimes c_h1_pulseEnergies c_h1_sound c_h1_seen c_h2_count c_h2_front c_h2_least c_h2_window c_h2_pulses c_h2_lengths c_h2_fractions c_h2_pulseTimes c_h2_pulseEnergies c_h2_sound c_h2_seen c_s_length c_s_command c_s_position c_s_fault c_s_bytes c_s_numbers c_w_near c_w_far c_w_echoes c_w_totals c_p_result c_p_endTime c_q_count c_q_front c_q_least c_q_window c_q_pulses c_q_lengths c_q_fractions c_q_pulseTimes c_q_pulseEnergies c_t_near c_t_far c_t_echoes c_t_totals) [(0, .ref (a 67)), (1, .ref (a 62)), (2, .int x2)] 0 [] := by
  unfold Cf_W_meetFront_t_q at hf
  refine v_aload_n 0 C dX8_meetFront_0 rfl rfl ?_
  refine Cg_67_fromFar wfieldLink_RX8_16_LineEchoes_Wave_fromFar_J C dX8_meetFront_1 ?_
  refine v_iconst (v := 0) C dX8_meetFront_4 (by decide) ?_
  refine Cao_69 C dX8_meetFront_5 hf (fun hj5 hf => ?_)
  refine v_iload_n 2 C dX8_meetFront_6 rfl rfl ?_
  refine Crl_81 hj5 C dX8_meetFront_7 hf (fun z7 hf => ?_)
  refine v_lstore_n [(0, .ref (a 67)), (1, .ref (a 62)), (2, .int x2), (3, .long z7)] [1, 2, 3, 0] C dX8_meetFront_8 rfl (by decide) rfl ?_
  refine v_lload_n 3 C dX8_meetFront_9 rfl rfl ?_
  refine v_aload_n 1 C dX8_meetFront_10 rfl rfl ?_
  refine Cg_62_front wfieldLink_RX8_75_LineEchoes_Bench_front_I C dX8_meetFront_11 ?_
  refine Cc_L_turnedBack_N nest1 C dX8_meetFront_14 (by decide) (Nat.le_of_ble_eq_true rfl) hf (fun r14 hf => ?_)
  refine v_lstore [(0, .ref (a 67)), (1, .ref (a 62)), (2, .int x2), (3, .long z7), (5, .long r14)] [1, 2, 3, 4, 0] C dX8_meetFront_17 (by decide) rfl ?_
  refine v_lload 4 C dX8_meetFront_19 rfl ?_
  refine v_lconst (v := 0) C dX8_meetFront_21 (by decide) ?_
  refine v_lcmp_le 30 C dX8_meetFront_22 dX8_meetFront_23 (by decide) hf (fun c hf => ?_) (fun c hf => ?_)
  · refine v_iconst (v := 0) C dX8_meetFront_30 (by decide) ?_
    exact Cb_W_meetFront_t_q_31 C hret hf
  · refine v_iconst (v := 1) C dX8_meetFront_26 (by decide) ?_
    refine v_goto 31 C dX8_meetFront_27 (by decide) ?_
    exact Cb_W_meetFront_t_q_31 C hret hf
set_option maxRecDepth 100000 in
set_option maxHeartbeats 4000000 in
theorem Cm_W_meetFront_t_q {D : va_G} {x2 : Int32} {o_t_near : Nat → Nat → Int64} {o_t_far : Nat → Nat → Int64} {o_t_echoes : Nat → Int64} {o_t_totals : Nat → Int64} (hf : Cf_W_meetFront_t_q c_q_front c_q_least c_q_window c_q_pulses c_q_lengths c_q_pulseTimes c_q_pulseEnergies c_t_near c_t_far c_t_echoes c_t_totals x2 = some (o_t_near, o_t_far, o_t_echoes, o_t_totals)) : MetM (SFG E) yX8_meetFront cX8_meetFront 9 none { frames := 1, cells := 0, slots := 0, locals := 27 } D T [.ref (a 67), .ref (a 62), .int x2] (wL E a T c_waveIsFresh c_peelingIsFresh c_n_count c_n_front c_n_least c_n_window c_n_pulses c_n_lengths c_n_fractions c_n_pulseTimes c_n_pulseEnergies c_n_sound c_n_seen c_hcount c_hp c_h0_count c_h0_front c_h0_least c_h0_window c_h0_pulses c_h0_lengths c_h0_fractions c_h0_pulseTimes c_h0_pulseEnergies c_h0_sound c_h0_seen c_h1_count c_h1_front c_h1_least c_h1_window c_h1_pulses c_h1_lengths c_h1_fractions c_h1_pulseTimes c_h1_pulseEnergies c_h1_sound c_h1_seen c_h2_count c_h2_front c_h2_least c_h2_window c_h2_pulses c_h2_lengths c_h2_fractions c_h2_pulseTimes c_h2_pulseEnergies c_h2_sound c_h2_seen c_s_length c_s_command c_s_position c_s_fault c_s_bytes c_s_numbers c_w_near c_w_far c_w_echoes c_w_totals c_p_result c_p_endTime c_q_count c_q_front c_q_least c_q_window c_q_pulses c_q_lengths c_q_fractions c_q_pulseTimes c_q_pulseEnergies c_t_near c_t_far c_t_echoes c_t_totals) none (wL E a T c_waveIsFresh c_peelingIsFresh c_n_count c_n_front c_n_least c_n_window c_n_pulses c_n_lengths c_n_fractions c_n_pulseTimes c_n_pulseEnergies c_n_sound c_n_seen c_hcount c_hp c_h0_count c_h0_front c_h0_least c_h0_window c_h0_pulses c_h0_lengths c_h0_fractions c_h0_pulseTimes c_h0_pulseEnergies c_h0_sound c_h0_seen c_h1_count c_h1_front c_h1_least c_h1_window c_h1_pulses c_h1_lengths c_h1_fractions c_h1_pulseTimes c_h1_pulseEnergies c_h1_sound c_h1_seen c_h2_count c_h2_front c_h2_least c_h2_window c_h2_pulses c_h2_lengths c_h2_fractions c_h2_pulseTimes c_h2_pulseEnergies c_h2_sound c_h2_seen c_s_length c_s_command c_s_position c_s_fault c_s_bytes c_s_numbers c_w_near c_w_far c_w_echoes c_w_totals c_p_result c_p_endTime c_q_count c_q_front c_q_least c_q_window c_q_pulses c_q_lengths c_q_fractions c_q_pulseTimes c_q_pulseEnergies o_t_near o_t_far o_t_echoes o_t_totals) :=
  MetM.of [(0, .ref (a 67)), (1, .ref (a 62)), (2, .int x2)] (by decide) (Nat.le_of_ble_eq_true rfl) rfl (fun X C hret => Cb_W_meetFront_t_q C hret hf)
def Cf_W_countMerging_t_22 (c_t_totals : Nat → Int64) : Option (Nat → Int64) :=
  some c_t_totals
set_option maxRecDepth 100000 in
set_option maxHeartbeats 4000000 in
theorem Cb_W_countMerging_t_22 (C : Cx X (SFG E) T cX8_countMerging RX8 none 5 0 0)  {o_t_totals : Nat → Int64} (hret : RetOK X 0 0 none (wL E a T c_waveIsFresh c_peelingIsFresh c_n_count c_n_front c_n_least c_n_window c_n_pulses c_n_lengths c_n_fractions c_n_pulseTimes c_n_pulseEnergies c_n_sound c_n_seen c_hcount c_hp c_h0_count c_h0_front c_h0_least c_h0_window c_h0_pulses c_h0_lengths c_h0_fractions c_h0_pulseTimes c_h0_pulseEnergies c_h0_sound c_h0_seen c_h1_count c_h1_front c_h1_least c_h1_window c_h1_pulses c_h1_lengths c_h1_fractions c_h1_pulseTimes c_h1_pulseEnergies c_h1_sound c_h1_seen c_h2_count c_h2_front c_h2_least c_h2_window c_h2_pulses c_h2_lengths c_h2_fractions c_h2_pulseTimes c_h2_pulseEnergies c_h2_sound c_h2_seen c_s_length c_s_command c_s_position c_s_fault c_s_bytes c_s_numbers c_w_near c_w_far c_w_echoes c_w_totals c_p_result c_p_endTime c_q_count c_q_front c_q_least c_q_window c_q_pulses c_q_lengths c_q_fractions c_q_pulseTimes c_q_pulseEnergies c_t_near c_t_far c_t_echoes o_t_totals)) (hf : Cf_W_countMerging_t_22 c_t_totals = some o_t_totals) : V X 0 0 (wL E a T c_waveIsFresh c_peelingIsFresh c_n_count c_n_front c_n_least c_n_window c_n_pulses c_n_lengths c_n_fractions c_n_pulseTimes c_n_pulseEnergies c_n_sound c_n_seen c_hcount c_hp c_h0_count c_h0_front c_h0_least c_h0_window c_h0_pulses c_h0_lengths c_h0_fractions c_h0_pulseTimes c_h0_pulseEnergies c_h0_sound c_h0_seen c_h1_count c_h1_front c_h1_least c_h1_window c_h1_pulses c_h1_lengths c_h1_fractions c_h1_pulseTimes c_h1_pulseEnergies c_h1_sound c_h1_seen c_h2_count c_h2_front c_h2_least c_h2_window c_h2_pulses c_h2_lengths c_h2_fractions c_h2_pulseTimes c_h2_pulseEnergies c_h2_sound c_h2_seen c_s_length c_s_command c_s_position c_s_fault c_s_bytes c_s_numbers c_w_near c_w_far c_w_echoes c_w_totals c_p_result c_p_endTime c_q_count c_q_front c_q_least c_q_window c_q_pulses c_q_lengths c_q_fractions c_q_pulseTimes c_q_pulseEnergies c_t_near c_t_far c_t_echoes c_t_totals) [] 22 [] := by
  unfold Cf_W_countMerging_t_22 at hf
  cases hf
  exact v_vret C hret dX8_countMerging_22
def Cf_W_countMerging_t (c_t_totals : Nat → Int64) (x1 : Int64) (x3 : Int64) : Option (Nat → Int64) :=
  if x1 ≤ (0 : Int64) then
    Cf_W_countMerging_t_22 c_t_totals
  else
    if x3 ≤ (0 : Int64) then
      Cf_W_countMerging_t_22 c_t_totals
    else
      chk (inb (5 : Int32) 9) <| nm (c_t_totals (5 : Int32).toNatClampNeg) fun z18 =>
      nm (z18 + (1 : Int64)) fun z20 =>
      chk (inb (5 : Int32) 9) <| nm (vp_updL c_t_totals (5 : Int32).toNatClampNeg z20) fun t_totals_21 =>
      Cf_W_countMerging_t_22 t_totals_21
set_option maxRecDepth 100000 in
set_option maxHeartbeats 4000000 in
theorem Cb_W_countMerging_t (C : Cx X (SFG E) T cX8_countMerging RX8 none 5 0 0) {x1 : Int64} {x3 : Int64} {o_t_totals : Nat → Int64} (hret : RetOK X 0 0 none (wL E a T c_waveIsFresh c_peelingIsFresh c_n_count c_n_front c_n_least c_n_window c_n_pulses c_n_lengths c_n_fractions c_n_pulseTimes c_n_pulseEnergies c_n_sound c_n_seen c_hcount c_hp c_h0_count c_h0_front c_h0_least c_h0_window c_h0_pulses c_h0_lengths c_h0_fractions c_h0_pulseTimes c_h0_pulseEnergies c_h0_sound c_h0_seen c_h1_count c_h1_front c_h1_least c_h1_window c_h1_pulses c_h1_lengths c_h1_fractions c_h1_pulseTimes c_h1_pulseEnergies c_h1_sound c_h1_seen c_h2_count c_h2_front c_h2_least c_h2_window c_h2_pulses c_h2_lengths c_h2_fractions c_h2_pulseTimes c_h2_pulseEnergies c_h2_sound c_h2_seen c_s_length c_s_command c_s_position c_s_fault c_s_bytes c_s_numbers c_w_near c_w_far c_w_echoes c_w_totals c_p_result c_p_endTime c_q_count c_q_front c_q_least c_q_window c_q_pulses c_q_lengths c_q_fractions c_q_pulseTimes c_q_pulseEnergies c_t_near c_t_far c_t_echoes o_t_totals)) (hf : Cf_W_countMerging_t c_t_totals x1 x3 = some o_t_totals) : V X 0 0 (wL E a T c_waveIsFresh c_peelingIsFresh c_n_count c_n_front c_n_least c_n_window c_n_pulses c_n_lengths c_n_fractions c_n_pulseTimes c_n_pulseEnergies c_n_sound c_n_seen c_hcount c_hp c_h0_count c_h0_front c_h0_least c_h0_window c_h0_pulses c_h0_lengths c_h0_fractions c_h0_pulseTimes c_h0_pulseEnergies c_h0_sound c_h0_seen c_h1_count c_h1_front c_h1_least c_h1_window c_h1_pulses c_h1_lengths c_h1_fractions c_h1_pulseTimes c_h1_pulseEnergies c_h1_sound c_h1_seen c_h2_count c_h2_front c_h2_least c_h2_window c_h2_pulses c_h2_lengths c_h2_fractions c_h2_pulseTimes c_h2_pulseEnergies c_h2_sound c_h2_seen c_s_length c_s_command c_s_position c_s_fault c_s_bytes c_s_numbers c_w_near c_w_far c_w_echoes c_w_totals c_p_result c_p_endTime c_q_count c_q_front c_q_least c_q_window c_q_pulses c_q_lengths c_q_fractions c_q_pulseTimes c_q_pulseEnergies c_t_near c_t_far c_t_echoes c_t_totals) [(0, .ref (a 67)), (1, .long x1), (3, .long x3)] 0 [] := by
  unfold Cf_W_countMerging_t at hf
  refine v_lload_n 1 C dX8_countMerging_0 rfl rfl ?_
  refine v_lconst (v := 0) C dX8_countMerging_1 (by decide) ?_
  refine v_lcmp_le 22 C dX8_countMerging_2 dX8_countMerging_3 (by decide) hf (fun c hf => ?_) (fun c hf => ?_)
  · refine v_lv [] [] rfl ?_
    exact Cb_W_countMerging_t_22 C hret hf
  · refine v_lload_n 2 C dX8_countMerging_6 rfl rfl ?_
    refine v_lconst (v := 0) C dX8_countMerging_7 (by decide) ?_
    refine v_lcmp_le 22 C dX8_countMerging_8 dX8_countMerging_9 (by decide) hf (fun c hf => ?_) (fun c hf => ?_)
    · refine v_lv [] [] rfl ?_
      exact Cb_W_countMerging_t_22 C hret hf
    · refine v_aload_n 0 C dX8_countMerging_12 rfl rfl ?_
      refine Cg_67_totals wfieldLink_RX8_23_LineEchoes_Wave_totals_J C dX8_countMerging_13 ?_
      refine v_iconst (v := 5) C dX8_countMerging_16 (by decide) ?_
      refine v_dup2_11 C dX8_countMerging_17 rfl rfl ?_
      refine Cal_71 C dX8_countMerging_18 hf (fun z18 hf => ?_)
      refine v_lconst (v := 1) C dX8_countMerging_19 (by decide) ?_
      refine v_ladd C dX8_countMerging_20 hf (fun z20 hf => ?_)
      refine Cas_71 C dX8_countMerging_21 hf (fun t_totals_21 hf => ?_)
      refine v_lv [] [] rfl ?_
      exact Cb_W_countMerging_t_22 C hret hf
set_option maxRecDepth 100000 in
set_option maxHeartbeats 4000000 in
theorem Cm_W_countMerging_t {D : va_G} {x1 : Int64} {x3 : Int64} {o_t_totals : Nat → Int64} (hf : Cf_W_countMerging_t c_t_totals x1 x3 = some o_t_totals) : MetM (SFG E) yX8_countMerging cX8_countMerging 5 none { frames := 0, cells := 0, slots := 0, locals := 0 } D T [.ref (a 67), .long x1, .long x3] (wL E a T c_waveIsFresh c_peelingIsFresh c_n_count c_n_front c_n_least c_n_window c_n_pulses c_n_lengths c_n_fractions c_n_pulseTimes c_n_pulseEnergies c_n_sound c_n_seen c_hcount c_hp c_h0_count c_h0_front c_h0_least c_h0_window c_h0_pulses c_h0_lengths c_h0_fractions c_h0_pulseTimes c_h0_pulseEnergies c_h0_sound c_h0_seen c_h1_count c_h1_front c_h1_least c_h1_window c_h1_pulses c_h1_lengths c_h1_fractions c_h1_pulseTimes c_h1_pulseEnergies c_h1_sound c_h1_seen c_h2_count c_h2_front c_h2_least c_h2_window c_h2_pulses c_h2_lengths c_h2_fractions c_h2_pulseTimes c_h2_pulseEnergies c_h2_sound c_h2_seen c_s_length c_s_command c_s_position c_s_fault c_s_bytes c_s_numbers c_w_near c_w_far c_w_echoes c_w_totals c_p_result c_p_endTime c_q_count c_q_front c_q_least c_q_window c_q_pulses c_q_lengths c_q_fractions c_q_pulseTimes c_q_pulseEnergies c_t_near c_t_far c_t_echoes c_t_totals) none (wL E a T c_waveIsFresh c_peelingIsFresh c_n_count c_n_front c_n_least c_n_window c_n_pulses c_n_lengths c_n_fractions c_n_pulseTimes c_n_pulseEnergies c_n_sound c_n_seen c_hcount c_hp c_h0_count c_h0_front c_h0_least c_h0_window c_h0_pulses c_h0_lengths c_h0_fractions c_h0_pulseTimes c_h0_pulseEnergies c_h0_sound c_h0_seen c_h1_count c_h1_front c_h1_least c_h1_window c_h1_pulses c_h1_lengths c_h1_fractions c_h1_pulseTimes c_h1_pulseEnergies c_h1_sound c_h1_seen c_h2_count c_h2_front c_h2_least c_h2_window c_h2_pulses c_h2_lengths c_h2_fractions c_h2_pulseTimes c_h2_pulseEnergies c_h2_sound c_h2_seen c_s_length c_s_command c_s_position c_s_fault c_s_bytes c_s_numbers c_w_near c_w_far c_w_echoes c_w_totals c_p_result c_p_endTime c_q_count c_q_front c_q_least c_q_window c_q_pulses c_q_lengths c_q_fractions c_q_pulseTimes c_q_pulseEnergies c_t_near c_t_far c_t_echoes o_t_totals) :=
  MetM.of [(0, .ref (a 67)), (1, .long x1), (3, .long x3)] (by decide) (Nat.le_of_ble_eq_true rfl) rfl (fun X C hret => Cb_W_countMerging_t C hret hf)
def Cf_W_meetJoint_t_q_144 (c_t_near : Nat → Nat → Int64) (c_t_far : Nat → Nat → Int64) (c_t_totals : Nat → Int64) : Option ((Nat → Nat → Int64) × (Nat → Nat → Int64) × (Nat → Int64)) :=
  some (c_t_near, c_t_far, c_t_totals)
set_option maxRecDepth 100000 in
set_option maxHeartbeats 4000000 in
theorem Cb_W_meetJoint_t_q_144 (C : Cx X (SFG E) T cX8_meetJoint RX8 none 13 1 27)  {o_t_near : Nat → Nat → Int64} {o_t_far : Nat → Nat → Int64} {o_t_totals : Nat → Int64} (hret : RetOK X 0 0 none (wL E a T c_waveIsFresh c_peelingIsFresh c_n_count c_n_front c_n_least c_n_window c_n_pulses c_n_lengths c_n_fractions c_n_pulseTimes c_n_pulseEnergies c_n_sound c_n_seen c_hcount c_hp c_h0_count c_h0_front c_h0_least c_h0_window c_h0_pulses c_h0_lengths c_h0_fractions c_h0_pulseTimes c_h0_pulseEnergies c_h0_sound c_h0_seen c_h1_count c_h1_front c_h1_least c_h1_window c_h1_pulses c_h1_lengths c_h1_fractions c_h1_pulseTimes c_h1_pulseEnergies c_h1_sound c_h1_seen c_h2_count c_h2_front c_h2_least c_h2_window c_h2_pulses c_h2_lengths c_h2_fractions c_h2_pulseTimes c_h2_pulseEnergies c_h2_sound c_h2_seen c_s_length c_s_command c_s_position c_s_fault c_s_bytes c_s_numbers c_w_near c_w_far c_w_echoes c_w_totals c_p_result c_p_endTime c_q_count c_q_front c_q_least c_q_window c_q_pulses c_q_lengths c_q_fractions c_q_pulseTimes c_q_pulseEnergies o_t_near o_t_far c_t_echoes o_t_totals)) (hf : Cf_W_meetJoint_t_q_144 c_t_near c_t_far c_t_totals = some (o_t_near, o_t_far, o_t_totals)) : V X 0 0 (wL E a T c_waveIsFresh c_peelingIsFresh c_n_count c_n_front c_n_least c_n_window c_n_pulses c_n_lengths c_n_fractions c_n_pulseTimes c_n_pulseEnergies c_n_sound c_n_seen c_hcount c_hp c_h0_count c_h0_front c_h0_least c_h0_window c_h0_pulses c_h0_lengths c_h0_fractions c_h0_pulseTimes c_h0_pulseEnergies c_h0_sound c_h0_seen c_h1_count c_h1_front c_h1_least c_h1_window c_h1_pulses c_h1_lengths c_h1_fractions c_h1_pulseTimes c_h1_pulseEnergies c_h1_sound c_h1_seen c_h2_count c_h2_front c_h2_least c_h2_window c_h2_pulses c_h2_lengths c_h2_fractions c_h2_pulseTimes c_h2_pulseEnergies c_h2_sound c_h2_seen c_s_length c_s_command c_s_position c_s_fault c_s_bytes c_s_numbers c_w_near c_w_far c_w_echoes c_w_totals c_p_result c_p_endTime c_q_count c_q_front c_q_least c_q_window c_q_pulses c_q_lengths c_q_fractions c_q_pulseTimes c_q_pulseEnergies c_t_near c_t_far c_t_echoes c_t_totals) [] 144 [] := by
  unfold Cf_W_meetJoint_t_q_144 at hf
  cases hf
  exact v_vret C hret dX8_meetJoint_144
set_option maxRecDepth 100000 in
theorem Cc_W_countMerging_t {x1 : Int64} {x3 : Int64} {cc : ByteArray} {own : String} {ret : Option FieldType} {nl fr lo pc ix : Nat} {lv : List (Nat × Value)} {rest : List Value} {β : Type} {K : (Nat → Int64) → Option β} {oo : β} (hl : Cond.methodLink own ix yX8_countMerging ∈ wsG) (C : Cx X (SFG E) T cc own ret nl fr lo) (hdg : decode cc pc = .ok (.invokevirtual ix, 3)) (hroom : 0 + 1 ≤ fr ∧ 8 + (5 + 11) + 0 ≤ lo) (hst : (rest.map fun v => v.category).sum ≤ 8) (hf : bd (Cf_W_countMerging_t c_t_totals x1 x3) K = some oo) (kk : ∀ (o_t_totals : Nat → Int64), K o_t_totals = some oo → V X 0 0 (wL E a T c_waveIsFresh c_peelingIsFresh c_n_count c_n_front c_n_least c_n_window c_n_pulses c_n_lengths c_n_fractions c_n_pulseTimes c_n_pulseEnergies c_n_sound c_n_seen c_hcount c_hp c_h0_count c_h0_front c_h0_least c_h0_window c_h0_pulses c_h0_lengths c_h0_fractions c_h0_pulseTimes c_h0_pulseEnergies c_h0_sound c_h0_seen c_h1_count c_h1_front c_h1_least c_h1_window c_h1_pulses c_h1_lengths c_h1_fractions c_h1_pulseTimes c_h1_pulseEnergies c_h1_sound c_h1_seen c_h2_count c_h2_front c_h2_least c_h2_window c_h2_pulses c_h2_lengths c_h2_fractions c_h2_pulseTimes c_h2_pulseEnergies c_h2_sound c_h2_seen c_s_length c_s_command c_s_position c_s_fault c_s_bytes c_s_numbers c_w_near c_w_far c_w_echoes c_w_totals c_p_result c_p_endTime c_q_count c_q_front c_q_least c_q_window c_q_pulses c_q_lengths c_q_fractions c_q_pulseTimes c_q_pulseEnergies c_t_near c_t_far c_t_echoes o_t_totals) lv (pc + 3) rest) : V X 0 0 (wL E a T c_waveIsFresh c_peelingIsFresh c_n_count c_n_front c_n_least c_n_window c_n_pulses c_n_lengths c_n_fractions c_n_pulseTimes c_n_pulseEnergies c_n_sound c_n_seen c_hcount c_hp c_h0_count c_h0_front c_h0_least c_h0_window c_h0_pulses c_h0_lengths c_h0_fractions c_h0_pulseTimes c_h0_pulseEnergies c_h0_sound c_h0_seen c_h1_count c_h1_front c_h1_least c_h1_window c_h1_pulses c_h1_lengths c_h1_fractions c_h1_pulseTimes c_h1_pulseEnergies c_h1_sound c_h1_seen c_h2_count c_h2_front c_h2_least c_h2_window c_h2_pulses c_h2_lengths c_h2_fractions c_h2_pulseTimes c_h2_pulseEnergies c_h2_sound c_h2_seen c_s_length c_s_command c_s_position c_s_fault c_s_bytes c_s_numbers c_w_near c_w_far c_w_echoes c_w_totals c_p_result c_p_endTime c_q_count c_q_front c_q_least c_q_window c_q_pulses c_q_lengths c_q_fractions c_q_pulseTimes c_q_pulseEnergies c_t_near c_t_far c_t_echoes c_t_totals) lv pc (.long x3 :: .long x1 :: .ref (a 67) :: rest) := by
  obtain ⟨o_t_totals, hc, hk⟩ := bd_some hf
  exact v_callV (As := [.long x1, .long x3]) (rest := rest) (q0 := 67) 2 C (CapOK.z X) (fun D => Cm_W_countMerging_t hc) (goodV hl winstanceMethod_yX8_countMerging wselects_RX8_yX8_countMerging_yX8_countMerging winitialized_RX8 wcode_yX8_countMerging_cX8_countMerging_5_none) (by decide +kernel) hroom ⟨rfl, rfl⟩ rfl rfl rfl hst hdg (kk o_t_totals hk)
def Cf_W_meetJoint_t_q_35 (c_q_count : Int32) (c_q_least : Int32) (c_q_window : Int32) (c_q_lengths : Nat → Int32) (c_q_fractions : Nat → Int32) (c_t_near : Nat → Nat → Int64) (c_t_far : Nat → Nat → Int64) (c_t_totals : Nat → Int64) (x2 : Int32) (x3 : Int32) (x4 : Int64) (x6 : Int64) : Option ((Nat → Nat → Int64) × (Nat → Nat → Int64) × (Nat → Int64)) :=
  nm (x2 - (1 : Int32)) fun z41 =>
  chk (inb z41 8) <| nm (c_q_fractions z41.toNatClampNeg) fun z42 =>
  bd (Cf_L_turnedBack x4 z42) fun r49 =>
  bd (Cf_L_turnedBack x6 z42) fun r58 =>
  nm (x6 - r58) fun z70 =>
  bd (Cf_W_countMerging_t c_t_totals r49 z70) fun t_totals_71 =>
  nm (x2 - (1 : Int32)) fun z78 =>
  nm (r49 + x6) fun z85 =>
  nm (z85 - r58) fun z88 =>
  bd (Cf_W_setOut_t_q c_q_least c_q_window c_q_lengths c_t_near c_t_far t_totals_71 z78 (0 : Int32) x3 z88) fun (t_near_89, t_far_89, t_totals_89) =>
  if c_q_count ≤ x2 then
    chk (inb (2 : Int32) 9) <| nm (t_totals_89 (2 : Int32).toNatClampNeg) fun z136 =>
    nm (x4 - r49) fun z141 =>
    nm (z136 + z141) fun z142 =>
    chk (inb (2 : Int32) 9) <| nm (vp_updL t_totals_89 (2 : Int32).toNatClampNeg z142) fun t_totals_143 =>
    Cf_W_meetJoint_t_q_144 t_near_89 t_far_89 t_totals_143
  else
    nm (x4 - r49) fun z105 =>
    bd (Cf_W_countMerging_t t_totals_89 z105 r58) fun t_totals_108 =>
    nm (x4 - r49) fun z120 =>
    nm (z120 + r58) fun z123 =>
    bd (Cf_W_setOut_t_q c_q_least c_q_window c_q_lengths t_near_89 t_far_89 t_totals_108 x2 (1 : Int32) x3 z123) fun (t_near_124, t_far_124, t_totals_124) =>
    Cf_W_meetJoint_t_q_144 t_near_124 t_far_124 t_totals_124
set_option maxRecDepth 100000 in
set_option maxHeartbeats 4000000 in
theorem Cb_W_meetJoint_t_q_35 (C : Cx X (SFG E) T cX8_meetJoint RX8 none 13 1 27) {x2 : Int32} {x3 : Int32} {x4 : Int64} {x6 : Int64} {o_t_near : Nat → Nat → Int64} {o_t_far : Nat → Nat → Int64} {o_t_totals : Nat → Int64} (hret : RetOK X 0 0 none (wL E a T c_waveIsFresh c_peelingIsFresh c_n_count c_n_front c_n_least c_n_window c_n_pulses c_n_lengths c_n_fractions c_n_pulseTimes c_n_pulseEnergies c_n_sound c_n_seen c_hcount c_hp c_h0_count c_h0_front c_h0_least c_h0_window c_h0_pulses c_h0_lengths c_h0_fractions c_h0_pulseTimes c_h0_pulseEnergies c_h0_sound c_h0_seen c_h1_count c_h1_front c_h1_least c_h1_window c_h1_pulses c_h1_lengths c_h1_fractions c_h1_pulseTimes c_h1_pulseEnergies c_h1_sound c_h1_seen c_h2_count c_h2_front c_h2_least c_h2_window c_h2_pulses c_h2_lengths c_h2_fractions c_h2_pulseTimes c_h2_pulseEnergies c_h2_sound c_h2_seen c_s_length c_s_command c_s_position c_s_fault c_s_bytes c_s_numbers c_w_near c_w_far c_w_echoes c_w_totals c_p_result c_p_endTime c_q_count c_q_front c_q_least c_q_window c_q_pulses c_q_lengths c_q_fractions c_q_pulseTimes c_q_pulseEnergies o_t_near o_t_far c_t_echoes o_t_totals)) (hf : Cf_W_meetJoint_t_q_35 c_q_count c_q_least c_q_window c_q_lengths c_q_fractions c_t_near c_t_far c_t_totals x2 x3 x4 x6 = some (o_t_near, o_t_far, o_t_totals)) : V X 0 0 (wL E a T c_waveIsFresh c_peelingIsFresh c_n_count c_n_front c_n_least c_n_window c_n_pulses c_n_lengths c_n_fractions c_n_pulseTimes c_n_pulseEnergies c_n_sound c_n_seen c_hcount c_hp c_h0_count c_h0_front c_h0_least c_h0_window c_h0_pulses c_h0_lengths c_h0_fractions c_h0_pulseTimes c_h0_pulseEnergies c_h0_sound c_h0_seen c_h1_count c_h1_front c_h1_least c_h1_window c_h1_pulses c_h1_lengths c_h1_fractions c_h1_pulseTimes c_h1_pulseEnergies c_h1_sound c_h1_seen c_h2_count c_h2_front c_h2_least c_h2_window c_h2_pulses c_h2_lengths c_h2_fractions c_h2_pulseTimes c_h2_pulseEnergies c_h2_sound c_h2_seen c_s_length c_s_command c_s_position c_s_fault c_s_bytes c_s_numbers c_w_near c_w_far c_w_echoes c_w_totals c_p_result c_p_endTime c_q_count c_q_front c_q_least c_q_window c_q_pulses c_q_lengths c_q_fractions c_q_pulseTimes c_q_pulseEnergies c_t_near c_t_far c_t_echoes c_t_totals) [(0, .ref (a 67)), (1, .ref (a 62)), (2, .int x2), (3, .int x3), (4, .long x4), (6, .long x6)] 35 [] := by
  unfold Cf_W_meetJoint_t_q_35 at hf
  refine v_aload_n 1 C dX8_meetJoint_35 rfl rfl ?_
  refine Cg_62_fractions wfieldLink_RX8_86_LineEchoes_Bench_fractions_I C dX8_meetJoint_36 ?_
  refine v_iload_n 2 C dX8_meetJoint_39 rfl rfl ?_
  refine v_iconst (v := 1) C dX8_meetJoint_40 (by decide) ?_
  refine v_isub C dX8_meetJoint_41 hf (fun z41 hf => ?_)
  refine Cal_64 C dX8_meetJoint_42 hf (fun z42 hf => ?_)
  refine v_istore [(0, .ref (a 67)), (1, .ref (a 62)), (2, .int x2), (3, .int x3), (4, .long x4), (6, .long x6), (8, .int z42)] [1, 2, 3, 4, 5, 6, 0] C dX8_meetJoint_43 (by decide) rfl ?_
  refine v_lload 4 C dX8_meetJoint_45 rfl ?_
  refine v_iload 6 C dX8_meetJoint_47 rfl ?_
  refine Cc_L_turnedBack_N nest1 C dX8_meetJoint_49 (by decide) (Nat.le_of_ble_eq_true rfl) hf (fun r49 hf => ?_)
  refine v_lstore [(0, .ref (a 67)), (1, .ref (a 62)), (2, .int x2), (3, .int x3), (4, .long x4), (6, .long x6), (8, .int z42), (9, .long r49)] [1, 2, 3, 4, 5, 6, 7, 0] C dX8_meetJoint_52 (by decide) rfl ?_
  refine v_lload 5 C dX8_meetJoint_54 rfl ?_
  refine v_iload 6 C dX8_meetJoint_56 rfl ?_
  refine Cc_L_turnedBack_N nest1 C dX8_meetJoint_58 (by decide) (Nat.le_of_ble_eq_true rfl) hf (fun r58 hf => ?_)
  refine v_lstore [(0, .ref (a 67)), (1, .ref (a 62)), (2, .int x2), (3, .int x3), (4, .long x4), (6, .long x6), (9, .long r49), (11, .long r58)] [1, 2, 3, 4, 5, 6, 8, 0] C dX8_meetJoint_61 (by decide) rfl ?_
  refine v_aload_n 0 C dX8_meetJoint_63 rfl rfl ?_
  refine v_lload 6 C dX8_meetJoint_64 rfl ?_
  refine v_lload 5 C dX8_meetJoint_66 rfl ?_
  refine v_lload 7 C dX8_meetJoint_68 rfl ?_
  refine v_lsub C dX8_meetJoint_70 hf (fun z70 hf => ?_)
  refine Cc_W_countMerging_t wmethodLink_RX8_89_yX8_countMerging C dX8_meetJoint_71 (by decide) (Nat.le_of_ble_eq_true rfl) hf (fun t_totals_71 hf => ?_)
  refine v_aload_n 0 C dX8_meetJoint_74 rfl rfl ?_
  refine v_aload_n 1 C dX8_meetJoint_75 rfl rfl ?_
  refine v_iload_n 2 C dX8_meetJoint_76 rfl rfl ?_
  refine v_iconst (v := 1) C dX8_meetJoint_77 (by decide) ?_
  refine v_isub C dX8_meetJoint_78 hf (fun z78 hf => ?_)
  refine v_iconst (v := 0) C dX8_meetJoint_79 (by decide) ?_
  refine v_iload_n 3 C dX8_meetJoint_80 rfl rfl ?_
  refine v_lload 6 C dX8_meetJoint_81 rfl ?_
  refine v_lload 5 C dX8_meetJoint_83 rfl ?_
  refine v_ladd C dX8_meetJoint_85 hf (fun z85 hf => ?_)
  refine v_lload 7 C dX8_meetJoint_86 rfl ?_
  refine v_lsub C dX8_meetJoint_88 hf (fun z88 hf => ?_)
  refine Cc_W_setOut_t_q wmethodLink_RX8_82_yX8_setOut C dX8_meetJoint_89 (by decide) (Nat.le_of_ble_eq_true rfl) hf (fun t_near_89 t_far_89 t_totals_89 hf => ?_)
  refine v_iload_n 2 C dX8_meetJoint_92 rfl rfl ?_
  refine v_aload_n 1 C dX8_meetJoint_93 rfl rfl ?_
  refine Cg_62_count wfieldLink_RX8_33_LineEchoes_Bench_count_I C dX8_meetJoint_94 ?_
  refine v_icmp_ge 130 C dX8_meetJoint_97 (by decide) hf (fun c hf => ?_) (fun c hf => ?_)
  · refine v_aload_n 0 C dX8_meetJoint_130 rfl rfl ?_
    refine Cg_67_totals wfieldLink_RX8_23_LineEchoes_Wave_totals_J C dX8_meetJoint_131 ?_
    refine v_iconst (v := 2) C dX8_meetJoint_134 (by decide) ?_
    refine v_dup2_11 C dX8_meetJoint_135 rfl rfl ?_
    refine Cal_71 C dX8_meetJoint_136 hf (fun z136 hf => ?_)
    refine v_lload 4 C dX8_meetJoint_137 rfl ?_
    refine v_lload 6 C dX8_meetJoint_139 rfl ?_
    refine v_lsub C dX8_meetJoint_141 hf (fun z141 hf => ?_)
    refine v_ladd C dX8_meetJoint_142 hf (fun z142 hf => ?_)
    refine Cas_71 C dX8_meetJoint_143 hf (fun t_totals_143 hf => ?_)
    refine v_lv [] [] rfl ?_
    exact Cb_W_meetJoint_t_q_144 C hret hf
  · refine v_aload_n 0 C dX8_meetJoint_100 rfl rfl ?_
    refine v_lload 4 C dX8_meetJoint_101 rfl ?_
    refine v_lload 6 C dX8_meetJoint_103 rfl ?_
    refine v_lsub C dX8_meetJoint_105 hf (fun z105 hf => ?_)
    refine v_lload 7 C dX8_meetJoint_106 rfl ?_
    refine Cc_W_countMerging_t wmethodLink_RX8_89_yX8_countMerging C dX8_meetJoint_108 (by decide) (Nat.le_of_ble_eq_true rfl) hf (fun t_totals_108 hf => ?_)
    refine v_aload_n 0 C dX8_meetJoint_111 rfl rfl ?_
    refine v_aload_n 1 C dX8_meetJoint_112 rfl rfl ?_
    refine v_iload_n 2 C dX8_meetJoint_113 rfl rfl ?_
    refine v_iconst (v := 1) C dX8_meetJoint_114 (by decide) ?_
    refine v_iload_n 3 C dX8_meetJoint_115 rfl rfl ?_
    refine v_lload 4 C dX8_meetJoint_116 rfl ?_
    refine v_lload 6 C dX8_meetJoint_118 rfl ?_
    refine v_lsub C dX8_meetJoint_120 hf (fun z120 hf => ?_)
    refine v_lload 7 C dX8_meetJoint_121 rfl ?_
    refine v_ladd C dX8_meetJoint_123 hf (fun z123 hf => ?_)
    refine Cc_W_setOut_t_q wmethodLink_RX8_82_yX8_setOut C dX8_meetJoint_124 (by decide) (Nat.le_of_ble_eq_true rfl) hf (fun t_near_124 t_far_124 t_totals_124 hf => ?_)
    refine v_goto 144 C dX8_meetJoint_127 (by decide) ?_
    refine v_lv [] [] rfl ?_
    exact Cb_W_meetJoint_t_q_144 C hret hf
def Cf_W_meetJoint_t_q (c_q_count : Int32) (c_q_least : Int32) (c_q_window : Int32) (c_q_lengths : Nat → Int32) (c_q_fractions : Nat → Int32) (c_t_near : Nat → Nat → Int64) (c_t_far : Nat → Nat → Int64) (c_t_totals : Nat → Int64) (x2 : Int32) (x3 : Int32) : Option ((Nat → Nat → Int64) × (Nat → Nat → Int64) × (Nat → Int64)) :=
  chk (inb x2 9) <|
  chk (inb x3 201) <| nm (c_t_near x2.toNatClampNeg x3.toNatClampNeg) fun z7 =>
  chk (inb x2 9) <|
  chk (inb x3 201) <| nm (c_t_far x2.toNatClampNeg x3.toNatClampNeg) fun z17 =>
  if z7 = (0 : Int64) then
    if z17 = (0 : Int64) then
      some (c_t_near, c_t_far, c_t_totals)
    else
      Cf_W_meetJoint_t_q_35 c_q_count c_q_least c_q_window c_q_lengths c_q_fractions c_t_near c_t_far c_t_totals x2 x3 z7 z17
  else
    Cf_W_meetJoint_t_q_35 c_q_count c_q_least c_q_window c_q_lengths c_q_fractions c_t_near c_t_far c_t_totals x2 x3 z7 z17
set_option maxRecDepth 100000 in
set_option maxHeartbeats 4000000 in
theorem Cb_W_meetJoint_t_q (C : Cx X (SFG E) T cX8_meetJoint RX8 none 13 1 27) {x2 : Int32} {x3 : Int32} {o_t_near : Nat → Nat → Int64} {o_t_far : Nat → Nat → Int64} {o_t_totals : Nat → Int64} (hret : RetOK X 0 0 none (wL E a T c_waveIsFresh c_peelingIsFresh c_n_count c_n_front c_n_least c_n_window c_n_pulses c_n_lengths c_n_fractions c_n_pulseTimes c_n_pulseEnergies c_n_sound c_n_seen c_hcount c_hp c_h0_count c_h0_front c_h0_least c_h0_window c_h0_pulses c_h0_lengths c_h0_fractions c_h0_pulseTimes c_h0_pulseEnergies c_h0_sound c_h0_seen c_h1_count c_h1_front c_h1_least c_h1_window c_h1_pulses c_h1_lengths c_h1_fractions c_h1_pulseTimes c_h1_pulseEnergies c_h1_sound c_h1_seen c_h2_count c_h2_front c_h2_least c_h2_window c_h2_pulses c_h2_lengths c_h2_fractions c_h2_pulseTimes c_h2_pulseEnergies c_h2_sound c_h2_seen c_s_length c_s_command c_s_position c_s_fault c_s_bytes c_s_numbers c_w_near c_w_far c_w_echoes c_w_totals c_p_result c_p_endTime c_q_count c_q_front c_q_least c_q_window c_q_pulses c_q_lengths c_q_fractions c_q_pulseTimes c_q_pulseEnergies o_t_near o_t_far c_t_echoes o_t_totals)) (hf : Cf_W_meetJoint_t_q c_q_count c_q_least c_q_window c_q_lengths c_q_fractions c_t_near c_t_far c_t_totals x2 x3 = some (o_t_near, o_t_far, o_t_totals)) : V X 0 0 (wL E a T c_waveIsFresh c_peelingIsFresh c_n_count c_n_front c_n_least c_n_window c_n_pulses c_n_lengths c_n_fractions c_n_pulseTimes c_n_pulseEnergies c_n_sound c_n_seen c_hcount c_hp c_h0_count c_h0_front c_h0_least c_h0_window c_h0_pulses c_h0_lengths c_h0_fractions c_h0_pulseTimes c_h0_pulseEnergies c_h0_sound c_h0_seen c_h1_count c_h1_front c_h1_least c_h1_window c_h1_pulses c_h1_lengths c_h1_fractions c_h1_pulseTimes c_h1_pulseEnergies c_h1_sound c_h1_seen c_h2_count c_h2_front c_h2_least c_h2_window c_h2_pulses c_h2_lengths c_h2_fractions c_h2_pulseTimes c_h2_pulseEnergies c_h2_sound c_h2_seen c_s_length c_s_command c_s_position c_s_fault c_s_bytes c_s_numbers c_w_near c_w_far c_w_echoes c_w_totals c_p_result c_p_endTime c_q_count c_q_front c_q_least c_q_window c_q_pulses c_q_lengths c_q_fractions c_q_pulseTimes c_q_pulseEnergies c_t_near c_t_far c_t_echoes c_t_totals) [(0, .ref (a 67)), (1, .ref (a 62)), (2, .int x2), (3, .int x3)] 0 [] := by
  unfold Cf_W_meetJoint_t_q at hf
  refine v_aload_n 0 C dX8_meetJoint_0 rfl rfl ?_
  refine Cg_67_fromNear wfieldLink_RX8_11_LineEchoes_Wave_fromNear_J C dX8_meetJoint_1 ?_
  refine v_iload_n 2 C dX8_meetJoint_4 rfl rfl ?_
  refine Cao_68 C dX8_meetJoint_5 hf (fun hj5 hf => ?_)
  refine v_iload_n 3 C dX8_meetJoint_6 rfl rfl ?_
  refine Crl_72 hj5 C dX8_meetJoint_7 hf (fun z7 hf => ?_)
  refine v_lstore [(0, .ref (a 67)), (1, .ref (a 62)), (2, .int x2), (3, .int x3), (4, .long z7)] [1, 2, 3, 4, 0] C dX8_meetJoint_8 (by decide) rfl ?_
  refine v_aload_n 0 C dX8_meetJoint_10 rfl rfl ?_
  refine Cg_67_fromFar wfieldLink_RX8_16_LineEchoes_Wave_fromFar_J C dX8_meetJoint_11 ?_
  refine v_iload_n 2 C dX8_meetJoint_14 rfl rfl ?_
  refine Cao_69 C dX8_meetJoint_15 hf (fun hj15 hf => ?_)
  refine v_iload_n 3 C dX8_meetJoint_16 rfl rfl ?_
  refine Crl_81 hj15 C dX8_meetJoint_17 hf (fun z17 hf => ?_)
  refine v_lstore [(0, .ref (a 67)), (1, .ref (a 62)), (2, .int x2), (3, .int x3), (4, .long z7), (6, .long z17)] [1, 2, 3, 4, 5, 0] C dX8_meetJoint_18 (by decide) rfl ?_
  refine v_lload 4 C dX8_meetJoint_20 rfl ?_
  refine v_lconst (v := 0) C dX8_meetJoint_22 (by decide) ?_
  refine v_lcmp_ne 35 C dX8_meetJoint_23 dX8_meetJoint_24 (by decide) hf (fun c hf => ?_) (fun c hf => ?_)
  · refine v_lload 5 C dX8_meetJoint_27 rfl ?_
    refine v_lconst (v := 0) C dX8_meetJoint_29 (by decide) ?_
    refine v_lcmp_ne 35 C dX8_meetJoint_30 dX8_meetJoint_31 (by decide) hf (fun c hf => ?_) (fun c hf => ?_)
    · cases hf
      exact v_vret C hret dX8_meetJoint_34
    · exact Cb_W_meetJoint_t_q_35 C hret hf
  · exact Cb_W_meetJoint_t_q_35 C hret hf
set_option maxRecDepth 100000 in
set_option maxHeartbeats 4000000 in
theorem Cm_W_meetJoint_t_q {D : va_G} {x2 : Int32} {x3 : Int32} {o_t_near : Nat → Nat → Int64} {o_t_far : Nat → Nat → Int64} {o_t_totals : Nat → Int64} (hf : Cf_W_meetJoint_t_q c_q_count c_q_least c_q_window c_q_lengths c_q_fractions c_t_near c_t_far c_t_totals x2 x3 = some (o_t_near, o_t_far, o_t_totals)) : MetM (SFG E) yX8_meetJoint cX8_meetJoint 13 none { frames := 1, cells := 0, slots := 0, locals := 27 } D T [.ref (a 67), .ref (a 62), .int x2, .int x3] (wL E a T c_waveIsFresh c_peelingIsFresh c_n_count c_n_front c_n_least c_n_window c_n_pulses c_n_lengths c_n_fractions c_n_pulseTimes c_n_pulseEnergies c_n_sound c_n_seen c_hcount c_hp c_h0_count c_h0_front c_h0_least c_h0_window c_h0_pulses c_h0_lengths c_h0_fractions c_h0_pulseTimes c_h0_pulseEnergies c_h0_sound c_h0_seen c_h1_count c_h1_front c_h1_least c_h1_window c_h1_pulses c_h1_lengths c_h1_fractions c_h1_pulseTimes c_h1_pulseEnergies c_h1_sound c_h1_seen c_h2_count c_h2_front c_h2_least c_h2_window c_h2_pulses c_h2_lengths c_h2_fractions c_h2_pulseTimes c_h2_pulseEnergies c_h2_sound c_h2_seen c_s_length c_s_command c_s_position c_s_fault c_s_bytes c_s_numbers c_w_near c_w_far c_w_echoes c_w_totals c_p_result c_p_endTime c_q_count c_q_front c_q_least c_q_window c_q_pulses c_q_lengths c_q_fractions c_q_pulseTimes c_q_pulseEnergies c_t_near c_t_far c_t_echoes c_t_totals) none (wL E a T c_waveIsFresh c_peelingIsFresh c_n_count c_n_front c_n_least c_n_window c_n_pulses c_n_lengths c_n_fractions c_n_pulseTimes c_n_pulseEnergies c_n_sound c_n_seen c_hcount c_hp c_h0_count c_h0_front c_h0_least c_h0_window c_h0_pulses c_h0_lengths c_h0_fractions c_h0_pulseTimes c_h0_pulseEnergies c_h0_sound c_h0_seen c_h1_count c_h1_front c_h1_least c_h1_window c_h1_pulses c_h1_lengths c_h1_fractions c_h1_pulseTimes c_h1_pulseEnergies c_h1_sound c_h1_seen c_h2_count c_h2_front c_h2_least c_h2_window c_h2_pulses c_h2_lengths c_h2_fractions c_h2_pulseTimes c_h2_pulseEnergies c_h2_sound c_h2_seen c_s_length c_s_command c_s_position c_s_fault c_s_bytes c_s_numbers c_w_near c_w_far c_w_echoes c_w_totals c_p_result c_p_endTime c_q_count c_q_front c_q_least c_q_window c_q_pulses c_q_lengths c_q_fractions c_q_pulseTimes c_q_pulseEnergies o_t_near o_t_far c_t_echoes o_t_totals) :=
  MetM.of [(0, .ref (a 67)), (1, .ref (a 62)), (2, .int x2), (3, .int x3)] (by decide) (Nat.le_of_ble_eq_true rfl) rfl (fun X C hret => Cb_W_meetJoint_t_q C hret hf)
def Cf_W_addUpEchoes_t_69 (rec : (Nat → Int64) → Int32 → Option (Nat → Int64)) (c_t_totals : Nat → Int64) (x1 : Int32) : Option (Nat → Int64) :=
  nm (x1 + (1 : Int32)) fun x1_69 =>
  rec c_t_totals x1_69
set_option maxRecDepth 100000 in
set_option maxHeartbeats 4000000 in
theorem Cb_W_addUpEchoes_t_69 (C : Cx X (SFG E) T cX8_addUpEchoes RX8 none 2 1 30) {rec : (Nat → Int64) → Int32 → Option (Nat → Int64)} {x1 : Int32} {o_t_totals : Nat → Int64} (hrec : ∀ (c_t_totals : Nat → Int64) (x1 : Int32), rec c_t_totals x1 = some o_t_totals → V X 0 0 (wL E a T c_waveIsFresh c_peelingIsFresh c_n_count c_n_front c_n_least c_n_window c_n_pulses c_n_lengths c_n_fractions c_n_pulseTimes c_n_pulseEnergies c_n_sound c_n_seen c_hcount c_hp c_h0_count c_h0_front c_h0_least c_h0_window c_h0_pulses c_h0_lengths c_h0_fractions c_h0_pulseTimes c_h0_pulseEnergies c_h0_sound c_h0_seen c_h1_count c_h1_front c_h1_least c_h1_window c_h1_pulses c_h1_lengths c_h1_fractions c_h1_pulseTimes c_h1_pulseEnergies c_h1_sound c_h1_seen c_h2_count c_h2_front c_h2_least c_h2_window c_h2_pulses c_h2_lengths c_h2_fractions c_h2_pulseTimes c_h2_pulseEnergies c_h2_sound c_h2_seen c_s_length c_s_command c_s_position c_s_fault c_s_bytes c_s_numbers c_w_near c_w_far c_w_echoes c_w_totals c_p_result c_p_endTime c_q_count c_q_front c_q_least c_q_window c_q_pulses c_q_lengths c_q_fractions c_q_pulseTimes c_q_pulseEnergies c_t_near c_t_far c_t_echoes c_t_totals) [(0, .ref (a 67)), (1, .int x1)] 2 []) (hk : V X 0 0 (wL E a T c_waveIsFresh c_peelingIsFresh c_n_count c_n_front c_n_least c_n_window c_n_pulses c_n_lengths c_n_fractions c_n_pulseTimes c_n_pulseEnergies c_n_sound c_n_seen c_hcount c_hp c_h0_count c_h0_front c_h0_least c_h0_window c_h0_pulses c_h0_lengths c_h0_fractions c_h0_pulseTimes c_h0_pulseEnergies c_h0_sound c_h0_seen c_h1_count c_h1_front c_h1_least c_h1_window c_h1_pulses c_h1_lengths c_h1_fractions c_h1_pulseTimes c_h1_pulseEnergies c_h1_sound c_h1_seen c_h2_count c_h2_front c_h2_least c_h2_window c_h2_pulses c_h2_lengths c_h2_fractions c_h2_pulseTimes c_h2_pulseEnergies c_h2_sound c_h2_seen c_s_length c_s_command c_s_position c_s_fault c_s_bytes c_s_numbers c_w_near c_w_far c_w_echoes c_w_totals c_p_result c_p_endTime c_q_count c_q_front c_q_least c_q_window c_q_pulses c_q_lengths c_q_fractions c_q_pulseTimes c_q_pulseEnergies c_t_near c_t_far c_t_echoes o_t_totals) [] 75 []) (hf : Cf_W_addUpEchoes_t_69 rec c_t_totals x1 = some o_t_totals) : V X 0 0 (wL E a T c_waveIsFresh c_peelingIsFresh c_n_count c_n_front c_n_least c_n_window c_n_pulses c_n_lengths c_n_fractions c_n_pulseTimes c_n_pulseEnergies c_n_sound c_n_seen c_hcount c_hp c_h0_count c_h0_front c_h0_least c_h0_window c_h0_pulses c_h0_lengths c_h0_fractions c_h0_pulseTimes c_h0_pulseEnergies c_h0_sound c_h0_seen c_h1_count c_h1_front c_h1_least c_h1_window c_h1_pulses c_h1_lengths c_h1_fractions c_h1_pulseTimes c_h1_pulseEnergies c_h1_sound c_h1_seen c_h2_count c_h2_front c_h2_least c_h2_window c_h2_pulses c_h2_lengths c_h2_fractions c_h2_pulseTimes c_h2_pulseEnergies c_h2_sound c_h2_seen c_s_length c_s_command c_s_position c_s_fault c_s_bytes c_s_numbers c_w_near c_w_far c_w_echoes c_w_totals c_p_result c_p_endTime c_q_count c_q_front c_q_least c_q_window c_q_pulses c_q_lengths c_q_fractions c_q_pulseTimes c_q_pulseEnergies c_t_near c_t_far c_t_echoes c_t_totals) [(0, .ref (a 67)), (1, .int x1)] 69 [] := by
  unfold Cf_W_addUpEchoes_t_69 at hf
  refine v_iinc (fun x1_69 => [(0, .ref (a 67)), (1, .int x1_69)]) [1, 0] C dX8_addUpEchoes_69 (j := 1) rfl (dv := 1) (by decide) (by decide) (fun _ => rfl) hf (fun x1_69 hf => ?_)
  refine v_goto 2 C dX8_addUpEchoes_72 (by decide) ?_
  exact hrec _ _ hf
def Cl_W_addUpEchoes_t_2 (c_t_echoes : Nat → Int64) : Nat → (Nat → Int64) → Int32 → Option (Nat → Int64)
  | 0, _, _ => none
  | n + 1, c_t_totals, x1 =>
    if (201 : Int32) ≤ x1 then
      some c_t_totals
    else
      chk (inb x1 201) <| nm (c_t_echoes x1.toNatClampNeg) fun z14 =>
      if z14 ≤ (0 : Int64) then
        Cf_W_addUpEchoes_t_69 (Cl_W_addUpEchoes_t_2 c_t_echoes n) c_t_totals x1
      else
        chk (inb (1 : Int32) 9) <| nm (c_t_totals (1 : Int32).toNatClampNeg) fun z26 =>
        chk (inb x1 201) <| nm (c_t_echoes x1.toNatClampNeg) fun z32 =>
        nm (z26 + z32) fun z33 =>
        chk (inb (1 : Int32) 9) <| nm (vp_updL c_t_totals (1 : Int32).toNatClampNeg z33) fun t_totals_34 =>
        chk (inb (7 : Int32) 9) <| nm (t_totals_34 (7 : Int32).toNatClampNeg) fun z42 =>
        nm (z42 + (1 : Int64)) fun z44 =>
        chk (inb (7 : Int32) 9) <| nm (vp_updL t_totals_34 (7 : Int32).toNatClampNeg z44) fun t_totals_45 =>
        chk (inb (8 : Int32) 9) <| nm (t_totals_45 (8 : Int32).toNatClampNeg) fun z58 =>
        chk (inb x1 201) <| nm (c_t_echoes x1.toNatClampNeg) fun z64 =>
        nm (if z64 < z58 then z58 else z64) fun z65 =>
        chk (inb (8 : Int32) 9) <| nm (vp_updL t_totals_45 (8 : Int32).toNatClampNeg z65) fun t_totals_68 =>
        Cf_W_addUpEchoes_t_69 (Cl_W_addUpEchoes_t_2 c_t_echoes n) t_totals_68 x1
set_option maxRecDepth 100000 in
set_option maxHeartbeats 4000000 in
theorem Ck_W_addUpEchoes_t_2 (C : Cx X (SFG E) T cX8_addUpEchoes RX8 none 2 1 30)  {o_t_totals : Nat → Int64} (hk : V X 0 0 (wL E a T c_waveIsFresh c_peelingIsFresh c_n_count c_n_front c_n_least c_n_window c_n_pulses c_n_lengths c_n_fractions c_n_pulseTimes c_n_pulseEnergies c_n_sound c_n_seen c_hcount c_hp c_h0_count c_h0_front c_h0_least c_h0_window c_h0_pulses c_h0_lengths c_h0_fractions c_h0_pulseTimes c_h0_pulseEnergies c_h0_sound c_h0_seen c_h1_count c_h1_front c_h1_least c_h1_window c_h1_pulses c_h1_lengths c_h1_fractions c_h1_pulseTimes c_h1_pulseEnergies c_h1_sound c_h1_seen c_h2_count c_h2_front c_h2_least c_h2_window c_h2_pulses c_h2_lengths c_h2_fractions c_h2_pulseTimes c_h2_pulseEnergies c_h2_sound c_h2_seen c_s_length c_s_command c_s_position c_s_fault c_s_bytes c_s_numbers c_w_near c_w_far c_w_echoes c_w_totals c_p_result c_p_endTime c_q_count c_q_front c_q_least c_q_window c_q_pulses c_q_lengths c_q_fractions c_q_pulseTimes c_q_pulseEnergies c_t_near c_t_far c_t_echoes o_t_totals) [] 75 []) : ∀ (n : Nat) (c_t_totals : Nat → Int64) (x1 : Int32), Cl_W_addUpEchoes_t_2 c_t_echoes n c_t_totals x1 = some o_t_totals → V X 0 0 (wL E a T c_waveIsFresh c_peelingIsFresh c_n_count c_n_front c_n_least c_n_window c_n_pulses c_n_lengths c_n_fractions c_n_pulseTimes c_n_pulseEnergies c_n_sound c_n_seen c_hcount c_hp c_h0_count c_h0_front c_h0_least c_h0_window c_h0_pulses c_h0_lengths c_h0_fractions c_h0_pulseTimes c_h0_pulseEnergies c_h0_sound c_h0_seen c_h1_count c_h1_front c_h1_least c_h1_window c_h1_pulses c_h1_lengths c_h1_fractions c_h1_pulseTimes c_h1_pulseEnergies c_h1_sound c_h1_seen c_h2_count c_h2_front c_h2_least c_h2_window c_h2_pulses c_h2_lengths c_h2_fractions c_h2_pulseTimes c_h2_pulseEnergies c_h2_sound c_h2_seen c_s_length c_s_command c_s_position c_s_fault c_s_bytes c_s_numbers c_w_near c_w_far c_w_echoes c_w_totals c_p_result c_p_endTime c_q_count c_q_front c_q_least c_q_window c_q_pulses c_q_lengths c_q_fractions c_q_pulseTimes c_q_pulseEnergies c_t_near c_t_far c_t_echoes c_t_totals) [(0, .ref (a 67)), (1, .int x1)] 2 [] := by
  intro n
  induction n with
  | zero =>
    intro _ _ hf
    cases hf
  | succ n hrec =>
    intro c_t_totals x1 hf
    rw [Cl_W_addUpEchoes_t_2] at hf
    refine v_iload_n 1 C dX8_addUpEchoes_2 rfl rfl ?_
    refine v_sipush (v := 201) C dX8_addUpEchoes_3 (by decide) ?_
    refine v_icmp_ge 75 C dX8_addUpEchoes_6 (by decide) hf (fun c hf => ?_) (fun c hf => ?_)
    · refine v_lv [] [] rfl ?_
      cases hf
      exact hk
    · refine v_aload_n 0 C dX8_addUpEchoes_9 rfl rfl ?_
      refine Cg_67_echoes wfieldLink_RX8_19_LineEchoes_Wave_echoes_J C dX8_addUpEchoes_10 ?_
      refine v_iload_n 1 C dX8_addUpEchoes_13 rfl rfl ?_
      refine Cal_70 C dX8_addUpEchoes_14 hf (fun z14 hf => ?_)
      refine v_lconst (v := 0) C dX8_addUpEchoes_15 (by decide) ?_
      refine v_lcmp_le 69 C dX8_addUpEchoes_16 dX8_addUpEchoes_17 (by decide) hf (fun c hf => ?_) (fun c hf => ?_)
      · exact Cb_W_addUpEchoes_t_69 C hrec hk hf
      · refine v_aload_n 0 C dX8_addUpEchoes_20 rfl rfl ?_
        refine Cg_67_totals wfieldLink_RX8_23_LineEchoes_Wave_totals_J C dX8_addUpEchoes_21 ?_
        refine v_iconst (v := 1) C dX8_addUpEchoes_24 (by decide) ?_
        refine v_dup2_11 C dX8_addUpEchoes_25 rfl rfl ?_
        refine Cal_71 C dX8_addUpEchoes_26 hf (fun z26 hf => ?_)
        refine v_aload_n 0 C dX8_addUpEchoes_27 rfl rfl ?_
        refine Cg_67_echoes wfieldLink_RX8_19_LineEchoes_Wave_echoes_J C dX8_addUpEchoes_28 ?_
        refine v_iload_n 1 C dX8_addUpEchoes_31 rfl rfl ?_
        refine Cal_70 C dX8_addUpEchoes_32 hf (fun z32 hf => ?_)
        refine v_ladd C dX8_addUpEchoes_33 hf (fun z33 hf => ?_)
        refine Cas_71 C dX8_addUpEchoes_34 hf (fun t_totals_34 hf => ?_)
        refine v_aload_n 0 C dX8_addUpEchoes_35 rfl rfl ?_
        refine Cg_67_totals wfieldLink_RX8_23_LineEchoes_Wave_totals_J C dX8_addUpEchoes_36 ?_
        refine v_bipush (v := 7) C dX8_addUpEchoes_39 (by decide) ?_
        refine v_dup2_11 C dX8_addUpEchoes_41 rfl rfl ?_
        refine Cal_71 C dX8_addUpEchoes_42 hf (fun z42 hf => ?_)
        refine v_lconst (v := 1) C dX8_addUpEchoes_43 (by decide) ?_
        refine v_ladd C dX8_addUpEchoes_44 hf (fun z44 hf => ?_)
        refine Cas_71 C dX8_addUpEchoes_45 hf (fun t_totals_45 hf => ?_)
        refine v_aload_n 0 C dX8_addUpEchoes_46 rfl rfl ?_
        refine Cg_67_totals wfieldLink_RX8_23_LineEchoes_Wave_totals_J C dX8_addUpEchoes_47 ?_
        refine v_bipush (v := 8) C dX8_addUpEchoes_50 (by decide) ?_
        refine v_aload_n 0 C dX8_addUpEchoes_52 rfl rfl ?_
        refine Cg_67_totals wfieldLink_RX8_23_LineEchoes_Wave_totals_J C dX8_addUpEchoes_53 ?_
        refine v_bipush (v := 8) C dX8_addUpEchoes_56 (by decide) ?_
        refine Cal_71 C dX8_addUpEchoes_58 hf (fun z58 hf => ?_)
        refine v_aload_n 0 C dX8_addUpEchoes_59 rfl rfl ?_
        refine Cg_67_echoes wfieldLink_RX8_19_LineEchoes_Wave_echoes_J C dX8_addUpEchoes_60 ?_
        refine v_iload_n 1 C dX8_addUpEchoes_63 rfl rfl ?_
        refine Cal_70 C dX8_addUpEchoes_64 hf (fun z64 hf => ?_)
        refine Ce_max wmethodLink_RX8_69_Lib_MathLoose_max_long_x C dX8_addUpEchoes_65 (by decide) (Nat.le_of_ble_eq_true rfl) hf (fun z65 hf => ?_)
        refine Cas_71 C dX8_addUpEchoes_68 hf (fun t_totals_68 hf => ?_)
        exact Cb_W_addUpEchoes_t_69 C hrec hk hf
def Cf_W_addUpEchoes_t (c_t_echoes : Nat → Int64) (c_t_totals : Nat → Int64) : Option (Nat → Int64) :=
  bd (Cl_W_addUpEchoes_t_2 c_t_echoes FUEL c_t_totals (0 : Int32)) fun o_t_totals_2 =>
  some o_t_totals_2
set_option maxRecDepth 100000 in
set_option maxHeartbeats 4000000 in
theorem Cb_W_addUpEchoes_t (C : Cx X (SFG E) T cX8_addUpEchoes RX8 none 2 1 30)  {o_t_totals : Nat → Int64} (hret : RetOK X 0 0 none (wL E a T c_waveIsFresh c_peelingIsFresh c_n_count c_n_front c_n_least c_n_window c_n_pulses c_n_lengths c_n_fractions c_n_pulseTimes c_n_pulseEnergies c_n_sound c_n_seen c_hcount c_hp c_h0_count c_h0_front c_h0_least c_h0_window c_h0_pulses c_h0_lengths c_h0_fractions c_h0_pulseTimes c_h0_pulseEnergies c_h0_sound c_h0_seen c_h1_count c_h1_front c_h1_least c_h1_window c_h1_pulses c_h1_lengths c_h1_fractions c_h1_pulseTimes c_h1_pulseEnergies c_h1_sound c_h1_seen c_h2_count c_h2_front c_h2_least c_h2_window c_h2_pulses c_h2_lengths c_h2_fractions c_h2_pulseTimes c_h2_pulseEnergies c_h2_sound c_h2_seen c_s_length c_s_command c_s_position c_s_fault c_s_bytes c_s_numbers c_w_near c_w_far c_w_echoes c_w_totals c_p_result c_p_endTime c_q_count c_q_front c_q_least c_q_window c_q_pulses c_q_lengths c_q_fractions c_q_pulseTimes c_q_pulseEnergies c_t_near c_t_far c_t_echoes o_t_totals)) (hf : Cf_W_addUpEchoes_t c_t_echoes c_t_totals = some o_t_totals) : V X 0 0 (wL E a T c_waveIsFresh c_peelingIsFresh c_n_count c_n_front c_n_least c_n_window c_n_pulses c_n_lengths c_n_fractions c_n_pulseTimes c_n_pulseEnergies c_n_sound c_n_seen c_hcount c_hp c_h0_count c_h0_front c_h0_least c_h0_window c_h0_pulses c_h0_lengths c_h0_fractions c_h0_pulseTimes c_h0_pulseEnergies c_h0_sound c_h0_seen c_h1_count c_h1_front c_h1_least c_h1_window c_h1_pulses c_h1_lengths c_h1_fractions c_h1_pulseTimes c_h1_pulseEnergies c_h1_sound c_h1_seen c_h2_count c_h2_front c_h2_least c_h2_window c_h2_pulses c_h2_lengths c_h2_fractions c_h2_pulseTimes c_h2_pulseEnergies c_h2_sound c_h2_seen c_s_length c_s_command c_s_position c_s_fault c_s_bytes c_s_numbers c_w_near c_w_far c_w_echoes c_w_totals c_p_result c_p_endTime c_q_count c_q_front c_q_least c_q_window c_q_pulses c_q_lengths c_q_fractions c_q_pulseTimes c_q_pulseEnergies c_t_near c_t_far c_t_echoes c_t_totals) [(0, .ref (a 67))] 0 [] := by
  unfold Cf_W_addUpEchoes_t at hf
  refine v_iconst (v := 0) C dX8_addUpEchoes_0 (by decide) ?_
  refine v_istore_n [(0, .ref (a 67)), (1, .int (0 : Int32))] [1, 0] C dX8_addUpEchoes_1 rfl (by decide) rfl ?_
  obtain ⟨o_t_totals_2, hc, hf⟩ := bd_some hf
  refine Ck_W_addUpEchoes_t_2 C ?_ _ _ _ hc
  cases hf
  exact v_vret C hret dX8_addUpEchoes_75
set_option maxRecDepth 100000 in
set_option maxHeartbeats 4000000 in
theorem Cm_W_addUpEchoes_t {D : va_G}  {o_t_totals : Nat → Int64} (hf : Cf_W_addUpEchoes_t c_t_echoes c_t_totals = some o_t_totals) : MetM (SFG E) yX8_addUpEchoes cX8_addUpEchoes 2 none { frames := 1, cells := 0, slots := 0, locals := 30 } D T [.ref (a 67)] (wL E a T c_waveIsFresh c_peelingIsFresh c_n_count c_n_front c_n_least c_n_window c_n_pulses c_n_lengths c_n_fractions c_n_pulseTimes c_n_pulseEnergies c_n_sound c_n_seen c_hcount c_hp c_h0_count c_h0_front c_h0_least c_h0_window c_h0_pulses c_h0_lengths c_h0_fractions c_h0_pulseTimes c_h0_pulseEnergies c_h0_sound c_h0_seen c_h1_count c_h1_front c_h1_least c_h1_window c_h1_pulses c_h1_lengths c_h1_fractions c_h1_pulseTimes c_h1_pulseEnergies c_h1_sound c_h1_seen c_h2_count c_h2_front c_h2_least c_h2_window c_h2_pulses c_h2_lengths c_h2_fractions c_h2_pulseTimes c_h2_pulseEnergies c_h2_sound c_h2_seen c_s_length c_s_command c_s_position c_s_fault c_s_bytes c_s_numbers c_w_near c_w_far c_w_echoes c_w_totals c_p_result c_p_endTime c_q_count c_q_front c_q_least c_q_window c_q_pulses c_q_lengths c_q_fractions c_q_pulseTimes c_q_pulseEnergies c_t_near c_t_far c_t_echoes c_t_totals) none (wL E a T c_waveIsFresh c_peelingIsFresh c_n_count c_n_front c_n_least c_n_window c_n_pulses c_n_lengths c_n_fractions c_n_pulseTimes c_n_pulseEnergies c_n_sound c_n_seen c_hcount c_hp c_h0_count c_h0_front c_h0_least c_h0_window c_h0_pulses c_h0_lengths c_h0_fractions c_h0_pulseTimes c_h0_pulseEnergies c_h0_sound c_h0_seen c_h1_count c_h1_front c_h1_least c_h1_window c_h1_pulses c_h1_lengths c_h1_fractions c_h1_pulseTimes c_h1_pulseEnergies c_h1_sound c_h1_seen c_h2_count c_h2_front c_h2_least c_h2_window c_h2_pulses c_h2_lengths c_h2_fractions c_h2_pulseTimes c_h2_pulseEnergies c_h2_sound c_h2_seen c_s_length c_s_command c_s_position c_s_fault c_s_bytes c_s_numbers c_w_near c_w_far c_w_echoes c_w_totals c_p_result c_p_endTime c_q_count c_q_front c_q_least c_q_window c_q_pulses c_q_lengths c_q_fractions c_q_pulseTimes c_q_pulseEnergies c_t_near c_t_far c_t_echoes o_t_totals) :=
  MetM.of [(0, .ref (a 67))] (by decide) (Nat.le_of_ble_eq_true rfl) rfl (fun X C hret => Cb_W_addUpEchoes_t C hret hf)
set_option maxRecDepth 100000 in
theorem Cc_W_meetJoint_t_q {x2 : Int32} {x3 : Int32} {cc : ByteArray} {own : String} {ret : Option FieldType} {nl fr lo pc ix : Nat} {lv : List (Nat × Value)} {rest : List Value} {β : Type} {K : ((Nat → Nat → Int64) × (Nat → Nat → Int64) × (Nat → Int64)) → Option β} {oo : β} (hl : Cond.methodLink own ix yX8_meetJoint ∈ wsG) (C : Cx X (SFG E) T cc own ret nl fr lo) (hdg : decode cc pc = .ok (.invokevirtual ix, 3)) (hroom : 1 + 1 ≤ fr ∧ 8 + (13 + 11) + 27 ≤ lo) (hst : (rest.map fun v => v.category).sum ≤ 8) (hf : bd (Cf_W_meetJoint_t_q c_q_count c_q_least c_q_window c_q_lengths c_q_fractions c_t_near c_t_far c_t_totals x2 x3) K = some oo) (kk : ∀ (o_t_near : Nat → Nat → Int64) (o_t_far : Nat → Nat → Int64) (o_t_totals : Nat → Int64), K (o_t_near, o_t_far, o_t_totals) = some oo → V X 0 0 (wL E a T c_waveIsFresh c_peelingIsFresh c_n_count c_n_front c_n_least c_n_window c_n_pulses c_n_lengths c_n_fractions c_n_pulseTimes c_n_pulseEnergies c_n_sound c_n_seen c_hcount c_hp c_h0_count c_h0_front c_h0_least c_h0_window c_h0_pulses c_h0_lengths c_h0_fractions c_h0_pulseTimes c_h0_pulseEnergies c_h0_sound c_h0_seen c_h1_count c_h1_front c_h1_least c_h1_window c_h1_pulses c_h1_lengths c_h1_fractions c_h1_pulseTimes c_h1_pulseEnergies c_h1_sound c_h1_seen c_h2_count c_h2_front c_h2_least c_h2_window c_h2_pulses c_h2_lengths c_h2_fractions c_h2_pulseTimes c_h2_pulseEnergies c_h2_sound c_h2_seen c_s_length c_s_command c_s_position c_s_fault c_s_bytes c_s_numbers c_w_near c_w_far c_w_echoes c_w_totals c_p_result c_p_endTime c_q_count c_q_front c_q_least c_q_window c_q_pulses c_q_lengths c_q_fractions c_q_pulseTimes c_q_pulseEnergies o_t_near o_t_far c_t_echoes o_t_totals) lv (pc + 3) rest) : V X 0 0 (wL E a T c_waveIsFresh c_peelingIsFresh c_n_count c_n_front c_n_least c_n_window c_n_pulses c_n_lengths c_n_fractions c_n_pulseTimes c_n_pulseEnergies c_n_sound c_n_seen c_hcount c_hp c_h0_count c_h0_front c_h0_least c_h0_window c_h0_pulses c_h0_lengths c_h0_fractions c_h0_pulseTimes c_h0_pulseEnergies c_h0_sound c_h0_seen c_h1_count c_h1_front c_h1_least c_h1_window c_h1_pulses c_h1_lengths c_h1_fractions c_h1_pulseTimes c_h1_pulseEnergies c_h1_sound c_h1_seen c_h2_count c_h2_front c_h2_least c_h2_window c_h2_pulses c_h2_lengths c_h2_fractions c_h2_pulseTimes c_h2_pulseEnergies c_h2_sound c_h2_seen c_s_length c_s_command c_s_position c_s_fault c_s_bytes c_s_numbers c_w_near c_w_far c_w_echoes c_w_totals c_p_result c_p_endTime c_q_count c_q_front c_q_least c_q_window c_q_pulses c_q_lengths c_q_fractions c_q_pulseTimes c_q_pulseEnergies c_t_near c_t_far c_t_echoes c_t_totals) lv pc (.int x3 :: .int x2 :: .ref (a 62) :: .ref (a 67) :: rest) := by
  obtain ⟨⟨o_t_near, o_t_far, o_t_totals⟩, hc, hk⟩ := bd_some hf
  exact v_callV (As := [.ref (a 62), .int x2, .int x3]) (rest := rest) (q0 := 67) 3 C (CapOK.z X) (fun D => Cm_W_meetJoint_t_q hc) (goodV hl winstanceMethod_yX8_meetJoint wselects_RX8_yX8_meetJoint_yX8_meetJoint winitialized_RX8 wcode_yX8_meetJoint_cX8_meetJoint_13_none) (by decide +kernel) hroom ⟨rfl, rfl⟩ rfl rfl rfl hst hdg (kk o_t_near o_t_far o_t_totals hk)
def Cl_W_spread_t_q_47 (c_q_count : Int32) (c_q_least : Int32) (c_q_window : Int32) (c_q_lengths : Nat → Int32) (c_q_fractions : Nat → Int32) (x2 : Int32) : Nat → (Nat → Nat → Int64) → (Nat → Nat → Int64) → (Nat → Int64) → Int32 → Option ((Nat → Nat → Int64) × (Nat → Nat → Int64) × (Nat → Int64))
  | 0, _, _, _, _ => none
  | n + 1, c_t_near, c_t_far, c_t_totals, x3 =>
    if c_q_count < x3 then
      some (c_t_near, c_t_far, c_t_totals)
    else
      bd (Cf_W_meetJoint_t_q c_q_count c_q_least c_q_window c_q_lengths c_q_fractions c_t_near c_t_far c_t_totals x3 x2) fun (t_near_59, t_far_59, t_totals_59) =>
      nm (x3 + (1 : Int32)) fun x3_62 =>
      Cl_W_spread_t_q_47 c_q_count c_q_least c_q_window c_q_lengths c_q_fractions x2 n t_near_59 t_far_59 t_totals_59 x3_62
set_option maxRecDepth 100000 in
set_option maxHeartbeats 4000000 in
theorem Ck_W_spread_t_q_47 (C : Cx X (SFG E) T cX8_spread RX8 none 4 2 59) {x2 : Int32} {o_t_near : Nat → Nat → Int64} {o_t_far : Nat → Nat → Int64} {o_t_totals : Nat → Int64} (hk : V X 0 0 (wL E a T c_waveIsFresh c_peelingIsFresh c_n_count c_n_front c_n_least c_n_window c_n_pulses c_n_lengths c_n_fractions c_n_pulseTimes c_n_pulseEnergies c_n_sound c_n_seen c_hcount c_hp c_h0_count c_h0_front c_h0_least c_h0_window c_h0_pulses c_h0_lengths c_h0_fractions c_h0_pulseTimes c_h0_pulseEnergies c_h0_sound c_h0_seen c_h1_count c_h1_front c_h1_least c_h1_window c_h1_pulses c_h1_lengths c_h1_fractions c_h1_pulseTimes c_h1_pulseEnergies c_h1_sound c_h1_seen c_h2_count c_h2_front c_h2_least c_h2_window c_h2_pulses c_h2_lengths c_h2_fractions c_h2_pulseTimes c_h2_pulseEnergies c_h2_sound c_h2_seen c_s_length c_s_command c_s_position c_s_fault c_s_bytes c_s_numbers c_w_near c_w_far c_w_echoes c_w_totals c_p_result c_p_endTime c_q_count c_q_front c_q_least c_q_window c_q_pulses c_q_lengths c_q_fractions c_q_pulseTimes c_q_pulseEnergies o_t_near o_t_far c_t_echoes o_t_totals) [(0, .ref (a 67)), (1, .ref (a 62)), (2, .int x2)] 68 []) : ∀ (n : Nat) (c_t_near : Nat → Nat → Int64) (c_t_far : Nat → Nat → Int64) (c_t_totals : Nat → Int64) (x3 : Int32), Cl_W_spread_t_q_47 c_q_count c_q_least c_q_window c_q_lengths c_q_fractions x2 n c_t_near c_t_far c_t_totals x3 = some (o_t_near, o_t_far, o_t_totals) → V X 0 0 (wL E a T c_waveIsFresh c_peelingIsFresh c_n_count c_n_front c_n_least c_n_window c_n_pulses c_n_lengths c_n_fractions c_n_pulseTimes c_n_pulseEnergies c_n_sound c_n_seen c_hcount c_hp c_h0_count c_h0_front c_h0_least c_h0_window c_h0_pulses c_h0_lengths c_h0_fractions c_h0_pulseTimes c_h0_pulseEnergies c_h0_sound c_h0_seen c_h1_count c_h1_front c_h1_least c_h1_window c_h1_pulses c_h1_lengths c_h1_fractions c_h1_pulseTimes c_h1_pulseEnergies c_h1_sound c_h1_seen c_h2_count c_h2_front c_h2_least c_h2_window c_h2_pulses c_h2_lengths c_h2_fractions c_h2_pulseTimes c_h2_pulseEnergies c_h2_sound c_h2_seen c_s_length c_s_command c_s_position c_s_fault c_s_bytes c_s_numbers c_w_near c_w_far c_w_echoes c_w_totals c_p_result c_p_endTime c_q_count c_q_front c_q_least c_q_window c_q_pulses c_q_lengths c_q_fractions c_q_pulseTimes c_q_pulseEnergies c_t_near c_t_far c_t_echoes c_t_totals) [(0, .ref (a 67)), (1, .ref (a 62)), (2, .int x2), (3, .int x3)] 47 [] := by
  intro n
  induction n with
  | zero =>
    intro _ _ _ _ hf
    cases hf
  | succ n hrec =>
    intro c_t_near c_t_far c_t_totals x3 hf
    rw [Cl_W_spread_t_q_47] at hf
    refine v_iload_n 3 C dX8_spread_47 rfl rfl ?_
    refine v_aload_n 1 C dX8_spread_48 rfl rfl ?_
    refine Cg_62_count wfieldLink_RX8_33_LineEchoes_Bench_count_I C dX8_spread_49 ?_
    refine v_icmp_gt 68 C dX8_spread_52 (by decide) hf (fun c hf => ?_) (fun c hf => ?_)
    · refine v_lv [(0, .ref (a 67)), (1, .ref (a 62)), (2, .int x2)] [0, 1, 2] rfl ?_
      cases hf
      exact hk
    · refine v_aload_n 0 C dX8_spread_55 rfl rfl ?_
      refine v_aload_n 1 C dX8_spread_56 rfl rfl ?_
      refine v_iload_n 3 C dX8_spread_57 rfl rfl ?_
      refine v_iload_n 2 C dX8_spread_58 rfl rfl ?_
      refine Cc_W_meetJoint_t_q wmethodLink_RX8_46_yX8_meetJoint C dX8_spread_59 (by decide) (Nat.le_of_ble_eq_true rfl) hf (fun t_near_59 t_far_59 t_totals_59 hf => ?_)
      refine v_iinc (fun x3_62 => [(0, .ref (a 67)), (1, .ref (a 62)), (2, .int x2), (3, .int x3_62)]) [1, 2, 3, 0] C dX8_spread_62 (j := 3) rfl (dv := 1) (by decide) (by decide) (fun _ => rfl) hf (fun x3_62 hf => ?_)
      refine v_goto 47 C dX8_spread_65 (by decide) ?_
      exact hrec _ _ _ _ hf
set_option maxRecDepth 100000 in
theorem Cc_W_meetFront_t_q {x2 : Int32} {cc : ByteArray} {own : String} {ret : Option FieldType} {nl fr lo pc ix : Nat} {lv : List (Nat × Value)} {rest : List Value} {β : Type} {K : ((Nat → Nat → Int64) × (Nat → Nat → Int64) × (Nat → Int64) × (Nat → Int64)) → Option β} {oo : β} (hl : Cond.methodLink own ix yX8_meetFront ∈ wsG) (C : Cx X (SFG E) T cc own ret nl fr lo) (hdg : decode cc pc = .ok (.invokevirtual ix, 3)) (hroom : 1 + 1 ≤ fr ∧ 8 + (9 + 11) + 27 ≤ lo) (hst : (rest.map fun v => v.category).sum ≤ 8) (hf : bd (Cf_W_meetFront_t_q c_q_front c_q_least c_q_window c_q_pulses c_q_lengths c_q_pulseTimes c_q_pulseEnergies c_t_near c_t_far c_t_echoes c_t_totals x2) K = some oo) (kk : ∀ (o_t_near : Nat → Nat → Int64) (o_t_far : Nat → Nat → Int64) (o_t_echoes : Nat → Int64) (o_t_totals : Nat → Int64), K (o_t_near, o_t_far, o_t_echoes, o_t_totals) = some oo → V X 0 0 (wL E a T c_waveIsFresh c_peelingIsFresh c_n_count c_n_front c_n_least c_n_window c_n_pulses c_n_lengths c_n_fractions c_n_pulseTimes c_n_pulseEnergies c_n_sound c_n_seen c_hcount c_hp c_h0_count c_h0_front c_h0_least c_h0_window c_h0_pulses c_h0_lengths c_h0_fractions c_h0_pulseTimes c_h0_pulseEnergies c_h0_sound c_h0_seen c_h1_count c_h1_front c_h1_least c_h1_window c_h1_pulses c_h1_lengths c_h1_fractions c_h1_pulseTimes c_h1_pulseEnergies c_h1_sound c_h1_seen c_h2_count c_h2_front c_h2_least c_h2_window c_h2_pulses c_h2_lengths c_h2_fractions c_h2_pulseTimes c_h2_pulseEnergies c_h2_sound c_h2_seen c_s_length c_s_command c_s_position c_s_fault c_s_bytes c_s_numbers c_w_near c_w_far c_w_echoes c_w_totals c_p_result c_p_endTime c_q_count c_q_front c_q_least c_q_window c_q_pulses c_q_lengths c_q_fractions c_q_pulseTimes c_q_pulseEnergies o_t_near o_t_far o_t_echoes o_t_totals) lv (pc + 3) rest) : V X 0 0 (wL E a T c_waveIsFresh c_peelingIsFresh c_n_count c_n_front c_n_least c_n_window c_n_pulses c_n_lengths c_n_fractions c_n_pulseTimes c_n_pulseEnergies c_n_sound c_n_seen c_hcount c_hp c_h0_count c_h0_front c_h0_least c_h0_window c_h0_pulses c_h0_lengths c_h0_fractions c_h0_pulseTimes c_h0_pulseEnergies c_h0_sound c_h0_seen c_h1_count c_h1_front c_h1_least c_h1_window c_h1_pulses c_h1_lengths c_h1_fractions c_h1_pulseTimes c_h1_pulseEnergies c_h1_sound c_h1_seen c_h2_count c_h2_front c_h2_least c_h2_window c_h2_pulses c_h2_lengths c_h2_fractions c_h2_pulseTimes c_h2_pulseEnergies c_h2_sound c_h2_seen c_s_length c_s_command c_s_position c_s_fault c_s_bytes c_s_numbers c_w_near c_w_far c_w_echoes c_w_totals c_p_result c_p_endTime c_q_count c_q_front c_q_least c_q_window c_q_pulses c_q_lengths c_q_fractions c_q_pulseTimes c_q_pulseEnergies c_t_near c_t_far c_t_echoes c_t_totals) lv pc (.int x2 :: .ref (a 62) :: .ref (a 67) :: rest) := by
  obtain ⟨⟨o_t_near, o_t_far, o_t_echoes, o_t_totals⟩, hc, hk⟩ := bd_some hf
  exact v_callV (As := [.ref (a 62), .int x2]) (rest := rest) (q0 := 67) 2 C (CapOK.z X) (fun D => Cm_W_meetFront_t_q hc) (goodV hl winstanceMethod_yX8_meetFront wselects_RX8_yX8_meetFront_yX8_meetFront winitialized_RX8 wcode_yX8_meetFront_cX8_meetFront_9_none) (by decide +kernel) hroom ⟨rfl, rfl⟩ rfl rfl rfl hst hdg (kk o_t_near o_t_far o_t_echoes o_t_totals hk)
def Cl_W_spread_t_q_31 (c_q_count : Int32) (c_q_front : Int32) (c_q_least : Int32) (c_q_window : Int32) (c_q_pulses : Int32) (c_q_lengths : Nat → Int32) (c_q_fractions : Nat → Int32) (c_q_pulseTimes : Nat → Int32) (c_q_pulseEnergies : Nat → Int32) : Nat → (Nat → Nat → Int64) → (Nat → Nat → Int64) → (Nat → Int64) → (Nat → Int64) → Int32 → Option ((Nat → Nat → Int64) × (Nat → Nat → Int64) × (Nat → Int64) × (Nat → Int64))
  | 0, _, _, _, _, _ => none
  | n + 1, c_t_near, c_t_far, c_t_echoes, c_t_totals, x2 =>
    if c_q_window < x2 then
      some (c_t_near, c_t_far, c_t_echoes, c_t_totals)
    else
      bd (Cf_W_meetFront_t_q c_q_front c_q_least c_q_window c_q_pulses c_q_lengths c_q_pulseTimes c_q_pulseEnergies c_t_near c_t_far c_t_echoes c_t_totals x2) fun (t_near_42, t_far_42, t_echoes_42, t_totals_42) =>
      bd (Cl_W_spread_t_q_47 c_q_count c_q_least c_q_window c_q_lengths c_q_fractions x2 FUEL t_near_42 t_far_42 t_totals_42 (1 : Int32)) fun (o_t_near_47, o_t_far_47, o_t_totals_47) =>
      nm (x2 + (1 : Int32)) fun x2_68 =>
      Cl_W_spread_t_q_31 c_q_count c_q_front c_q_least c_q_window c_q_pulses c_q_lengths c_q_fractions c_q_pulseTimes c_q_pulseEnergies n o_t_near_47 o_t_far_47 t_echoes_42 o_t_totals_47 x2_68
set_option maxRecDepth 100000 in
set_option maxHeartbeats 4000000 in
theorem Ck_W_spread_t_q_31 (C : Cx X (SFG E) T cX8_spread RX8 none 4 2 59)  {o_t_near : Nat → Nat → Int64} {o_t_far : Nat → Nat → Int64} {o_t_echoes : Nat → Int64} {o_t_totals : Nat → Int64} (hk : V X 0 0 (wL E a T c_waveIsFresh c_peelingIsFresh c_n_count c_n_front c_n_least c_n_window c_n_pulses c_n_lengths c_n_fractions c_n_pulseTimes c_n_pulseEnergies c_n_sound c_n_seen c_hcount c_hp c_h0_count c_h0_front c_h0_least c_h0_window c_h0_pulses c_h0_lengths c_h0_fractions c_h0_pulseTimes c_h0_pulseEnergies c_h0_sound c_h0_seen c_h1_count c_h1_front c_h1_least c_h1_window c_h1_pulses c_h1_lengths c_h1_fractions c_h1_pulseTimes c_h1_pulseEnergies c_h1_sound c_h1_seen c_h2_count c_h2_front c_h2_least c_h2_window c_h2_pulses c_h2_lengths c_h2_fractions c_h2_pulseTimes c_h2_pulseEnergies c_h2_sound c_h2_seen c_s_length c_s_command c_s_position c_s_fault c_s_bytes c_s_numbers c_w_near c_w_far c_w_echoes c_w_totals c_p_result c_p_endTime c_q_count c_q_front c_q_least c_q_window c_q_pulses c_q_lengths c_q_fractions c_q_pulseTimes c_q_pulseEnergies o_t_near o_t_far o_t_echoes o_t_totals) [(0, .ref (a 67))] 74 []) : ∀ (n : Nat) (c_t_near : Nat → Nat → Int64) (c_t_far : Nat → Nat → Int64) (c_t_echoes : Nat → Int64) (c_t_totals : Nat → Int64) (x2 : Int32), Cl_W_spread_t_q_31 c_q_count c_q_front c_q_least c_q_window c_q_pulses c_q_lengths c_q_fractions c_q_pulseTimes c_q_pulseEnergies n c_t_near c_t_far c_t_echoes c_t_totals x2 = some (o_t_near, o_t_far, o_t_echoes, o_t_totals) → V X 0 0 (wL E a T c_waveIsFresh c_peelingIsFresh c_n_count c_n_front c_n_least c_n_window c_n_pulses c_n_lengths c_n_fractions c_n_pulseTimes c_n_pulseEnergies c_n_sound c_n_seen c_hcount c_hp c_h0_count c_h0_front c_h0_least c_h0_window c_h0_pulses c_h0_lengths c_h0_fractions c_h0_pulseTimes c_h0_pulseEnergies c_h0_sound c_h0_seen c_h1_count c_h1_front c_h1_least c_h1_window c_h1_pulses c_h1_lengths c_h1_fractions c_h1_pulseTimes c_h1_pulseEnergies c_h1_sound c_h1_seen c_h2_count c_h2_front c_h2_least c_h2_window c_h2_pulses c_h2_lengths c_h2_fractions c_h2_pulseTimes c_h2_pulseEnergies c_h2_sound c_h2_seen c_s_length c_s_command c_s_position c_s_fault c_s_bytes c_s_numbers c_w_near c_w_far c_w_echoes c_w_totals c_p_result c_p_endTime c_q_count c_q_front c_q_least c_q_window c_q_pulses c_q_lengths c_q_fractions c_q_pulseTimes c_q_pulseEnergies c_t_near c_t_far c_t_echoes c_t_totals) [(0, .ref (a 67)), (1, .ref (a 62)), (2, .int x2)] 31 [] := by
  intro n
  induction n with
  | zero =>
    intro _ _ _ _ _ hf
    cases hf
  | succ n hrec =>
    intro c_t_near c_t_far c_t_echoes c_t_totals x2 hf
    rw [Cl_W_spread_t_q_31] at hf
    refine v_iload_n 2 C dX8_spread_31 rfl rfl ?_
    refine v_aload_n 1 C dX8_spread_32 rfl rfl ?_
    refine Cg_62_window wfieldLink_RX8_39_LineEchoes_Bench_window_I C dX8_spread_33 ?_
    refine v_icmp_gt 74 C dX8_spread_36 (by decide) hf (fun c hf => ?_) (fun c hf => ?_)
    · refine v_lv [(0, .ref (a 67))] [0] rfl ?_
      cases hf
      exact hk
    · refine v_aload_n 0 C dX8_spread_39 rfl rfl ?_
      refine v_aload_n 1 C dX8_spread_40 rfl rfl ?_
      refine v_iload_n 2 C dX8_spread_41 rfl rfl ?_
      refine Cc_W_meetFront_t_q wmethodLink_RX8_42_yX8_meetFront C dX8_spread_42 (by decide) (Nat.le_of_ble_eq_true rfl) hf (fun t_near_42 t_far_42 t_echoes_42 t_totals_42 hf => ?_)
      refine v_iconst (v := 1) C dX8_spread_45 (by decide) ?_
      refine v_istore_n [(0, .ref (a 67)), (1, .ref (a 62)), (2, .int x2), (3, .int (1 : Int32))] [1, 2, 3, 0] C dX8_spread_46 rfl (by decide) rfl ?_
      obtain ⟨⟨o_t_near_47, o_t_far_47, o_t_totals_47⟩, hc, hf⟩ := bd_some hf
      refine Ck_W_spread_t_q_47 C ?_ _ _ _ _ _ hc
      refine v_iinc (fun x2_68 => [(0, .ref (a 67)), (1, .ref (a 62)), (2, .int x2_68)]) [1, 2, 0] C dX8_spread_68 (j := 2) rfl (dv := 1) (by decide) (by decide) (fun _ => rfl) hf (fun x2_68 hf => ?_)
      refine v_goto 31 C dX8_spread_71 (by decide) ?_
      exact hrec _ _ _ _ _ hf
set_option maxRecDepth 100000 in
theorem Cc_W_clear_t  {cc : ByteArray} {own : String} {ret : Option FieldType} {nl fr lo pc ix : Nat} {lv : List (Nat × Value)} {rest : List Value} {β : Type} {K : ((Nat → Nat → Int64) × (Nat → Nat → Int64) × (Nat → Int64) × (Nat → Int64)) → Option β} {oo : β} (hl : Cond.methodLink own ix yX8_clear ∈ wsG) (C : Cx X (SFG E) T cc own ret nl fr lo) (hdg : decode cc pc = .ok (.invokevirtual ix, 3)) (hroom : 1 + 1 ≤ fr ∧ 8 + (2 + 11) + 24 ≤ lo) (hst : (rest.map fun v => v.category).sum ≤ 8) (hf : bd (Cf_W_clear_t c_t_near c_t_far c_t_echoes c_t_totals) K = some oo) (kk : ∀ (o_t_near : Nat → Nat → Int64) (o_t_far : Nat → Nat → Int64) (o_t_echoes : Nat → Int64) (o_t_totals : Nat → Int64), K (o_t_near, o_t_far, o_t_echoes, o_t_totals) = some oo → V X 0 0 (wL E a T c_waveIsFresh c_peelingIsFresh c_n_count c_n_front c_n_least c_n_window c_n_pulses c_n_lengths c_n_fractions c_n_pulseTimes c_n_pulseEnergies c_n_sound c_n_seen c_hcount c_hp c_h0_count c_h0_front c_h0_least c_h0_window c_h0_pulses c_h0_lengths c_h0_fractions c_h0_pulseTimes c_h0_pulseEnergies c_h0_sound c_h0_seen c_h1_count c_h1_front c_h1_least c_h1_window c_h1_pulses c_h1_lengths c_h1_fractions c_h1_pulseTimes c_h1_pulseEnergies c_h1_sound c_h1_seen c_h2_count c_h2_front c_h2_least c_h2_window c_h2_pulses c_h2_lengths c_h2_fractions c_h2_pulseTimes c_h2_pulseEnergies c_h2_sound c_h2_seen c_s_length c_s_command c_s_position c_s_fault c_s_bytes c_s_numbers c_w_near c_w_far c_w_echoes c_w_totals c_p_result c_p_endTime c_q_count c_q_front c_q_least c_q_window c_q_pulses c_q_lengths c_q_fractions c_q_pulseTimes c_q_pulseEnergies o_t_near o_t_far o_t_echoes o_t_totals) lv (pc + 3) rest) : V X 0 0 (wL E a T c_waveIsFresh c_peelingIsFresh c_n_count c_n_front c_n_least c_n_window c_n_pulses c_n_lengths c_n_fractions c_n_pulseTimes c_n_pulseEnergies c_n_sound c_n_seen c_hcount c_hp c_h0_count c_h0_front c_h0_least c_h0_window c_h0_pulses c_h0_lengths c_h0_fractions c_h0_pulseTimes c_h0_pulseEnergies c_h0_sound c_h0_seen c_h1_count c_h1_front c_h1_least c_h1_window c_h1_pulses c_h1_lengths c_h1_fractions c_h1_pulseTimes c_h1_pulseEnergies c_h1_sound c_h1_seen c_h2_count c_h2_front c_h2_least c_h2_window c_h2_pulses c_h2_lengths c_h2_fractions c_h2_pulseTimes c_h2_pulseEnergies c_h2_sound c_h2_seen c_s_length c_s_command c_s_position c_s_fault c_s_bytes c_s_numbers c_w_near c_w_far c_w_echoes c_w_totals c_p_result c_p_endTime c_q_count c_q_front c_q_least c_q_window c_q_pulses c_q_lengths c_q_fractions c_q_pulseTimes c_q_pulseEnergies c_t_near c_t_far c_t_echoes c_t_totals) lv pc (.ref (a 67) :: rest) := by
  obtain ⟨⟨o_t_near, o_t_far, o_t_echoes, o_t_totals⟩, hc, hk⟩ := bd_some hf
  exact v_callV (As := []) (rest := rest) (q0 := 67) 0 C (CapOK.z X) (fun D => Cm_W_clear_t hc) (goodV hl winstanceMethod_yX8_clear wselects_RX8_yX8_clear_yX8_clear winitialized_RX8 wcode_yX8_clear_cX8_clear_2_none) (by decide +kernel) hroom ⟨rfl, rfl⟩ rfl rfl rfl hst hdg (kk o_t_near o_t_far o_t_echoes o_t_totals hk)
set_option maxRecDepth 100000 in
theorem Cc_W_addUpPulses_t_q  {cc : ByteArray} {own : String} {ret : Option FieldType} {nl fr lo pc ix : Nat} {lv : List (Nat × Value)} {rest : List Value} {β : Type} {K : (Nat → Int64) → Option β} {oo : β} (hl : Cond.methodLink own ix yX8_addUpPulses ∈ wsG) (C : Cx X (SFG E) T cc own ret nl fr lo) (hdg : decode cc pc = .ok (.invokevirtual ix, 3)) (hroom : 0 + 1 ≤ fr ∧ 8 + (3 + 11) + 0 ≤ lo) (hst : (rest.map fun v => v.category).sum ≤ 8) (hf : bd (Cf_W_addUpPulses_t_q c_q_window c_q_pulses c_q_pulseTimes c_q_pulseEnergies c_t_totals) K = some oo) (kk : ∀ (o_t_totals : Nat → Int64), K o_t_totals = some oo → V X 0 0 (wL E a T c_waveIsFresh c_peelingIsFresh c_n_count c_n_front c_n_least c_n_window c_n_pulses c_n_lengths c_n_fractions c_n_pulseTimes c_n_pulseEnergies c_n_sound c_n_seen c_hcount c_hp c_h0_count c_h0_front c_h0_least c_h0_window c_h0_pulses c_h0_lengths c_h0_fractions c_h0_pulseTimes c_h0_pulseEnergies c_h0_sound c_h0_seen c_h1_count c_h1_front c_h1_least c_h1_window c_h1_pulses c_h1_lengths c_h1_fractions c_h1_pulseTimes c_h1_pulseEnergies c_h1_sound c_h1_seen c_h2_count c_h2_front c_h2_least c_h2_window c_h2_pulses c_h2_lengths c_h2_fractions c_h2_pulseTimes c_h2_pulseEnergies c_h2_sound c_h2_seen c_s_length c_s_command c_s_position c_s_fault c_s_bytes c_s_numbers c_w_near c_w_far c_w_echoes c_w_totals c_p_result c_p_endTime c_q_count c_q_front c_q_least c_q_window c_q_pulses c_q_lengths c_q_fractions c_q_pulseTimes c_q_pulseEnergies c_t_near c_t_far c_t_echoes o_t_totals) lv (pc + 3) rest) : V X 0 0 (wL E a T c_waveIsFresh c_peelingIsFresh c_n_count c_n_front c_n_least c_n_window c_n_pulses c_n_lengths c_n_fractions c_n_pulseTimes c_n_pulseEnergies c_n_sound c_n_seen c_hcount c_hp c_h0_count c_h0_front c_h0_least c_h0_window c_h0_pulses c_h0_lengths c_h0_fractions c_h0_pulseTimes c_h0_pulseEnergies c_h0_sound c_h0_seen c_h1_count c_h1_front c_h1_least c_h1_window c_h1_pulses c_h1_lengths c_h1_fractions c_h1_pulseTimes c_h1_pulseEnergies c_h1_sound c_h1_seen c_h2_count c_h2_front c_h2_least c_h2_window c_h2_pulses c_h2_lengths c_h2_fractions c_h2_pulseTimes c_h2_pulseEnergies c_h2_sound c_h2_seen c_s_length c_s_command c_s_position c_s_fault c_s_bytes c_s_numbers c_w_near c_w_far c_w_echoes c_w_totals c_p_result c_p_endTime c_q_count c_q_front c_q_least c_q_window c_q_pulses c_q_lengths c_q_fractions c_q_pulseTimes c_q_pulseEnergies c_t_near c_t_far c_t_echoes c_t_totals) lv pc (.ref (a 62) :: .ref (a 67) :: rest) := by
  obtain ⟨o_t_totals, hc, hk⟩ := bd_some hf
  exact v_callV (As := [.ref (a 62)]) (rest := rest) (q0 := 67) 1 C (CapOK.z X) (fun D => Cm_W_addUpPulses_t_q hc) (goodV hl winstanceMethod_yX8_addUpPulses wselects_RX8_yX8_addUpPulses_yX8_addUpPulses winitialized_RX8 wcode_yX8_addUpPulses_cX8_addUpPulses_3_none) (by decide +kernel) hroom ⟨rfl, rfl⟩ rfl rfl rfl hst hdg (kk o_t_totals hk)
set_option maxRecDepth 100000 in
theorem Cc_W_addUpEchoes_t  {cc : ByteArray} {own : String} {ret : Option FieldType} {nl fr lo pc ix : Nat} {lv : List (Nat × Value)} {rest : List Value} {β : Type} {K : (Nat → Int64) → Option β} {oo : β} (hl : Cond.methodLink own ix yX8_addUpEchoes ∈ wsG) (C : Cx X (SFG E) T cc own ret nl fr lo) (hdg : decode cc pc = .ok (.invokevirtual ix, 3)) (hroom : 1 + 1 ≤ fr ∧ 8 + (2 + 11) + 30 ≤ lo) (hst : (rest.map fun v => v.category).sum ≤ 8) (hf : bd (Cf_W_addUpEchoes_t c_t_echoes c_t_totals) K = some oo) (kk : ∀ (o_t_totals : Nat → Int64), K o_t_totals = some oo → V X 0 0 (wL E a T c_waveIsFresh c_peelingIsFresh c_n_count c_n_front c_n_least c_n_window c_n_pulses c_n_lengths c_n_fractions c_n_pulseTimes c_n_pulseEnergies c_n_sound c_n_seen c_hcount c_hp c_h0_count c_h0_front c_h0_least c_h0_window c_h0_pulses c_h0_lengths c_h0_fractions c_h0_pulseTimes c_h0_pulseEnergies c_h0_sound c_h0_seen c_h1_count c_h1_front c_h1_least c_h1_window c_h1_pulses c_h1_lengths c_h1_fractions c_h1_pulseTimes c_h1_pulseEnergies c_h1_sound c_h1_seen c_h2_count c_h2_front c_h2_least c_h2_window c_h2_pulses c_h2_lengths c_h2_fractions c_h2_pulseTimes c_h2_pulseEnergies c_h2_sound c_h2_seen c_s_length c_s_command c_s_position c_s_fault c_s_bytes c_s_numbers c_w_near c_w_far c_w_echoes c_w_totals c_p_result c_p_endTime c_q_count c_q_front c_q_least c_q_window c_q_pulses c_q_lengths c_q_fractions c_q_pulseTimes c_q_pulseEnergies c_t_near c_t_far c_t_echoes o_t_totals) lv (pc + 3) rest) : V X 0 0 (wL E a T c_waveIsFresh c_peelingIsFresh c_n_count c_n_front c_n_least c_n_window c_n_pulses c_n_lengths c_n_fractions c_n_pulseTimes c_n_pulseEnergies c_n_sound c_n_seen c_hcount c_hp c_h0_count c_h0_front c_h0_least c_h0_window c_h0_pulses c_h0_lengths c_h0_fractions c_h0_pulseTimes c_h0_pulseEnergies c_h0_sound c_h0_seen c_h1_count c_h1_front c_h1_least c_h1_window c_h1_pulses c_h1_lengths c_h1_fractions c_h1_pulseTimes c_h1_pulseEnergies c_h1_sound c_h1_seen c_h2_count c_h2_front c_h2_least c_h2_window c_h2_pulses c_h2_lengths c_h2_fractions c_h2_pulseTimes c_h2_pulseEnergies c_h2_sound c_h2_seen c_s_length c_s_command c_s_position c_s_fault c_s_bytes c_s_numbers c_w_near c_w_far c_w_echoes c_w_totals c_p_result c_p_endTime c_q_count c_q_front c_q_least c_q_window c_q_pulses c_q_lengths c_q_fractions c_q_pulseTimes c_q_pulseEnergies c_t_near c_t_far c_t_echoes c_t_totals) lv pc (.ref (a 67) :: rest) := by
  obtain ⟨o_t_totals, hc, hk⟩ := bd_some hf
  exact v_callV (As := []) (rest := rest) (q0 := 67) 0 C (CapOK.z X) (fun D => Cm_W_addUpEchoes_t hc) (goodV hl winstanceMethod_yX8_addUpEchoes wselects_RX8_yX8_addUpEchoes_yX8_addUpEchoes winitialized_RX8 wcode_yX8_addUpEchoes_cX8_addUpEchoes_2_none) (by decide +kernel) hroom ⟨rfl, rfl⟩ rfl rfl rfl hst hdg (kk o_t_totals hk)
def Cf_W_spread_t_q (c_q_count : Int32) (c_q_front : Int32) (c_q_least : Int32) (c_q_window : Int32) (c_q_pulses : Int32) (c_q_lengths : Nat → Int32) (c_q_fractions : Nat → Int32) (c_q_pulseTimes : Nat → Int32) (c_q_pulseEnergies : Nat → Int32) (c_t_near : Nat → Nat → Int64) (c_t_far : Nat → Nat → Int64) (c_t_echoes : Nat → Int64) (c_t_totals : Nat → Int64) : Option ((Nat → Nat → Int64) × (Nat → Nat → Int64) × (Nat → Int64) × (Nat → Int64)) :=
  bd (Cf_W_clear_t c_t_near c_t_far c_t_echoes c_t_totals) fun (t_near_1, t_far_1, t_echoes_1, t_totals_1) =>
  bd (Cf_W_addUpPulses_t_q c_q_window c_q_pulses c_q_pulseTimes c_q_pulseEnergies t_totals_1) fun t_totals_6 =>
  if c_q_count = 0 then
    chk (inb (0 : Int32) 9) <| nm (t_totals_6 (0 : Int32).toNatClampNeg) fun z26 =>
    chk (inb (2 : Int32) 9) <| nm (vp_updL t_totals_6 (2 : Int32).toNatClampNeg z26) fun t_totals_27 =>
    some (t_near_1, t_far_1, t_echoes_1, t_totals_27)
  else
    bd (Cl_W_spread_t_q_31 c_q_count c_q_front c_q_least c_q_window c_q_pulses c_q_lengths c_q_fractions c_q_pulseTimes c_q_pulseEnergies FUEL t_near_1 t_far_1 t_echoes_1 t_totals_6 (0 : Int32)) fun (o_t_near_31, o_t_far_31, o_t_echoes_31, o_t_totals_31) =>
    bd (Cf_W_addUpEchoes_t o_t_echoes_31 o_t_totals_31) fun t_totals_75 =>
    some (o_t_near_31, o_t_far_31, o_t_echoes_31, t_totals_75)
set_option maxRecDepth 100000 in
set_option maxHeartbeats 4000000 in
theorem Cb_W_spread_t_q (C : Cx X (SFG E) T cX8_spread RX8 none 4 2 59)  {o_t_near : Nat → Nat → Int64} {o_t_far : Nat → Nat → Int64} {o_t_echoes : Nat → Int64} {o_t_totals : Nat → Int64} (hret : RetOK X 0 0 none (wL E a T c_waveIsFresh c_peelingIsFresh c_n_count c_n_front c_n_least c_n_window c_n_pulses c_n_lengths c_n_fractions c_n_pulseTimes c_n_pulseEnergies c_n_sound c_n_seen c_hcount c_hp c_h0_count c_h0_front c_h0_least c_h0_window c_h0_pulses c_h0_lengths c_h0_fractions c_h0_pulseTimes c_h0_pulseEnergies c_h0_sound c_h0_seen c_h1_count c_h1_front c_h1_least c_h1_window c_h1_pulses c_h1_lengths c_h1_fractions c_h1_pulseTimes c_h1_pulseEnergies c_h1_sound c_h1_seen c_h2_count c_h2_front c_h2_least c_h2_window c_h2_pulses c_h2_lengths c_h2_fractions c_h2_pulseTimes c_h2_pulseEnergies c_h2_sound c_h2_seen c_s_length c_s_command c_s_position c_s_fault c_s_bytes c_s_numbers c_w_near c_w_far c_w_echoes c_w_totals c_p_result c_p_endTime c_q_count c_q_front c_q_least c_q_window c_q_pulses c_q_lengths c_q_fractions c_q_pulseTimes c_q_pulseEnergies o_t_near o_t_far o_t_echoes o_t_totals)) (hf : Cf_W_spread_t_q c_q_count c_q_front c_q_least c_q_window c_q_pulses c_q_lengths c_q_fractions c_q_pulseTimes c_q_pulseEnergies c_t_near c_t_far c_t_echoes c_t_totals = some (o_t_near, o_t_far, o_t_echoes, o_t_totals)) : V X 0 0 (wL E a T c_waveIsFresh c_peelingIsFresh c_n_count c_n_front c_n_least c_n_window c_n_pulses c_n_lengths c_n_fractions c_n_pulseTimes c_n_pulseEnergies c_n_sound c_n_seen c_hcount c_hp c_h0_count c_h0_front c_h0_least c_h0_window c_h0_pulses c_h0_lengths c_h0_fractions c_h0_pulseTimes c_h0_pulseEnergies c_h0_sound c_h0_seen c_h1_count c_h1_front c_h1_least c_h1_window c_h1_pulses c_h1_lengths c_h1_fractions c_h1_pulseTimes c_h1_pulseEnergies c_h1_sound c_h1_seen c_h2_count c_h2_front c_h2_least c_h2_window c_h2_pulses c_h2_lengths c_h2_fractions c_h2_pulseTimes c_h2_pulseEnergies c_h2_sound c_h2_seen c_s_length c_s_command c_s_position c_s_fault c_s_bytes c_s_numbers c_w_near c_w_far c_w_echoes c_w_totals c_p_result c_p_endTime c_q_count c_q_front c_q_least c_q_window c_q_pulses c_q_lengths c_q_fractions c_q_pulseTimes c_q_pulseEnergies c_t_near c_t_far c_t_echoes c_t_totals) [(0, .ref (a 67)), (1, .ref (a 62))] 0 [] := by
  unfold Cf_W_spread_t_q at hf
  refine v_aload_n 0 C dX8_spread_0 rfl rfl ?_
  refine Cc_W_clear_t wmethodLink_RX8_26_yX8_clear C dX8_spread_1 (by decide) (Nat.le_of_ble_eq_true rfl) hf (fun t_near_1 t_far_1 t_echoes_1 t_totals_1 hf => ?_)
  refine v_aload_n 0 C dX8_spread_4 rfl rfl ?_
  refine v_aload_n 1 C dX8_spread_5 rfl rfl ?_
  refine Cc_W_addUpPulses_t_q wmethodLink_RX8_29_yX8_addUpPulses C dX8_spread_6 (by decide) (Nat.le_of_ble_eq_true rfl) hf (fun t_totals_6 hf => ?_)
  refine v_aload_n 1 C dX8_spread_9 rfl rfl ?_
  refine Cg_62_count wfieldLink_RX8_33_LineEchoes_Bench_count_I C dX8_spread_10 ?_
  refine v_if_ne 29 C dX8_spread_13 (by decide) hf (fun c hf => ?_) (fun c hf => ?_)
  · refine v_aload_n 0 C dX8_spread_16 rfl rfl ?_
    refine Cg_67_totals wfieldLink_RX8_23_LineEchoes_Wave_totals_J C dX8_spread_17 ?_
    refine v_iconst (v := 2) C dX8_spread_20 (by decide) ?_
    refine v_aload_n 0 C dX8_spread_21 rfl rfl ?_
    refine Cg_67_totals wfieldLink_RX8_23_LineEchoes_Wave_totals_J C dX8_spread_22 ?_
    refine v_iconst (v := 0) C dX8_spread_25 (by decide) ?_
    refine Cal_71 C dX8_spread_26 hf (fun z26 hf => ?_)
    refine Cas_71 C dX8_spread_27 hf (fun t_totals_27 hf => ?_)
    cases hf
    exact v_vret C hret dX8_spread_28
  · refine v_iconst (v := 0) C dX8_spread_29 (by decide) ?_
    refine v_istore_n [(0, .ref (a 67)), (1, .ref (a 62)), (2, .int (0 : Int32))] [1, 2, 0] C dX8_spread_30 rfl (by decide) rfl ?_
    obtain ⟨⟨o_t_near_31, o_t_far_31, o_t_echoes_31, o_t_totals_31⟩, hc, hf⟩ := bd_some hf
    refine Ck_W_spread_t_q_31 C ?_ _ _ _ _ _ _ hc
    refine v_aload_n 0 C dX8_spread_74 rfl rfl ?_
    refine Cc_W_addUpEchoes_t wmethodLink_RX8_50_yX8_addUpEchoes C dX8_spread_75 (by decide) (Nat.le_of_ble_eq_true rfl) hf (fun t_totals_75 hf => ?_)
    cases hf
    exact v_vret C hret dX8_spread_78
set_option maxRecDepth 100000 in
set_option maxHeartbeats 4000000 in
theorem Cm_W_spread_t_q {D : va_G}  {o_t_near : Nat → Nat → Int64} {o_t_far : Nat → Nat → Int64} {o_t_echoes : Nat → Int64} {o_t_totals : Nat → Int64} (hf : Cf_W_spread_t_q c_q_count c_q_front c_q_least c_q_window c_q_pulses c_q_lengths c_q_fractions c_q_pulseTimes c_q_pulseEnergies c_t_near c_t_far c_t_echoes c_t_totals = some (o_t_near, o_t_far, o_t_echoes, o_t_totals)) : MetM (SFG E) yX8_spread cX8_spread 4 none { frames := 2, cells := 0, slots := 0, locals := 59 } D T [.ref (a 67), .ref (a 62)] (wL E a T c_waveIsFresh c_peelingIsFresh c_n_count c_n_front c_n_least c_n_window c_n_pulses c_n_lengths c_n_fractions c_n_pulseTimes c_n_pulseEnergies c_n_sound c_n_seen c_hcount c_hp c_h0_count c_h0_front c_h0_least c_h0_window c_h0_pulses c_h0_lengths c_h0_fractions c_h0_pulseTimes c_h0_pulseEnergies c_h0_sound c_h0_seen c_h1_count c_h1_front c_h1_least c_h1_window c_h1_pulses c_h1_lengths c_h1_fractions c_h1_pulseTimes c_h1_pulseEnergies c_h1_sound c_h1_seen c_h2_count c_h2_front c_h2_least c_h2_window c_h2_pulses c_h2_lengths c_h2_fractions c_h2_pulseTimes c_h2_pulseEnergies c_h2_sound c_h2_seen c_s_length c_s_command c_s_position c_s_fault c_s_bytes c_s_numbers c_w_near c_w_far c_w_echoes c_w_totals c_p_result c_p_endTime c_q_count c_q_front c_q_least c_q_window c_q_pulses c_q_lengths c_q_fractions c_q_pulseTimes c_q_pulseEnergies c_t_near c_t_far c_t_echoes c_t_totals) none (wL E a T c_waveIsFresh c_peelingIsFresh c_n_count c_n_front c_n_least c_n_window c_n_pulses c_n_lengths c_n_fractions c_n_pulseTimes c_n_pulseEnergies c_n_sound c_n_seen c_hcount c_hp c_h0_count c_h0_front c_h0_least c_h0_window c_h0_pulses c_h0_lengths c_h0_fractions c_h0_pulseTimes c_h0_pulseEnergies c_h0_sound c_h0_seen c_h1_count c_h1_front c_h1_least c_h1_window c_h1_pulses c_h1_lengths c_h1_fractions c_h1_pulseTimes c_h1_pulseEnergies c_h1_sound c_h1_seen c_h2_count c_h2_front c_h2_least c_h2_window c_h2_pulses c_h2_lengths c_h2_fractions c_h2_pulseTimes c_h2_pulseEnergies c_h2_sound c_h2_seen c_s_length c_s_command c_s_position c_s_fault c_s_bytes c_s_numbers c_w_near c_w_far c_w_echoes c_w_totals c_p_result c_p_endTime c_q_count c_q_front c_q_least c_q_window c_q_pulses c_q_lengths c_q_fractions c_q_pulseTimes c_q_pulseEnergies o_t_near o_t_far o_t_echoes o_t_totals) :=
  MetM.of [(0, .ref (a 67)), (1, .ref (a 62))] (by decide) (Nat.le_of_ble_eq_true rfl) rfl (fun X C hret => Cb_W_spread_t_q C hret hf)
def Cl_H_moveOldestToTop_hist_9 (x1 : Nat) : Nat → (Nat → Nat) → Int32 → Option (Nat → Nat)
  | 0, _, _ => none
  | n + 1, c_hp, x2 =>
    if (3 : Int32) ≤ x2 then
      some c_hp
    else
      nm (x2 - (1 : Int32)) fun z20 =>
      chk (inb x2 3) <| nm (c_hp x2.toNatClampNeg) fun z26 =>
      chk (inb z20 3 ∧ z26 < 3) <| nm (va_up c_hp z20.toNatClampNeg z26) fun hp_27 =>
      nm (x2 + (1 : Int32)) fun x2_28 =>
      Cl_H_moveOldestToTop_hist_9 x1 n hp_27 x2_28
set_option maxRecDepth 100000 in
set_option maxHeartbeats 4000000 in
theorem Ck_H_moveOldestToTop_hist_9 (C : Cx X (SFG E) T cX3_moveOldestToTop RX3 none 3 0 0) {x1 : Nat} {o_hp : Nat → Nat} (hk : V X 0 0 (wL E a T c_waveIsFresh c_peelingIsFresh c_n_count c_n_front c_n_least c_n_window c_n_pulses c_n_lengths c_n_fractions c_n_pulseTimes c_n_pulseEnergies c_n_sound c_n_seen c_hcount o_hp c_h0_count c_h0_front c_h0_least c_h0_window c_h0_pulses c_h0_lengths c_h0_fractions c_h0_pulseTimes c_h0_pulseEnergies c_h0_sound c_h0_seen c_h1_count c_h1_front c_h1_least c_h1_window c_h1_pulses c_h1_lengths c_h1_fractions c_h1_pulseTimes c_h1_pulseEnergies c_h1_sound c_h1_seen c_h2_count c_h2_front c_h2_least c_h2_window c_h2_pulses c_h2_lengths c_h2_fractions c_h2_pulseTimes c_h2_pulseEnergies c_h2_sound c_h2_seen c_s_length c_s_command c_s_position c_s_fault c_s_bytes c_s_numbers c_w_near c_w_far c_w_echoes c_w_totals c_p_result c_p_endTime c_q_count c_q_front c_q_least c_q_window c_q_pulses c_q_lengths c_q_fractions c_q_pulseTimes c_q_pulseEnergies c_t_near c_t_far c_t_echoes c_t_totals) [(0, .ref (a 9)), (1, .ref (a (11 + 8 * x1)))] 34 []) : ∀ (n : Nat) (c_hp : Nat → Nat) (x2 : Int32), Cl_H_moveOldestToTop_hist_9 x1 n c_hp x2 = some o_hp → V X 0 0 (wL E a T c_waveIsFresh c_peelingIsFresh c_n_count c_n_front c_n_least c_n_window c_n_pulses c_n_lengths c_n_fractions c_n_pulseTimes c_n_pulseEnergies c_n_sound c_n_seen c_hcount c_hp c_h0_count c_h0_front c_h0_least c_h0_window c_h0_pulses c_h0_lengths c_h0_fractions c_h0_pulseTimes c_h0_pulseEnergies c_h0_sound c_h0_seen c_h1_count c_h1_front c_h1_least c_h1_window c_h1_pulses c_h1_lengths c_h1_fractions c_h1_pulseTimes c_h1_pulseEnergies c_h1_sound c_h1_seen c_h2_count c_h2_front c_h2_least c_h2_window c_h2_pulses c_h2_lengths c_h2_fractions c_h2_pulseTimes c_h2_pulseEnergies c_h2_sound c_h2_seen c_s_length c_s_command c_s_position c_s_fault c_s_bytes c_s_numbers c_w_near c_w_far c_w_echoes c_w_totals c_p_result c_p_endTime c_q_count c_q_front c_q_least c_q_window c_q_pulses c_q_lengths c_q_fractions c_q_pulseTimes c_q_pulseEnergies c_t_near c_t_far c_t_echoes c_t_totals) [(0, .ref (a 9)), (1, .ref (a (11 + 8 * x1))), (2, .int x2)] 9 [] := by
  intro n
  induction n with
  | zero =>
    intro _ _ hf
    cases hf
  | succ n hrec =>
    intro c_hp x2 hf
    rw [Cl_H_moveOldestToTop_hist_9] at hf
    refine v_iload_n 2 C dX3_moveOldestToTop_9 rfl rfl ?_
    refine v_iconst (v := 3) C dX3_moveOldestToTop_10 (by decide) ?_
    refine v_icmp_ge 34 C dX3_moveOldestToTop_11 (by decide) hf (fun c hf => ?_) (fun c hf => ?_)
    · refine v_lv [(0, .ref (a 9)), (1, .ref (a (11 + 8 * x1)))] [0, 1] rfl ?_
      cases hf
      exact hk
    · refine v_aload_n 0 C dX3_moveOldestToTop_14 rfl rfl ?_
      refine Cg_9_states wfieldLink_RX3_11_LineEchoes_History_states_LLineEchoes_State C dX3_moveOldestToTop_15 ?_
      refine v_iload_n 2 C dX3_moveOldestToTop_18 rfl rfl ?_
      refine v_iconst (v := 1) C dX3_moveOldestToTop_19 (by decide) ?_
      refine v_isub C dX3_moveOldestToTop_20 hf (fun z20 hf => ?_)
      refine v_aload_n 0 C dX3_moveOldestToTop_21 rfl rfl ?_
      refine Cg_9_states wfieldLink_RX3_11_LineEchoes_History_states_LLineEchoes_State C dX3_moveOldestToTop_22 ?_
      refine v_iload_n 2 C dX3_moveOldestToTop_25 rfl rfl ?_
      refine Cst C dX3_moveOldestToTop_26 hf (fun z26 hf => ?_)
      refine Css C dX3_moveOldestToTop_27 hf (fun hp_27 hf => ?_)
      refine v_iinc (fun x2_28 => [(0, .ref (a 9)), (1, .ref (a (11 + 8 * x1))), (2, .int x2_28)]) [1, 2, 0] C dX3_moveOldestToTop_28 (j := 2) rfl (dv := 1) (by decide) (by decide) (fun _ => rfl) hf (fun x2_28 hf => ?_)
      refine v_goto 9 C dX3_moveOldestToTop_31 (by decide) ?_
      exact hrec _ _ hf
def Cf_H_moveOldestToTop_hist (c_hcount : Int32) (c_hp : Nat → Nat) : Option (Int32 × (Nat → Nat)) :=
  chk (inb (0 : Int32) 3) <| nm (c_hp (0 : Int32).toNatClampNeg) fun z5 =>
  bd (Cl_H_moveOldestToTop_hist_9 z5 FUEL c_hp (1 : Int32)) fun o_hp_9 =>
  chk (inb (2 : Int32) 3 ∧ z5 < 3) <| nm (va_up o_hp_9 (2 : Int32).toNatClampNeg z5) fun hp_40 =>
  some ((2 : Int32), hp_40)
set_option maxRecDepth 100000 in
set_option maxHeartbeats 4000000 in
theorem Cb_H_moveOldestToTop_hist (C : Cx X (SFG E) T cX3_moveOldestToTop RX3 none 3 0 0)  {o_hcount : Int32} {o_hp : Nat → Nat} (hret : RetOK X 0 0 none (wL E a T c_waveIsFresh c_peelingIsFresh c_n_count c_n_front c_n_least c_n_window c_n_pulses c_n_lengths c_n_fractions c_n_pulseTimes c_n_pulseEnergies c_n_sound c_n_seen o_hcount o_hp c_h0_count c_h0_front c_h0_least c_h0_window c_h0_pulses c_h0_lengths c_h0_fractions c_h0_pulseTimes c_h0_pulseEnergies c_h0_sound c_h0_seen c_h1_count c_h1_front c_h1_least c_h1_window c_h1_pulses c_h1_lengths c_h1_fractions c_h1_pulseTimes c_h1_pulseEnergies c_h1_sound c_h1_seen c_h2_count c_h2_front c_h2_least c_h2_window c_h2_pulses c_h2_lengths c_h2_fractions c_h2_pulseTimes c_h2_pulseEnergies c_h2_sound c_h2_seen c_s_length c_s_command c_s_position c_s_fault c_s_bytes c_s_numbers c_w_near c_w_far c_w_echoes c_w_totals c_p_result c_p_endTime c_q_count c_q_front c_q_least c_q_window c_q_pulses c_q_lengths c_q_fractions c_q_pulseTimes c_q_pulseEnergies c_t_near c_t_far c_t_echoes c_t_totals)) (hf : Cf_H_moveOldestToTop_hist c_hcount c_hp = some (o_hcount, o_hp)) : V X 0 0 (wL E a T c_waveIsFresh c_peelingIsFresh c_n_count c_n_front c_n_least c_n_window c_n_pulses c_n_lengths c_n_fractions c_n_pulseTimes c_n_pulseEnergies c_n_sound c_n_seen c_hcount c_hp c_h0_count c_h0_front c_h0_least c_h0_window c_h0_pulses c_h0_lengths c_h0_fractions c_h0_pulseTimes c_h0_pulseEnergies c_h0_sound c_h0_seen c_h1_count c_h1_front c_h1_least c_h1_window c_h1_pulses c_h1_lengths c_h1_fractions c_h1_pulseTimes c_h1_pulseEnergies c_h1_sound c_h1_seen c_h2_count c_h2_front c_h2_least c_h2_window c_h2_pulses c_h2_lengths c_h2_fractions c_h2_pulseTimes c_h2_pulseEnergies c_h2_sound c_h2_seen c_s_length c_s_command c_s_position c_s_fault c_s_bytes c_s_numbers c_w_near c_w_far c_w_echoes c_w_totals c_p_result c_p_endTime c_q_count c_q_front c_q_least c_q_window c_q_pulses c_q_lengths c_q_fractions c_q_pulseTimes c_q_pulseEnergies c_t_near c_t_far c_t_echoes c_t_totals) [(0, .ref (a 9))] 0 [] := by
  unfold Cf_H_moveOldestToTop_hist at hf
  refine v_aload_n 0 C dX3_moveOldestToTop_0 rfl rfl ?_
  refine Cg_9_states wfieldLink_RX3_11_LineEchoes_History_states_LLineEchoes_State C dX3_moveOldestToTop_1 ?_
  refine v_iconst (v := 0) C dX3_moveOldestToTop_4 (by decide) ?_
  refine Cst C dX3_moveOldestToTop_5 hf (fun z5 hf => ?_)
  refine v_astore_n [(0, .ref (a 9)), (1, .ref (a (11 + 8 * z5)))] [1, 0] C dX3_moveOldestToTop_6 rfl (by decide) rfl ?_
  refine v_iconst (v := 1) C dX3_moveOldestToTop_7 (by decide) ?_
  refine v_istore_n [(0, .ref (a 9)), (1, .ref (a (11 + 8 * z5))), (2, .int (1 : Int32))] [1, 2, 0] C dX3_moveOldestToTop_8 rfl (by decide) rfl ?_
  obtain ⟨o_hp_9, hc, hf⟩ := bd_some hf
  refine Ck_H_moveOldestToTop_hist_9 C ?_ _ _ _ hc
  refine v_aload_n 0 C dX3_moveOldestToTop_34 rfl rfl ?_
  refine Cg_9_states wfieldLink_RX3_11_LineEchoes_History_states_LLineEchoes_State C dX3_moveOldestToTop_35 ?_
  refine v_iconst (v := 2) C dX3_moveOldestToTop_38 (by decide) ?_
  refine v_aload_n 1 C dX3_moveOldestToTop_39 rfl rfl ?_
  refine Css C dX3_moveOldestToTop_40 hf (fun hp_40 hf => ?_)
  refine v_aload_n 0 C dX3_moveOldestToTop_41 rfl rfl ?_
  refine v_iconst (v := 2) C dX3_moveOldestToTop_42 (by decide) ?_
  refine Cp_9_count wfieldLink_RX3_18_LineEchoes_History_count_I C dX3_moveOldestToTop_43 ?_
  cases hf
  exact v_vret C hret dX3_moveOldestToTop_46
set_option maxRecDepth 100000 in
set_option maxHeartbeats 4000000 in
theorem Cm_H_moveOldestToTop_hist {D : va_G}  {o_hcount : Int32} {o_hp : Nat → Nat} (hf : Cf_H_moveOldestToTop_hist c_hcount c_hp = some (o_hcount, o_hp)) : MetM (SFG E) yX3_moveOldestToTop cX3_moveOldestToTop 3 none { frames := 0, cells := 0, slots := 0, locals := 0 } D T [.ref (a 9)] (wL E a T c_waveIsFresh c_peelingIsFresh c_n_count c_n_front c_n_least c_n_window c_n_pulses c_n_lengths c_n_fractions c_n_pulseTimes c_n_pulseEnergies c_n_sound c_n_seen c_hcount c_hp c_h0_count c_h0_front c_h0_least c_h0_window c_h0_pulses c_h0_lengths c_h0_fractions c_h0_pulseTimes c_h0_pulseEnergies c_h0_sound c_h0_seen c_h1_count c_h1_front c_h1_least c_h1_window c_h1_pulses c_h1_lengths c_h1_fractions c_h1_pulseTimes c_h1_pulseEnergies c_h1_sound c_h1_seen c_h2_count c_h2_front c_h2_least c_h2_window c_h2_pulses c_h2_lengths c_h2_fractions c_h2_pulseTimes c_h2_pulseEnergies c_h2_sound c_h2_seen c_s_length c_s_command c_s_position c_s_fault c_s_bytes c_s_numbers c_w_near c_w_far c_w_echoes c_w_totals c_p_result c_p_endTime c_q_count c_q_front c_q_least c_q_window c_q_pulses c_q_lengths c_q_fractions c_q_pulseTimes c_q_pulseEnergies c_t_near c_t_far c_t_echoes c_t_totals) none (wL E a T c_waveIsFresh c_peelingIsFresh c_n_count c_n_front c_n_least c_n_window c_n_pulses c_n_lengths c_n_fractions c_n_pulseTimes c_n_pulseEnergies c_n_sound c_n_seen o_hcount o_hp c_h0_count c_h0_front c_h0_least c_h0_window c_h0_pulses c_h0_lengths c_h0_fractions c_h0_pulseTimes c_h0_pulseEnergies c_h0_sound c_h0_seen c_h1_count c_h1_front c_h1_least c_h1_window c_h1_pulses c_h1_lengths c_h1_fractions c_h1_pulseTimes c_h1_pulseEnergies c_h1_sound c_h1_seen c_h2_count c_h2_front c_h2_least c_h2_window c_h2_pulses c_h2_lengths c_h2_fractions c_h2_pulseTimes c_h2_pulseEnergies c_h2_sound c_h2_seen c_s_length c_s_command c_s_position c_s_fault c_s_bytes c_s_numbers c_w_near c_w_far c_w_echoes c_w_totals c_p_result c_p_endTime c_q_count c_q_front c_q_least c_q_window c_q_pulses c_q_lengths c_q_fractions c_q_pulseTimes c_q_pulseEnergies c_t_near c_t_far c_t_echoes c_t_totals) :=
  MetM.of [(0, .ref (a 9))] (by decide) (Nat.le_of_ble_eq_true rfl) rfl (fun X C hret => Cb_H_moveOldestToTop_hist C hret hf)
def Cf_B_takeLine_h0_n (c_n_count : Int32) (c_n_lengths : Nat → Int32) (c_n_fractions : Nat → Int32) (c_h0_count : Int32) (c_h0_lengths : Nat → Int32) (c_h0_fractions : Nat → Int32) : Option (Int32 × (Nat → Int32) × (Nat → Int32)) :=
  nm (va_cpy c_n_lengths c_h0_lengths 0 0 8) fun h0_lengths_20 =>
  nm (va_cpy c_n_fractions c_h0_fractions 0 0 8) fun h0_fractions_35 =>
  some (c_n_count, h0_lengths_20, h0_fractions_35)
set_option maxRecDepth 100000 in
set_option maxHeartbeats 4000000 in
theorem Cb_B_takeLine_h0_n (C : Cx X (SFG E) T cX1_takeLine RX1 none 2 1 60)  {o_h0_count : Int32} {o_h0_lengths : Nat → Int32} {o_h0_fractions : Nat → Int32} (hret : RetOK X 0 0 none (wL E a T c_waveIsFresh c_peelingIsFresh c_n_count c_n_front c_n_least c_n_window c_n_pulses c_n_lengths c_n_fractions c_n_pulseTimes c_n_pulseEnergies c_n_sound c_n_seen c_hcount c_hp o_h0_count c_h0_front c_h0_least c_h0_window c_h0_pulses o_h0_lengths o_h0_fractions c_h0_pulseTimes c_h0_pulseEnergies c_h0_sound c_h0_seen c_h1_count c_h1_front c_h1_least c_h1_window c_h1_pulses c_h1_lengths c_h1_fractions c_h1_pulseTimes c_h1_pulseEnergies c_h1_sound c_h1_seen c_h2_count c_h2_front c_h2_least c_h2_window c_h2_pulses c_h2_lengths c_h2_fractions c_h2_pulseTimes c_h2_pulseEnergies c_h2_sound c_h2_seen c_s_length c_s_command c_s_position c_s_fault c_s_bytes c_s_numbers c_w_near c_w_far c_w_echoes c_w_totals c_p_result c_p_endTime c_q_count c_q_front c_q_least c_q_window c_q_pulses c_q_lengths c_q_fractions c_q_pulseTimes c_q_pulseEnergies c_t_near c_t_far c_t_echoes c_t_totals)) (hf : Cf_B_takeLine_h0_n c_n_count c_n_lengths c_n_fractions c_h0_count c_h0_lengths c_h0_fractions = some (o_h0_count, o_h0_lengths, o_h0_fractions)) : V X 0 0 (wL E a T c_waveIsFresh c_peelingIsFresh c_n_count c_n_front c_n_least c_n_window c_n_pulses c_n_lengths c_n_fractions c_n_pulseTimes c_n_pulseEnergies c_n_sound c_n_seen c_hcount c_hp c_h0_count c_h0_front c_h0_least c_h0_window c_h0_pulses c_h0_lengths c_h0_fractions c_h0_pulseTimes c_h0_pulseEnergies c_h0_sound c_h0_seen c_h1_count c_h1_front c_h1_least c_h1_window c_h1_pulses c_h1_lengths c_h1_fractions c_h1_pulseTimes c_h1_pulseEnergies c_h1_sound c_h1_seen c_h2_count c_h2_front c_h2_least c_h2_window c_h2_pulses c_h2_lengths c_h2_fractions c_h2_pulseTimes c_h2_pulseEnergies c_h2_sound c_h2_seen c_s_length c_s_command c_s_position c_s_fault c_s_bytes c_s_numbers c_w_near c_w_far c_w_echoes c_w_totals c_p_result c_p_endTime c_q_count c_q_front c_q_least c_q_window c_q_pulses c_q_lengths c_q_fractions c_q_pulseTimes c_q_pulseEnergies c_t_near c_t_far c_t_echoes c_t_totals) [(0, .ref (a 12)), (1, .ref (a 2))] 0 [] := by
  unfold Cf_B_takeLine_h0_n at hf
  refine v_aload_n 0 C dX1_takeLine_0 rfl rfl ?_
  refine v_aload_n 1 C dX1_takeLine_1 rfl rfl ?_
  refine Cg_2_count wfieldLink_RX1_9_LineEchoes_Bench_count_I C dX1_takeLine_2 ?_
  refine Cp_12_count wfieldLink_RX1_9_LineEchoes_Bench_count_I C dX1_takeLine_5 ?_
  refine v_aload_n 1 C dX1_takeLine_8 rfl rfl ?_
  refine Cg_2_lengths wfieldLink_RX1_15_LineEchoes_Bench_lengths_I C dX1_takeLine_9 ?_
  refine v_iconst (v := 0) C dX1_takeLine_12 (by decide) ?_
  refine v_aload_n 0 C dX1_takeLine_13 rfl rfl ?_
  refine Cg_12_lengths wfieldLink_RX1_15_LineEchoes_Bench_lengths_I C dX1_takeLine_14 ?_
  refine v_iconst (v := 0) C dX1_takeLine_17 (by decide) ?_
  refine v_bipush (v := 8) C dX1_takeLine_18 (by decide) ?_
  refine Ccp_3_13 wmethodLink_RX1_48_arraycopyName C dX1_takeLine_20 (by decide) (Nat.le_of_ble_eq_true rfl) hf (fun h0_lengths_20 hf => ?_)
  refine v_aload_n 1 C dX1_takeLine_23 rfl rfl ?_
  refine Cg_2_fractions wfieldLink_RX1_19_LineEchoes_Bench_fractions_I C dX1_takeLine_24 ?_
  refine v_iconst (v := 0) C dX1_takeLine_27 (by decide) ?_
  refine v_aload_n 0 C dX1_takeLine_28 rfl rfl ?_
  refine Cg_12_fractions wfieldLink_RX1_19_LineEchoes_Bench_fractions_I C dX1_takeLine_29 ?_
  refine v_iconst (v := 0) C dX1_takeLine_32 (by decide) ?_
  refine v_bipush (v := 8) C dX1_takeLine_33 (by decide) ?_
  refine Ccp_4_14 wmethodLink_RX1_48_arraycopyName C dX1_takeLine_35 (by decide) (Nat.le_of_ble_eq_true rfl) hf (fun h0_fractions_35 hf => ?_)
  cases hf
  exact v_vret C hret dX1_takeLine_38
set_option maxRecDepth 100000 in
set_option maxHeartbeats 4000000 in
theorem Cm_B_takeLine_h0_n {D : va_G}  {o_h0_count : Int32} {o_h0_lengths : Nat → Int32} {o_h0_fractions : Nat → Int32} (hf : Cf_B_takeLine_h0_n c_n_count c_n_lengths c_n_fractions c_h0_count c_h0_lengths c_h0_fractions = some (o_h0_count, o_h0_lengths, o_h0_fractions)) : MetM (SFG E) yX1_takeLine cX1_takeLine 2 none { frames := 1, cells := 0, slots := 0, locals := 60 } D T [.ref (a 12), .ref (a 2)] (wL E a T c_waveIsFresh c_peelingIsFresh c_n_count c_n_front c_n_least c_n_window c_n_pulses c_n_lengths c_n_fractions c_n_pulseTimes c_n_pulseEnergies c_n_sound c_n_seen c_hcount c_hp c_h0_count c_h0_front c_h0_least c_h0_window c_h0_pulses c_h0_lengths c_h0_fractions c_h0_pulseTimes c_h0_pulseEnergies c_h0_sound c_h0_seen c_h1_count c_h1_front c_h1_least c_h1_window c_h1_pulses c_h1_lengths c_h1_fractions c_h1_pulseTimes c_h1_pulseEnergies c_h1_sound c_h1_seen c_h2_count c_h2_front c_h2_least c_h2_window c_h2_pulses c_h2_lengths c_h2_fractions c_h2_pulseTimes c_h2_pulseEnergies c_h2_sound c_h2_seen c_s_length c_s_command c_s_position c_s_fault c_s_bytes c_s_numbers c_w_near c_w_far c_w_echoes c_w_totals c_p_result c_p_endTime c_q_count c_q_front c_q_least c_q_window c_q_pulses c_q_lengths c_q_fractions c_q_pulseTimes c_q_pulseEnergies c_t_near c_t_far c_t_echoes c_t_totals) none (wL E a T c_waveIsFresh c_peelingIsFresh c_n_count c_n_front c_n_least c_n_window c_n_pulses c_n_lengths c_n_fractions c_n_pulseTimes c_n_pulseEnergies c_n_sound c_n_seen c_hcount c_hp o_h0_count c_h0_front c_h0_least c_h0_window c_h0_pulses o_h0_lengths o_h0_fractions c_h0_pulseTimes c_h0_pulseEnergies c_h0_sound c_h0_seen c_h1_count c_h1_front c_h1_least c_h1_window c_h1_pulses c_h1_lengths c_h1_fractions c_h1_pulseTimes c_h1_pulseEnergies c_h1_sound c_h1_seen c_h2_count c_h2_front c_h2_least c_h2_window c_h2_pulses c_h2_lengths c_h2_fractions c_h2_pulseTimes c_h2_pulseEnergies c_h2_sound c_h2_seen c_s_length c_s_command c_s_position c_s_fault c_s_bytes c_s_numbers c_w_near c_w_far c_w_echoes c_w_totals c_p_result c_p_endTime c_q_count c_q_front c_q_least c_q_window c_q_pulses c_q_lengths c_q_fractions c_q_pulseTimes c_q_pulseEnergies c_t_near c_t_far c_t_echoes c_t_totals) :=
  MetM.of [(0, .ref (a 12)), (1, .ref (a 2))] (by decide) (Nat.le_of_ble_eq_true rfl) rfl (fun X C hret => Cb_B_takeLine_h0_n C hret hf)
def Cf_B_takeSettings_h0_n (c_n_front : Int32) (c_n_least : Int32) (c_n_window : Int32) (c_h0_front : Int32) (c_h0_least : Int32) (c_h0_window : Int32) : Option (Int32 × Int32 × Int32) :=
  some (c_n_front, c_n_least, c_n_window)
set_option maxRecDepth 100000 in
set_option maxHeartbeats 4000000 in
theorem Cb_B_takeSettings_h0_n (C : Cx X (SFG E) T cX1_takeSettings RX1 none 2 0 0)  {o_h0_front : Int32} {o_h0_least : Int32} {o_h0_window : Int32} (hret : RetOK X 0 0 none (wL E a T c_waveIsFresh c_peelingIsFresh c_n_count c_n_front c_n_least c_n_window c_n_pulses c_n_lengths c_n_fractions c_n_pulseTimes c_n_pulseEnergies c_n_sound c_n_seen c_hcount c_hp c_h0_count o_h0_front o_h0_least o_h0_window c_h0_pulses c_h0_lengths c_h0_fractions c_h0_pulseTimes c_h0_pulseEnergies c_h0_sound c_h0_seen c_h1_count c_h1_front c_h1_least c_h1_window c_h1_pulses c_h1_lengths c_h1_fractions c_h1_pulseTimes c_h1_pulseEnergies c_h1_sound c_h1_seen c_h2_count c_h2_front c_h2_least c_h2_window c_h2_pulses c_h2_lengths c_h2_fractions c_h2_pulseTimes c_h2_pulseEnergies c_h2_sound c_h2_seen c_s_length c_s_command c_s_position c_s_fault c_s_bytes c_s_numbers c_w_near c_w_far c_w_echoes c_w_totals c_p_result c_p_endTime c_q_count c_q_front c_q_least c_q_window c_q_pulses c_q_lengths c_q_fractions c_q_pulseTimes c_q_pulseEnergies c_t_near c_t_far c_t_echoes c_t_totals)) (hf : Cf_B_takeSettings_h0_n c_n_front c_n_least c_n_window c_h0_front c_h0_least c_h0_window = some (o_h0_front, o_h0_least, o_h0_window)) : V X 0 0 (wL E a T c_waveIsFresh c_peelingIsFresh c_n_count c_n_front c_n_least c_n_window c_n_pulses c_n_lengths c_n_fractions c_n_pulseTimes c_n_pulseEnergies c_n_sound c_n_seen c_hcount c_hp c_h0_count c_h0_front c_h0_least c_h0_window c_h0_pulses c_h0_lengths c_h0_fractions c_h0_pulseTimes c_h0_pulseEnergies c_h0_sound c_h0_seen c_h1_count c_h1_front c_h1_least c_h1_window c_h1_pulses c_h1_lengths c_h1_fractions c_h1_pulseTimes c_h1_pulseEnergies c_h1_sound c_h1_seen c_h2_count c_h2_front c_h2_least c_h2_window c_h2_pulses c_h2_lengths c_h2_fractions c_h2_pulseTimes c_h2_pulseEnergies c_h2_sound c_h2_seen c_s_length c_s_command c_s_position c_s_fault c_s_bytes c_s_numbers c_w_near c_w_far c_w_echoes c_w_totals c_p_result c_p_endTime c_q_count c_q_front c_q_least c_q_window c_q_pulses c_q_lengths c_q_fractions c_q_pulseTimes c_q_pulseEnergies c_t_near c_t_far c_t_echoes c_t_totals) [(0, .ref (a 12)), (1, .ref (a 2))] 0 [] := by
  unfold Cf_B_takeSettings_h0_n at hf
  refine v_aload_n 0 C dX1_takeSettings_0 rfl rfl ?_
  refine v_aload_n 1 C dX1_takeSettings_1 rfl rfl ?_
  refine Cg_2_front wfieldLink_RX1_22_LineEchoes_Bench_front_I C dX1_takeSettings_2 ?_
  refine Cp_12_front wfieldLink_RX1_22_LineEchoes_Bench_front_I C dX1_takeSettings_5 ?_
  refine v_aload_n 0 C dX1_takeSettings_8 rfl rfl ?_
  refine v_aload_n 1 C dX1_takeSettings_9 rfl rfl ?_
  refine Cg_2_least wfieldLink_RX1_25_LineEchoes_Bench_least_I C dX1_takeSettings_10 ?_
  refine Cp_12_least wfieldLink_RX1_25_LineEchoes_Bench_least_I C dX1_takeSettings_13 ?_
  refine v_aload_n 0 C dX1_takeSettings_16 rfl rfl ?_
  refine v_aload_n 1 C dX1_takeSettings_17 rfl rfl ?_
  refine Cg_2_window wfieldLink_RX1_28_LineEchoes_Bench_window_I C dX1_takeSettings_18 ?_
  refine Cp_12_window wfieldLink_RX1_28_LineEchoes_Bench_window_I C dX1_takeSettings_21 ?_
  cases hf
  exact v_vret C hret dX1_takeSettings_24
set_option maxRecDepth 100000 in
set_option maxHeartbeats 4000000 in
theorem Cm_B_takeSettings_h0_n {D : va_G}  {o_h0_front : Int32} {o_h0_least : Int32} {o_h0_window : Int32} (hf : Cf_B_takeSettings_h0_n c_n_front c_n_least c_n_window c_h0_front c_h0_least c_h0_window = some (o_h0_front, o_h0_least, o_h0_window)) : MetM (SFG E) yX1_takeSettings cX1_takeSettings 2 none { frames := 0, cells := 0, slots := 0, locals := 0 } D T [.ref (a 12), .ref (a 2)] (wL E a T c_waveIsFresh c_peelingIsFresh c_n_count c_n_front c_n_least c_n_window c_n_pulses c_n_lengths c_n_fractions c_n_pulseTimes c_n_pulseEnergies c_n_sound c_n_seen c_hcount c_hp c_h0_count c_h0_front c_h0_least c_h0_window c_h0_pulses c_h0_lengths c_h0_fractions c_h0_pulseTimes c_h0_pulseEnergies c_h0_sound c_h0_seen c_h1_count c_h1_front c_h1_least c_h1_window c_h1_pulses c_h1_lengths c_h1_fractions c_h1_pulseTimes c_h1_pulseEnergies c_h1_sound c_h1_seen c_h2_count c_h2_front c_h2_least c_h2_window c_h2_pulses c_h2_lengths c_h2_fractions c_h2_pulseTimes c_h2_pulseEnergies c_h2_sound c_h2_seen c_s_length c_s_command c_s_position c_s_fault c_s_bytes c_s_numbers c_w_near c_w_far c_w_echoes c_w_totals c_p_result c_p_endTime c_q_count c_q_front c_q_least c_q_window c_q_pulses c_q_lengths c_q_fractions c_q_pulseTimes c_q_pulseEnergies c_t_near c_t_far c_t_echoes c_t_totals) none (wL E a T c_waveIsFresh c_peelingIsFresh c_n_count c_n_front c_n_least c_n_window c_n_pulses c_n_lengths c_n_fractions c_n_pulseTimes c_n_pulseEnergies c_n_sound c_n_seen c_hcount c_hp c_h0_count o_h0_front o_h0_least o_h0_window c_h0_pulses c_h0_lengths c_h0_fractions c_h0_pulseTimes c_h0_pulseEnergies c_h0_sound c_h0_seen c_h1_count c_h1_front c_h1_least c_h1_window c_h1_pulses c_h1_lengths c_h1_fractions c_h1_pulseTimes c_h1_pulseEnergies c_h1_sound c_h1_seen c_h2_count c_h2_front c_h2_least c_h2_window c_h2_pulses c_h2_lengths c_h2_fractions c_h2_pulseTimes c_h2_pulseEnergies c_h2_sound c_h2_seen c_s_length c_s_command c_s_position c_s_fault c_s_bytes c_s_numbers c_w_near c_w_far c_w_echoes c_w_totals c_p_result c_p_endTime c_q_count c_q_front c_q_least c_q_window c_q_pulses c_q_lengths c_q_fractions c_q_pulseTimes c_q_pulseEnergies c_t_near c_t_far c_t_echoes c_t_totals) :=
  MetM.of [(0, .ref (a 12)), (1, .ref (a 2))] (by decide) (Nat.le_of_ble_eq_true rfl) rfl (fun X C hret => Cb_B_takeSettings_h0_n C hret hf)
set_option maxRecDepth 100000 in
theorem Cc_B_takeLine_h0_n  {cc : ByteArray} {own : String} {ret : Option FieldType} {nl fr lo pc ix : Nat} {lv : List (Nat × Value)} {rest : List Value} {β : Type} {K : (Int32 × (Nat → Int32) × (Nat → Int32)) → Option β} {oo : β} (hl : Cond.methodLink own ix yX1_takeLine ∈ wsG) (C : Cx X (SFG E) T cc own ret nl fr lo) (hdg : decode cc pc = .ok (.invokevirtual ix, 3)) (hroom : 1 + 1 ≤ fr ∧ 8 + (2 + 11) + 60 ≤ lo) (hst : (rest.map fun v => v.category).sum ≤ 8) (hf : bd (Cf_B_takeLine_h0_n c_n_count c_n_lengths c_n_fractions c_h0_count c_h0_lengths c_h0_fractions) K = some oo) (kk : ∀ (o_h0_count : Int32) (o_h0_lengths : Nat → Int32) (o_h0_fractions : Nat → Int32), K (o_h0_count, o_h0_lengths, o_h0_fractions) = some oo → V X 0 0 (wL E a T c_waveIsFresh c_peelingIsFresh c_n_count c_n_front c_n_least c_n_window c_n_pulses c_n_lengths c_n_fractions c_n_pulseTimes c_n_pulseEnergies c_n_sound c_n_seen c_hcount c_hp o_h0_count c_h0_front c_h0_least c_h0_window c_h0_pulses o_h0_lengths o_h0_fractions c_h0_pulseTimes c_h0_pulseEnergies c_h0_sound c_h0_seen c_h1_count c_h1_front c_h1_least c_h1_window c_h1_pulses c_h1_lengths c_h1_fractions c_h1_pulseTimes c_h1_pulseEnergies c_h1_sound c_h1_seen c_h2_count c_h2_front c_h2_least c_h2_window c_h2_pulses c_h2_lengths c_h2_fractions c_h2_pulseTimes c_h2_pulseEnergies c_h2_sound c_h2_seen c_s_length c_s_command c_s_position c_s_fault c_s_bytes c_s_numbers c_w_near c_w_far c_w_echoes c_w_totals c_p_result c_p_endTime c_q_count c_q_front c_q_least c_q_window c_q_pulses c_q_lengths c_q_fractions c_q_pulseTimes c_q_pulseEnergies c_t_near c_t_far c_t_echoes c_t_totals) lv (pc + 3) rest) : V X 0 0 (wL E a T c_waveIsFresh c_peelingIsFresh c_n_count c_n_front c_n_least c_n_window c_n_pulses c_n_lengths c_n_fractions c_n_pulseTimes c_n_pulseEnergies c_n_sound c_n_seen c_hcount c_hp c_h0_count c_h0_front c_h0_least c_h0_window c_h0_pulses c_h0_lengths c_h0_fractions c_h0_pulseTimes c_h0_pulseEnergies c_h0_sound c_h0_seen c_h1_count c_h1_front c_h1_least c_h1_window c_h1_pulses c_h1_lengths c_h1_fractions c_h1_pulseTimes c_h1_pulseEnergies c_h1_sound c_h1_seen c_h2_count c_h2_front c_h2_least c_h2_window c_h2_pulses c_h2_lengths c_h2_fractions c_h2_pulseTimes c_h2_pulseEnergies c_h2_sound c_h2_seen c_s_length c_s_command c_s_position c_s_fault c_s_bytes c_s_numbers c_w_near c_w_far c_w_echoes c_w_totals c_p_result c_p_endTime c_q_count c_q_front c_q_least c_q_window c_q_pulses c_q_lengths c_q_fractions c_q_pulseTimes c_q_pulseEnergies c_t_near c_t_far c_t_echoes c_t_totals) lv pc (.ref (a 2) :: .ref (a 12) :: rest) := by
  obtain ⟨⟨o_h0_count, o_h0_lengths, o_h0_fractions⟩, hc, hk⟩ := bd_some hf
  exact v_callV (As := [.ref (a 2)]) (rest := rest) (q0 := 12) 1 C (CapOK.z X) (fun D => Cm_B_takeLine_h0_n hc) (goodV hl winstanceMethod_yX1_takeLine wselects_RX1_yX1_takeLine_yX1_takeLine winitialized_RX1 wcode_yX1_takeLine_cX1_takeLine_2_none) (by decide +kernel) hroom ⟨rfl, rfl⟩ rfl rfl rfl hst hdg (kk o_h0_count o_h0_lengths o_h0_fractions hk)
set_option maxRecDepth 100000 in
theorem Cc_B_takeSettings_h0_n  {cc : ByteArray} {own : String} {ret : Option FieldType} {nl fr lo pc ix : Nat} {lv : List (Nat × Value)} {rest : List Value} {β : Type} {K : (Int32 × Int32 × Int32) → Option β} {oo : β} (hl : Cond.methodLink own ix yX1_takeSettings ∈ wsG) (C : Cx X (SFG E) T cc own ret nl fr lo) (hdg : decode cc pc = .ok (.invokevirtual ix, 3)) (hroom : 0 + 1 ≤ fr ∧ 8 + (2 + 11) + 0 ≤ lo) (hst : (rest.map fun v => v.category).sum ≤ 8) (hf : bd (Cf_B_takeSettings_h0_n c_n_front c_n_least c_n_window c_h0_front c_h0_least c_h0_window) K = some oo) (kk : ∀ (o_h0_front : Int32) (o_h0_least : Int32) (o_h0_window : Int32), K (o_h0_front, o_h0_least, o_h0_window) = some oo → V X 0 0 (wL E a T c_waveIsFresh c_peelingIsFresh c_n_count c_n_front c_n_least c_n_window c_n_pulses c_n_lengths c_n_fractions c_n_pulseTimes c_n_pulseEnergies c_n_sound c_n_seen c_hcount c_hp c_h0_count o_h0_front o_h0_least o_h0_window c_h0_pulses c_h0_lengths c_h0_fractions c_h0_pulseTimes c_h0_pulseEnergies c_h0_sound c_h0_seen c_h1_count c_h1_front c_h1_least c_h1_window c_h1_pulses c_h1_lengths c_h1_fractions c_h1_pulseTimes c_h1_pulseEnergies c_h1_sound c_h1_seen c_h2_count c_h2_front c_h2_least c_h2_window c_h2_pulses c_h2_lengths c_h2_fractions c_h2_pulseTimes c_h2_pulseEnergies c_h2_sound c_h2_seen c_s_length c_s_command c_s_position c_s_fault c_s_bytes c_s_numbers c_w_near c_w_far c_w_echoes c_w_totals c_p_result c_p_endTime c_q_count c_q_front c_q_least c_q_window c_q_pulses c_q_lengths c_q_fractions c_q_pulseTimes c_q_pulseEnergies c_t_near c_t_far c_t_echoes c_t_totals) lv (pc + 3) rest) : V X 0 0 (wL E a T c_waveIsFresh c_peelingIsFresh c_n_count c_n_front c_n_least c_n_window c_n_pulses c_n_lengths c_n_fractions c_n_pulseTimes c_n_pulseEnergies c_n_sound c_n_seen c_hcount c_hp c_h0_count c_h0_front c_h0_least c_h0_window c_h0_pulses c_h0_lengths c_h0_fractions c_h0_pulseTimes c_h0_pulseEnergies c_h0_sound c_h0_seen c_h1_count c_h1_front c_h1_least c_h1_window c_h1_pulses c_h1_lengths c_h1_fractions c_h1_pulseTimes c_h1_pulseEnergies c_h1_sound c_h1_seen c_h2_count c_h2_front c_h2_least c_h2_window c_h2_pulses c_h2_lengths c_h2_fractions c_h2_pulseTimes c_h2_pulseEnergies c_h2_sound c_h2_seen c_s_length c_s_command c_s_position c_s_fault c_s_bytes c_s_numbers c_w_near c_w_far c_w_echoes c_w_totals c_p_result c_p_endTime c_q_count c_q_front c_q_least c_q_window c_q_pulses c_q_lengths c_q_fractions c_q_pulseTimes c_q_pulseEnergies c_t_near c_t_far c_t_echoes c_t_totals) lv pc (.ref (a 2) :: .ref (a 12) :: rest) := by
  obtain ⟨⟨o_h0_front, o_h0_least, o_h0_window⟩, hc, hk⟩ := bd_some hf
  exact v_callV (As := [.ref (a 2)]) (rest := rest) (q0 := 12) 1 C (CapOK.z X) (fun D => Cm_B_takeSettings_h0_n hc) (goodV hl winstanceMethod_yX1_takeSettings wselects_RX1_yX1_takeSettings_yX1_takeSettings winitialized_RX1 wcode_yX1_takeSettings_cX1_takeSettings_2_none) (by decide +kernel) hroom ⟨rfl, rfl⟩ rfl rfl rfl hst hdg (kk o_h0_front o_h0_least o_h0_window hk)
def Cf_B_copyBench_h0_n (c_n_count : Int32) (c_n_front : Int32) (c_n_least : Int32) (c_n_window : Int32) (c_n_pulses : Int32) (c_n_lengths : Nat → Int32) (c_n_fractions : Nat → Int32) (c_n_pulseTimes : Nat → Int32) (c_n_pulseEnergies : Nat → Int32) (c_h0_count : Int32) (c_h0_front : Int32) (c_h0_least : Int32) (c_h0_window : Int32) (c_h0_pulses : Int32) (c_h0_lengths : Nat → Int32) (c_h0_fractions : Nat → Int32) (c_h0_pulseTimes : Nat → Int32) (c_h0_pulseEnergies : Nat → Int32) : Option (Int32 × Int32 × Int32 × Int32 × Int32 × (Nat → Int32) × (Nat → Int32) × (Nat → Int32) × (Nat → Int32)) :=
  bd (Cf_B_takeLine_h0_n c_n_count c_n_lengths c_n_fractions c_h0_count c_h0_lengths c_h0_fractions) fun (h0_count_2, h0_lengths_2, h0_fractions_2) =>
  bd (Cf_B_takeSettings_h0_n c_n_front c_n_least c_n_window c_h0_front c_h0_least c_h0_window) fun (h0_front_7, h0_least_7, h0_window_7) =>
  nm (va_cpy c_n_pulseTimes c_h0_pulseTimes 0 0 4) fun h0_pulseTimes_29 =>
  nm (va_cpy c_n_pulseEnergies c_h0_pulseEnergies 0 0 4) fun h0_pulseEnergies_43 =>
  some (h0_count_2, h0_front_7, h0_least_7, h0_window_7, c_n_pulses, h0_lengths_2, h0_fractions_2, h0_pulseTimes_29, h0_pulseEnergies_43)
set_option maxRecDepth 100000 in
set_option maxHeartbeats 4000000 in
theorem Cb_B_copyBench_h0_n (C : Cx X (SFG E) T cX1_copyBench RX1 none 2 2 81)  {o_h0_count : Int32} {o_h0_front : Int32} {o_h0_least : Int32} {o_h0_window : Int32} {o_h0_pulses : Int32} {o_h0_lengths : Nat → Int32} {o_h0_fractions : Nat → Int32} {o_h0_pulseTimes : Nat → Int32} {o_h0_pulseEnergies : Nat → Int32} (hret : RetOK X 0 0 none (wL E a T c_waveIsFresh c_peelingIsFresh c_n_count c_n_front c_n_least c_n_window c_n_pulses c_n_lengths c_n_fractions c_n_pulseTimes c_n_pulseEnergies c_n_sound c_n_seen c_hcount c_hp o_h0_count o_h0_front o_h0_least o_h0_window o_h0_pulses o_h0_lengths o_h0_fractions o_h0_pulseTimes o_h0_pulseEnergies c_h0_sound c_h0_seen c_h1_count c_h1_front c_h1_least c_h1_window c_h1_pulses c_h1_lengths c_h1_fractions c_h1_pulseTimes c_h1_pulseEnergies c_h1_sound c_h1_seen c_h2_count c_h2_front c_h2_least c_h2_window c_h2_pulses c_h2_lengths c_h2_fractions c_h2_pulseTimes c_h2_pulseEnergies c_h2_sound c_h2_seen c_s_length c_s_command c_s_position c_s_fault c_s_bytes c_s_numbers c_w_near c_w_far c_w_echoes c_w_totals c_p_result c_p_endTime c_q_count c_q_front c_q_least c_q_window c_q_pulses c_q_lengths c_q_fractions c_q_pulseTimes c_q_pulseEnergies c_t_near c_t_far c_t_echoes c_t_totals)) (hf : Cf_B_copyBench_h0_n c_n_count c_n_front c_n_least c_n_window c_n_pulses c_n_lengths c_n_fractions c_n_pulseTimes c_n_pulseEnergies c_h0_count c_h0_front c_h0_least c_h0_window c_h0_pulses c_h0_lengths c_h0_fractions c_h0_pulseTimes c_h0_pulseEnergies = some (o_h0_count, o_h0_front, o_h0_least, o_h0_window, o_h0_pulses, o_h0_lengths, o_h0_fractions, o_h0_pulseTimes, o_h0_pulseEnergies)) : V X 0 0 (wL E a T c_waveIsFresh c_peelingIsFresh c_n_count c_n_front c_n_least c_n_window c_n_pulses c_n_lengths c_n_fractions c_n_pulseTimes c_n_pulseEnergies c_n_sound c_n_seen c_hcount c_hp c_h0_count c_h0_front c_h0_least c_h0_window c_h0_pulses c_h0_lengths c_h0_fractions c_h0_pulseTimes c_h0_pulseEnergies c_h0_sound c_h0_seen c_h1_count c_h1_front c_h1_least c_h1_window c_h1_pulses c_h1_lengths c_h1_fractions c_h1_pulseTimes c_h1_pulseEnergies c_h1_sound c_h1_seen c_h2_count c_h2_front c_h2_least c_h2_window c_h2_pulses c_h2_lengths c_h2_fractions c_h2_pulseTimes c_h2_pulseEnergies c_h2_sound c_h2_seen c_s_length c_s_command c_s_position c_s_fault c_s_bytes c_s_numbers c_w_near c_w_far c_w_echoes c_w_totals c_p_result c_p_endTime c_q_count c_q_front c_q_least c_q_window c_q_pulses c_q_lengths c_q_fractions c_q_pulseTimes c_q_pulseEnergies c_t_near c_t_far c_t_echoes c_t_totals) [(0, .ref (a 12)), (1, .ref (a 2))] 0 [] := by
  unfold Cf_B_copyBench_h0_n at hf
  refine v_aload_n 0 C dX1_copyBench_0 rfl rfl ?_
  refine v_aload_n 1 C dX1_copyBench_1 rfl rfl ?_
  refine Cc_B_takeLine_h0_n wmethodLink_RX1_41_yX1_takeLine C dX1_copyBench_2 (by decide) (Nat.le_of_ble_eq_true rfl) hf (fun h0_count_2 h0_lengths_2 h0_fractions_2 hf => ?_)
  refine v_aload_n 0 C dX1_copyBench_5 rfl rfl ?_
  refine v_aload_n 1 C dX1_copyBench_6 rfl rfl ?_
  refine Cc_B_takeSettings_h0_n wmethodLink_RX1_45_yX1_takeSettings C dX1_copyBench_7 (by decide) (Nat.le_of_ble_eq_true rfl) hf (fun h0_front_7 h0_least_7 h0_window_7 hf => ?_)
  refine v_aload_n 0 C dX1_copyBench_10 rfl rfl ?_
  refine v_aload_n 1 C dX1_copyBench_11 rfl rfl ?_
  refine Cg_2_pulses wfieldLink_RX1_31_LineEchoes_Bench_pulses_I C dX1_copyBench_12 ?_
  refine Cp_12_pulses wfieldLink_RX1_31_LineEchoes_Bench_pulses_I C dX1_copyBench_15 ?_
  refine v_aload_n 1 C dX1_copyBench_18 rfl rfl ?_
  refine Cg_2_pulseTimes wfieldLink_RX1_34_LineEchoes_Bench_pulseTimes_I C dX1_copyBench_19 ?_
  refine v_iconst (v := 0) C dX1_copyBench_22 (by decide) ?_
  refine v_aload_n 0 C dX1_copyBench_23 rfl rfl ?_
  refine Cg_12_pulseTimes wfieldLink_RX1_34_LineEchoes_Bench_pulseTimes_I C dX1_copyBench_24 ?_
  refine v_iconst (v := 0) C dX1_copyBench_27 (by decide) ?_
  refine v_iconst (v := 4) C dX1_copyBench_28 (by decide) ?_
  refine Ccp_5_15 wmethodLink_RX1_48_arraycopyName C dX1_copyBench_29 (by decide) (Nat.le_of_ble_eq_true rfl) hf (fun h0_pulseTimes_29 hf => ?_)
  refine v_aload_n 1 C dX1_copyBench_32 rfl rfl ?_
  refine Cg_2_pulseEnergies wfieldLink_RX1_37_LineEchoes_Bench_pulseEnergies_I C dX1_copyBench_33 ?_
  refine v_iconst (v := 0) C dX1_copyBench_36 (by decide) ?_
  refine v_aload_n 0 C dX1_copyBench_37 rfl rfl ?_
  refine Cg_12_pulseEnergies wfieldLink_RX1_37_LineEchoes_Bench_pulseEnergies_I C dX1_copyBench_38 ?_
  refine v_iconst (v := 0) C dX1_copyBench_41 (by decide) ?_
  refine v_iconst (v := 4) C dX1_copyBench_42 (by decide) ?_
  refine Ccp_6_16 wmethodLink_RX1_48_arraycopyName C dX1_copyBench_43 (by decide) (Nat.le_of_ble_eq_true rfl) hf (fun h0_pulseEnergies_43 hf => ?_)
  cases hf
  exact v_vret C hret dX1_copyBench_46
set_option maxRecDepth 100000 in
set_option maxHeartbeats 4000000 in
theorem Cm_B_copyBench_h0_n {D : va_G}  {o_h0_count : Int32} {o_h0_front : Int32} {o_h0_least : Int32} {o_h0_window : Int32} {o_h0_pulses : Int32} {o_h0_lengths : Nat → Int32} {o_h0_fractions : Nat → Int32} {o_h0_pulseTimes : Nat → Int32} {o_h0_pulseEnergies : Nat → Int32} (hf : Cf_B_copyBench_h0_n c_n_count c_n_front c_n_least c_n_window c_n_pulses c_n_lengths c_n_fractions c_n_pulseTimes c_n_pulseEnergies c_h0_count c_h0_front c_h0_least c_h0_window c_h0_pulses c_h0_lengths c_h0_fractions c_h0_pulseTimes c_h0_pulseEnergies = some (o_h0_count, o_h0_front, o_h0_least, o_h0_window, o_h0_pulses, o_h0_lengths, o_h0_fractions, o_h0_pulseTimes, o_h0_pulseEnergies)) : MetM (SFG E) yX1_copyBench cX1_copyBench 2 none { frames := 2, cells := 0, slots := 0, locals := 81 } D T [.ref (a 12), .ref (a 2)] (wL E a T c_waveIsFresh c_peelingIsFresh c_n_count c_n_front c_n_least c_n_window c_n_pulses c_n_lengths c_n_fractions c_n_pulseTimes c_n_pulseEnergies c_n_sound c_n_seen c_hcount c_hp c_h0_count c_h0_front c_h0_least c_h0_window c_h0_pulses c_h0_lengths c_h0_fractions c_h0_pulseTimes c_h0_pulseEnergies c_h0_sound c_h0_seen c_h1_count c_h1_front c_h1_least c_h1_window c_h1_pulses c_h1_lengths c_h1_fractions c_h1_pulseTimes c_h1_pulseEnergies c_h1_sound c_h1_seen c_h2_count c_h2_front c_h2_least c_h2_window c_h2_pulses c_h2_lengths c_h2_fractions c_h2_pulseTimes c_h2_pulseEnergies c_h2_sound c_h2_seen c_s_length c_s_command c_s_position c_s_fault c_s_bytes c_s_numbers c_w_near c_w_far c_w_echoes c_w_totals c_p_result c_p_endTime c_q_count c_q_front c_q_least c_q_window c_q_pulses c_q_lengths c_q_fractions c_q_pulseTimes c_q_pulseEnergies c_t_near c_t_far c_t_echoes c_t_totals) none (wL E a T c_waveIsFresh c_peelingIsFresh c_n_count c_n_front c_n_least c_n_window c_n_pulses c_n_lengths c_n_fractions c_n_pulseTimes c_n_pulseEnergies c_n_sound c_n_seen c_hcount c_hp o_h0_count o_h0_front o_h0_least o_h0_window o_h0_pulses o_h0_lengths o_h0_fractions o_h0_pulseTimes o_h0_pulseEnergies c_h0_sound c_h0_seen c_h1_count c_h1_front c_h1_least c_h1_window c_h1_pulses c_h1_lengths c_h1_fractions c_h1_pulseTimes c_h1_pulseEnergies c_h1_sound c_h1_seen c_h2_count c_h2_front c_h2_least c_h2_window c_h2_pulses c_h2_lengths c_h2_fractions c_h2_pulseTimes c_h2_pulseEnergies c_h2_sound c_h2_seen c_s_length c_s_command c_s_position c_s_fault c_s_bytes c_s_numbers c_w_near c_w_far c_w_echoes c_w_totals c_p_result c_p_endTime c_q_count c_q_front c_q_least c_q_window c_q_pulses c_q_lengths c_q_fractions c_q_pulseTimes c_q_pulseEnergies c_t_near c_t_far c_t_echoes c_t_totals) :=
  MetM.of [(0, .ref (a 12)), (1, .ref (a 2))] (by decide) (Nat.le_of_ble_eq_true rfl) rfl (fun X C hret => Cb_B_copyBench_h0_n C hret hf)
set_option maxRecDepth 100000 in
theorem Cc_B_copyBench_h0_n  {cc : ByteArray} {own : String} {ret : Option FieldType} {nl fr lo pc ix : Nat} {lv : List (Nat × Value)} {rest : List Value} {β : Type} {K : (Int32 × Int32 × Int32 × Int32 × Int32 × (Nat → Int32) × (Nat → Int32) × (Nat → Int32) × (Nat → Int32)) → Option β} {oo : β} (hl : Cond.methodLink own ix yX1_copyBench ∈ wsG) (C : Cx X (SFG E) T cc own ret nl fr lo) (hdg : decode cc pc = .ok (.invokevirtual ix, 3)) (hroom : 2 + 1 ≤ fr ∧ 8 + (2 + 11) + 81 ≤ lo) (hst : (rest.map fun v => v.category).sum ≤ 8) (hf : bd (Cf_B_copyBench_h0_n c_n_count c_n_front c_n_least c_n_window c_n_pulses c_n_lengths c_n_fractions c_n_pulseTimes c_n_pulseEnergies c_h0_count c_h0_front c_h0_least c_h0_window c_h0_pulses c_h0_lengths c_h0_fractions c_h0_pulseTimes c_h0_pulseEnergies) K = some oo) (kk : ∀ (o_h0_count : Int32) (o_h0_front : Int32) (o_h0_least : Int32) (o_h0_window : Int32) (o_h0_pulses : Int32) (o_h0_lengths : Nat → Int32) (o_h0_fractions : Nat → Int32) (o_h0_pulseTimes : Nat → Int32) (o_h0_pulseEnergies : Nat → Int32), K (o_h0_count, o_h0_front, o_h0_least, o_h0_window, o_h0_pulses, o_h0_lengths, o_h0_fractions, o_h0_pulseTimes, o_h0_pulseEnergies) = some oo → V X 0 0 (wL E a T c_waveIsFresh c_peelingIsFresh c_n_count c_n_front c_n_least c_n_window c_n_pulses c_n_lengths c_n_fractions c_n_pulseTimes c_n_pulseEnergies c_n_sound c_n_seen c_hcount c_hp o_h0_count o_h0_front o_h0_least o_h0_window o_h0_pulses o_h0_lengths o_h0_fractions o_h0_pulseTimes o_h0_pulseEnergies c_h0_sound c_h0_seen c_h1_count c_h1_front c_h1_least c_h1_window c_h1_pulses c_h1_lengths c_h1_fractions c_h1_pulseTimes c_h1_pulseEnergies c_h1_sound c_h1_seen c_h2_count c_h2_front c_h2_least c_h2_window c_h2_pulses c_h2_lengths c_h2_fractions c_h2_pulseTimes c_h2_pulseEnergies c_h2_sound c_h2_seen c_s_length c_s_command c_s_position c_s_fault c_s_bytes c_s_numbers c_w_near c_w_far c_w_echoes c_w_totals c_p_result c_p_endTime c_q_count c_q_front c_q_least c_q_window c_q_pulses c_q_lengths c_q_fractions c_q_pulseTimes c_q_pulseEnergies c_t_near c_t_far c_t_echoes c_t_totals) lv (pc + 3) rest) : V X 0 0 (wL E a T c_waveIsFresh c_peelingIsFresh c_n_count c_n_front c_n_least c_n_window c_n_pulses c_n_lengths c_n_fractions c_n_pulseTimes c_n_pulseEnergies c_n_sound c_n_seen c_hcount c_hp c_h0_count c_h0_front c_h0_least c_h0_window c_h0_pulses c_h0_lengths c_h0_fractions c_h0_pulseTimes c_h0_pulseEnergies c_h0_sound c_h0_seen c_h1_count c_h1_front c_h1_least c_h1_window c_h1_pulses c_h1_lengths c_h1_fractions c_h1_pulseTimes c_h1_pulseEnergies c_h1_sound c_h1_seen c_h2_count c_h2_front c_h2_least c_h2_window c_h2_pulses c_h2_lengths c_h2_fractions c_h2_pulseTimes c_h2_pulseEnergies c_h2_sound c_h2_seen c_s_length c_s_command c_s_position c_s_fault c_s_bytes c_s_numbers c_w_near c_w_far c_w_echoes c_w_totals c_p_result c_p_endTime c_q_count c_q_front c_q_least c_q_window c_q_pulses c_q_lengths c_q_fractions c_q_pulseTimes c_q_pulseEnergies c_t_near c_t_far c_t_echoes c_t_totals) lv pc (.ref (a 2) :: .ref (a 12) :: rest) := by
  obtain ⟨⟨o_h0_count, o_h0_front, o_h0_least, o_h0_window, o_h0_pulses, o_h0_lengths, o_h0_fractions, o_h0_pulseTimes, o_h0_pulseEnergies⟩, hc, hk⟩ := bd_some hf
  exact v_callV (As := [.ref (a 2)]) (rest := rest) (q0 := 12) 1 C (CapOK.z X) (fun D => Cm_B_copyBench_h0_n hc) (goodV hl winstanceMethod_yX1_copyBench wselects_RX1_yX1_copyBench_yX1_copyBench winitialized_RX1 wcode_yX1_copyBench_cX1_copyBench_2_none) (by decide +kernel) hroom ⟨rfl, rfl⟩ rfl rfl rfl hst hdg (kk o_h0_count o_h0_front o_h0_least o_h0_window o_h0_pulses o_h0_lengths o_h0_fractions o_h0_pulseTimes o_h0_pulseEnergies hk)
def Cf_S_copyState_H0_N (c_n_count : Int32) (c_n_front : Int32) (c_n_least : Int32) (c_n_window : Int32) (c_n_pulses : Int32) (c_n_lengths : Nat → Int32) (c_n_fractions : Nat → Int32) (c_n_pulseTimes : Nat → Int32) (c_n_pulseEnergies : Nat → Int32) (c_n_sound : Nat → Int64) (c_n_seen : Nat → Int64) (c_h0_count : Int32) (c_h0_front : Int32) (c_h0_least : Int32) (c_h0_window : Int32) (c_h0_pulses : Int32) (c_h0_lengths : Nat → Int32) (c_h0_fractions : Nat → Int32) (c_h0_pulseTimes : Nat → Int32) (c_h0_pulseEnergies : Nat → Int32) (c_h0_sound : Nat → Int64) (c_h0_seen : Nat → Int64) : Option (Int32 × Int32 × Int32 × Int32 × Int32 × (Nat → Int32) × (Nat → Int32) × (Nat → Int32) × (Nat → Int32) × (Nat → Int64) × (Nat → Int64)) :=
  bd (Cf_B_copyBench_h0_n c_n_count c_n_front c_n_least c_n_window c_n_pulses c_n_lengths c_n_fractions c_n_pulseTimes c_n_pulseEnergies c_h0_count c_h0_front c_h0_least c_h0_window c_h0_pulses c_h0_lengths c_h0_fractions c_h0_pulseTimes c_h0_pulseEnergies) fun (h0_count_8, h0_front_8, h0_least_8, h0_window_8, h0_pulses_8, h0_lengths_8, h0_fractions_8, h0_pulseTimes_8, h0_pulseEnergies_8) =>
  nm (va_cpy c_n_sound c_h0_sound 0 0 201) fun h0_sound_24 =>
  nm (va_cpy c_n_seen c_h0_seen 0 0 201) fun h0_seen_40 =>
  some (h0_count_8, h0_front_8, h0_least_8, h0_window_8, h0_pulses_8, h0_lengths_8, h0_fractions_8, h0_pulseTimes_8, h0_pulseEnergies_8, h0_sound_24, h0_seen_40)
set_option maxRecDepth 100000 in
set_option maxHeartbeats 4000000 in
theorem Cb_S_copyState_H0_N (C : Cx X (SFG E) T cX6_copyState RX6 none 2 3 102)  {o_h0_count : Int32} {o_h0_front : Int32} {o_h0_least : Int32} {o_h0_window : Int32} {o_h0_pulses : Int32} {o_h0_lengths : Nat → Int32} {o_h0_fractions : Nat → Int32} {o_h0_pulseTimes : Nat → Int32} {o_h0_pulseEnergies : Nat → Int32} {o_h0_sound : Nat → Int64} {o_h0_seen : Nat → Int64} (hret : RetOK X 0 0 none (wL E a T c_waveIsFresh c_peelingIsFresh c_n_count c_n_front c_n_least c_n_window c_n_pulses c_n_lengths c_n_fractions c_n_pulseTimes c_n_pulseEnergies c_n_sound c_n_seen c_hcount c_hp o_h0_count o_h0_front o_h0_least o_h0_window o_h0_pulses o_h0_lengths o_h0_fractions o_h0_pulseTimes o_h0_pulseEnergies o_h0_sound o_h0_seen c_h1_count c_h1_front c_h1_least c_h1_window c_h1_pulses c_h1_lengths c_h1_fractions c_h1_pulseTimes c_h1_pulseEnergies c_h1_sound c_h1_seen c_h2_count c_h2_front c_h2_least c_h2_window c_h2_pulses c_h2_lengths c_h2_fractions c_h2_pulseTimes c_h2_pulseEnergies c_h2_sound c_h2_seen c_s_length c_s_command c_s_position c_s_fault c_s_bytes c_s_numbers c_w_near c_w_far c_w_echoes c_w_totals c_p_result c_p_endTime c_q_count c_q_front c_q_least c_q_window c_q_pulses c_q_lengths c_q_fractions c_q_pulseTimes c_q_pulseEnergies c_t_near c_t_far c_t_echoes c_t_totals)) (hf : Cf_S_copyState_H0_N c_n_count c_n_front c_n_least c_n_window c_n_pulses c_n_lengths c_n_fractions c_n_pulseTimes c_n_pulseEnergies c_n_sound c_n_seen c_h0_count c_h0_front c_h0_least c_h0_window c_h0_pulses c_h0_lengths c_h0_fractions c_h0_pulseTimes c_h0_pulseEnergies c_h0_sound c_h0_seen = some (o_h0_count, o_h0_front, o_h0_least, o_h0_window, o_h0_pulses, o_h0_lengths, o_h0_fractions, o_h0_pulseTimes, o_h0_pulseEnergies, o_h0_sound, o_h0_seen)) : V X 0 0 (wL E a T c_waveIsFresh c_peelingIsFresh c_n_count c_n_front c_n_least c_n_window c_n_pulses c_n_lengths c_n_fractions c_n_pulseTimes c_n_pulseEnergies c_n_sound c_n_seen c_hcount c_hp c_h0_count c_h0_front c_h0_least c_h0_window c_h0_pulses c_h0_lengths c_h0_fractions c_h0_pulseTimes c_h0_pulseEnergies c_h0_sound c_h0_seen c_h1_count c_h1_front c_h1_least c_h1_window c_h1_pulses c_h1_lengths c_h1_fractions c_h1_pulseTimes c_h1_pulseEnergies c_h1_sound c_h1_seen c_h2_count c_h2_front c_h2_least c_h2_window c_h2_pulses c_h2_lengths c_h2_fractions c_h2_pulseTimes c_h2_pulseEnergies c_h2_sound c_h2_seen c_s_length c_s_command c_s_position c_s_fault c_s_bytes c_s_numbers c_w_near c_w_far c_w_echoes c_w_totals c_p_result c_p_endTime c_q_count c_q_front c_q_least c_q_window c_q_pulses c_q_lengths c_q_fractions c_q_pulseTimes c_q_pulseEnergies c_t_near c_t_far c_t_echoes c_t_totals) [(0, .ref (a 11)), (1, .ref (a 1))] 0 [] := by
  unfold Cf_S_copyState_H0_N at hf
  refine v_aload_n 0 C dX6_copyState_0 rfl rfl ?_
  refine Cg_11_bench wfieldLink_RX6_12_LineEchoes_State_bench_LLineEchoes_Bench C dX6_copyState_1 ?_
  refine v_aload_n 1 C dX6_copyState_4 rfl rfl ?_
  refine Cg_1_bench wfieldLink_RX6_12_LineEchoes_State_bench_LLineEchoes_Bench C dX6_copyState_5 ?_
  refine Cc_B_copyBench_h0_n wmethodLink_RX6_25_yX1_copyBench C dX6_copyState_8 (by decide) (Nat.le_of_ble_eq_true rfl) hf (fun h0_count_8 h0_front_8 h0_least_8 h0_window_8 h0_pulses_8 h0_lengths_8 h0_fractions_8 h0_pulseTimes_8 h0_pulseEnergies_8 hf => ?_)
  refine v_aload_n 1 C dX6_copyState_11 rfl rfl ?_
  refine Cg_1_sound wfieldLink_RX6_18_LineEchoes_State_sound_J C dX6_copyState_12 ?_
  refine v_iconst (v := 0) C dX6_copyState_15 (by decide) ?_
  refine v_aload_n 0 C dX6_copyState_16 rfl rfl ?_
  refine Cg_11_sound wfieldLink_RX6_18_LineEchoes_State_sound_J C dX6_copyState_17 ?_
  refine v_iconst (v := 0) C dX6_copyState_20 (by decide) ?_
  refine v_sipush (v := 201) C dX6_copyState_21 (by decide) ?_
  refine Ccp_7_17 wmethodLink_RX6_29_arraycopyName C dX6_copyState_24 (by decide) (Nat.le_of_ble_eq_true rfl) hf (fun h0_sound_24 hf => ?_)
  refine v_aload_n 1 C dX6_copyState_27 rfl rfl ?_
  refine Cg_1_seen wfieldLink_RX6_22_LineEchoes_State_seen_J C dX6_copyState_28 ?_
  refine v_iconst (v := 0) C dX6_copyState_31 (by decide) ?_
  refine v_aload_n 0 C dX6_copyState_32 rfl rfl ?_
  refine Cg_11_seen wfieldLink_RX6_22_LineEchoes_State_seen_J C dX6_copyState_33 ?_
  refine v_iconst (v := 0) C dX6_copyState_36 (by decide) ?_
  refine v_sipush (v := 201) C dX6_copyState_37 (by decide) ?_
  refine Ccp_8_18 wmethodLink_RX6_29_arraycopyName C dX6_copyState_40 (by decide) (Nat.le_of_ble_eq_true rfl) hf (fun h0_seen_40 hf => ?_)
  cases hf
  exact v_vret C hret dX6_copyState_43
end CM1
