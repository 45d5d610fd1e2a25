section RM2
variable {X : CxT} {G : SG} {T : Nat → ClassId} {a : Nat → Nat} {w : va_W} {c_m : Nat → Int64} {c_saved : Nat → Int64} {c_savedCount : Int32} {c_script : Nat → Int32} {c_scriptLength : Int32} {c_code : Int32} {c_lineParts : Int32} {c_lengths : Nat → Int32} {c_fractions : Nat → Int32} {c_pulseMany : Int32} {c_times : Nat → Int32} {c_energies : Nat → Int64} {c_far : Nat → Int64} {c_near : Nat → Int64} {c_echoes : Nat → Int64} {c_left : Int64} {c_dropped : Int64} {c_merged : Int32} {c_drops : Int32} {c_contributions : Int32} {c_packet : Int64} {c_peelResult : Int32} {c_peelTime : Int32} {c_peelSum : Int32} {c_at : Int32} {c_commands : Int32} {c_draft : Nat → Int32} {c_hash : Int64}
def Rf_setBench_42 (c_m : Nat → Int64) (c_saved : Nat → Int64) (c_savedCount : Int32) (c_code : Int32) (x1 : Int32) (x2 : Int32) (x3 : Int32) (s1 : Int32) : Option ((Nat → Int64) × (Nat → Int64) × Int32 × Int32 × Int32) :=
  if s1 = 0 then
    bd (Rf_keep c_m c_saved c_savedCount) fun (saved_55, savedCount_55) =>
    bd (Rf_window c_m) fun r59 =>
    nm (x1.toInt64) fun z71 =>
    chk (inb (17 : Int32) 431) <| nm (vp_updL c_m (17 : Int32).toNatClampNeg z71) fun m_72 =>
    nm (x2.toInt64) fun z80 =>
    chk (inb (18 : Int32) 431) <| nm (vp_updL m_72 (18 : Int32).toNatClampNeg z80) fun m_81 =>
    nm (x3.toInt64) fun z89 =>
    chk (inb (19 : Int32) 431) <| nm (vp_updL m_81 (19 : Int32).toNatClampNeg z89) fun m_90 =>
    some (m_90, saved_55, savedCount_55, s1, r59)
  else
    some (c_m, c_saved, c_savedCount, s1, (0 : Int32))
set_option maxRecDepth 100000 in
set_option maxHeartbeats 4000000 in
theorem Rb_setBench_42 (C : Cx X G T cX10_setBench RX10 (some .int) 5 1 25) {x1 : Int32} {x2 : Int32} {x3 : Int32} {s1 : Int32} {o_m : Nat → Int64} {o_saved : Nat → Int64} {o_savedCount : Int32} {o_code : Int32} {r : Int32} (hret : RetOK X 0 0 (some (.int r)) (wR a T o_m o_saved o_savedCount c_script c_scriptLength o_code c_lineParts c_lengths c_fractions c_pulseMany c_times c_energies c_far c_near c_echoes c_left c_dropped c_merged c_drops c_contributions c_packet c_peelResult c_peelTime c_peelSum c_at c_commands c_draft c_hash)) (hf : Rf_setBench_42 c_m c_saved c_savedCount c_code x1 x2 x3 s1 = some (o_m, o_saved, o_savedCount, o_code, r)) : V X 0 0 (wR a T c_m c_saved c_savedCount c_script c_scriptLength c_code c_lineParts c_lengths c_fractions c_pulseMany c_times c_energies c_far c_near c_echoes c_left c_dropped c_merged c_drops c_contributions c_packet c_peelResult c_peelTime c_peelSum c_at c_commands c_draft c_hash) [(0, .ref (a 0)), (1, .int x1), (2, .int x2), (3, .int x3)] 42 [.int s1, .ref (a 0)] := by
  unfold Rf_setBench_42 at hf
  refine Rp_code C dX10_setBench_42 ?_
  refine v_aload_n 0 C dX10_setBench_45 rfl rfl ?_
  refine Rg_code C dX10_setBench_46 ?_
  refine v_if_eq 54 C dX10_setBench_49 (by decide) hf (fun c hf => ?_) (fun c hf => ?_)
  · refine v_aload_n 0 C dX10_setBench_54 rfl rfl ?_
    refine Rc_keep C dX10_setBench_55 (by decide) (Nat.le_of_ble_eq_true rfl) hf (fun saved_55 savedCount_55 hf => ?_)
    refine v_aload_n 0 C dX10_setBench_58 rfl rfl ?_
    refine Rc_window C dX10_setBench_59 (by decide) (Nat.le_of_ble_eq_true rfl) hf (fun r59 hf => ?_)
    refine v_istore [(0, .ref (a 0)), (1, .int x1), (2, .int x2), (3, .int x3), (4, .int r59)] [1, 2, 3, 4, 0] C dX10_setBench_62 (by decide) rfl ?_
    refine v_aload_n 0 C dX10_setBench_64 rfl rfl ?_
    refine Rg_m C dX10_setBench_65 ?_
    refine v_bipush (v := 17) C dX10_setBench_68 (by decide) ?_
    refine v_iload_n 1 C dX10_setBench_70 rfl rfl ?_
    refine v_i2l C dX10_setBench_71 hf (fun z71 hf => ?_)
    refine Ras_m C dX10_setBench_72 hf (fun m_72 hf => ?_)
    refine v_aload_n 0 C dX10_setBench_73 rfl rfl ?_
    refine Rg_m C dX10_setBench_74 ?_
    refine v_bipush (v := 18) C dX10_setBench_77 (by decide) ?_
    refine v_iload_n 2 C dX10_setBench_79 rfl rfl ?_
    refine v_i2l C dX10_setBench_80 hf (fun z80 hf => ?_)
    refine Ras_m C dX10_setBench_81 hf (fun m_81 hf => ?_)
    refine v_aload_n 0 C dX10_setBench_82 rfl rfl ?_
    refine Rg_m C dX10_setBench_83 ?_
    refine v_bipush (v := 19) C dX10_setBench_86 (by decide) ?_
    refine v_iload_n 3 C dX10_setBench_88 rfl rfl ?_
    refine v_i2l C dX10_setBench_89 hf (fun z89 hf => ?_)
    refine Ras_m C dX10_setBench_90 hf (fun m_90 hf => ?_)
    refine v_iload 4 C dX10_setBench_91 rfl ?_
    cases hf
    exact v_iret C hret dX10_setBench_93
  · refine v_iconst (v := 0) C dX10_setBench_52 (by decide) ?_
    cases hf
    exact v_iret C hret dX10_setBench_53
def Rf_setBench_41 (c_m : Nat → Int64) (c_saved : Nat → Int64) (c_savedCount : Int32) (c_code : Int32) (x1 : Int32) (x2 : Int32) (x3 : Int32) : Option ((Nat → Int64) × (Nat → Int64) × Int32 × Int32 × Int32) :=
  Rf_setBench_42 c_m c_saved c_savedCount c_code x1 x2 x3 (1 : Int32)
set_option maxRecDepth 100000 in
set_option maxHeartbeats 4000000 in
theorem Rb_setBench_41 (C : Cx X G T cX10_setBench RX10 (some .int) 5 1 25) {x1 : Int32} {x2 : Int32} {x3 : Int32} {o_m : Nat → Int64} {o_saved : Nat → Int64} {o_savedCount : Int32} {o_code : Int32} {r : Int32} (hret : RetOK X 0 0 (some (.int r)) (wR a T o_m o_saved o_savedCount c_script c_scriptLength o_code c_lineParts c_lengths c_fractions c_pulseMany c_times c_energies c_far c_near c_echoes c_left c_dropped c_merged c_drops c_contributions c_packet c_peelResult c_peelTime c_peelSum c_at c_commands c_draft c_hash)) (hf : Rf_setBench_41 c_m c_saved c_savedCount c_code x1 x2 x3 = some (o_m, o_saved, o_savedCount, o_code, r)) : V X 0 0 (wR a T c_m c_saved c_savedCount c_script c_scriptLength c_code c_lineParts c_lengths c_fractions c_pulseMany c_times c_energies c_far c_near c_echoes c_left c_dropped c_merged c_drops c_contributions c_packet c_peelResult c_peelTime c_peelSum c_at c_commands c_draft c_hash) [(0, .ref (a 0)), (1, .int x1), (2, .int x2), (3, .int x3)] 41 [.ref (a 0)] := by
  unfold Rf_setBench_41 at hf
  refine v_iconst (v := 1) C dX10_setBench_41 (by decide) ?_
  exact Rb_setBench_42 C hret hf
def Rf_setBench (c_m : Nat → Int64) (c_saved : Nat → Int64) (c_savedCount : Int32) (c_code : Int32) (x1 : Int32) (x2 : Int32) (x3 : Int32) : Option ((Nat → Int64) × (Nat → Int64) × Int32 × Int32 × Int32) :=
  nm (x1.toInt64) fun z2 =>
  bd (Rf_in z2 (0 : Int64) (999 : Int64)) fun r7 =>
  if r7 = 0 then
    Rf_setBench_41 c_m c_saved c_savedCount c_code x1 x2 x3
  else
    nm (x2.toInt64) fun z14 =>
    bd (Rf_in z14 (0 : Int64) (1000 : Int64)) fun r19 =>
    if r19 = 0 then
      Rf_setBench_41 c_m c_saved c_savedCount c_code x1 x2 x3
    else
      nm (x3.toInt64) fun z26 =>
      bd (Rf_in z26 (1 : Int64) (200 : Int64)) fun r31 =>
      if r31 = 0 then
        Rf_setBench_41 c_m c_saved c_savedCount c_code x1 x2 x3
      else
        Rf_setBench_42 c_m c_saved c_savedCount c_code x1 x2 x3 (0 : Int32)
set_option maxRecDepth 100000 in
set_option maxHeartbeats 4000000 in
theorem Rb_setBench (C : Cx X G T cX10_setBench RX10 (some .int) 5 1 25) {x1 : Int32} {x2 : Int32} {x3 : Int32} {o_m : Nat → Int64} {o_saved : Nat → Int64} {o_savedCount : Int32} {o_code : Int32} {r : Int32} (hret : RetOK X 0 0 (some (.int r)) (wR a T o_m o_saved o_savedCount c_script c_scriptLength o_code c_lineParts c_lengths c_fractions c_pulseMany c_times c_energies c_far c_near c_echoes c_left c_dropped c_merged c_drops c_contributions c_packet c_peelResult c_peelTime c_peelSum c_at c_commands c_draft c_hash)) (hf : Rf_setBench c_m c_saved c_savedCount c_code x1 x2 x3 = some (o_m, o_saved, o_savedCount, o_code, r)) : V X 0 0 (wR a T c_m c_saved c_savedCount c_script c_scriptLength c_code c_lineParts c_lengths c_fractions c_pulseMany c_times c_energies c_far c_near c_echoes c_left c_dropped c_merged c_drops c_contributions c_packet c_peelResult c_peelTime c_peelSum c_at c_commands c_draft c_hash) [(0, .ref (a 0)), (1, .int x1), (2, .int x2), (3, .int x3)] 0 [] := by
  unfold Rf_setBench at hf
  refine v_aload_n 0 C dX10_setBench_0 rfl rfl ?_
  refine v_iload_n 1 C dX10_setBench_1 rfl rfl ?_
  refine v_i2l C dX10_setBench_2 hf (fun z2 hf => ?_)
  refine v_lconst (v := 0) C dX10_setBench_3 (by decide) ?_
  refine v_ldc2 (v := 999) C wconstantLong_RX10_167_999 dX10_setBench_4 ?_
  refine Rc_in C dX10_setBench_7 (by decide) (Nat.le_of_ble_eq_true rfl) hf (fun r7 hf => ?_)
  refine v_if_eq 41 C dX10_setBench_10 (by decide) hf (fun c hf => ?_) (fun c hf => ?_)
  · exact Rb_setBench_41 C hret hf
  · refine v_iload_n 2 C dX10_setBench_13 rfl rfl ?_
    refine v_i2l C dX10_setBench_14 hf (fun z14 hf => ?_)
    refine v_lconst (v := 0) C dX10_setBench_15 (by decide) ?_
    refine v_ldc2 (v := 1000) C wconstantLong_RX10_82_1000 dX10_setBench_16 ?_
    refine Rc_in C dX10_setBench_19 (by decide) (Nat.le_of_ble_eq_true rfl) hf (fun r19 hf => ?_)
    refine v_if_eq 41 C dX10_setBench_22 (by decide) hf (fun c hf => ?_) (fun c hf => ?_)
    · exact Rb_setBench_41 C hret hf
    · refine v_iload_n 3 C dX10_setBench_25 rfl rfl ?_
      refine v_i2l C dX10_setBench_26 hf (fun z26 hf => ?_)
      refine v_lconst (v := 1) C dX10_setBench_27 (by decide) ?_
      refine v_ldc2 (v := 200) C wconstantLong_RX10_169_200 dX10_setBench_28 ?_
      refine Rc_in C dX10_setBench_31 (by decide) (Nat.le_of_ble_eq_true rfl) hf (fun r31 hf => ?_)
      refine v_if_eq 41 C dX10_setBench_34 (by decide) hf (fun c hf => ?_) (fun c hf => ?_)
      · exact Rb_setBench_41 C hret hf
      · refine v_iconst (v := 0) C dX10_setBench_37 (by decide) ?_
        refine v_goto 42 C dX10_setBench_38 (by decide) ?_
        exact Rb_setBench_42 C hret hf
set_option maxRecDepth 100000 in
set_option maxHeartbeats 4000000 in
theorem Rm_setBench {D : va_G} {x1 : Int32} {x2 : Int32} {x3 : Int32} {o_m : Nat → Int64} {o_saved : Nat → Int64} {o_savedCount : Int32} {o_code : Int32} {r : Int32} (hf : Rf_setBench c_m c_saved c_savedCount c_code x1 x2 x3 = some (o_m, o_saved, o_savedCount, o_code, r)) : MetM G yX10_setBench cX10_setBench 5 (some .int) { frames := 1, cells := 0, slots := 0, locals := 25 } D T [.ref (a 0), .int x1, .int x2, .int x3] (wR a T c_m c_saved c_savedCount c_script c_scriptLength c_code c_lineParts c_lengths c_fractions c_pulseMany c_times c_energies c_far c_near c_echoes c_left c_dropped c_merged c_drops c_contributions c_packet c_peelResult c_peelTime c_peelSum c_at c_commands c_draft c_hash) (some (.int r)) (wR a T o_m o_saved o_savedCount c_script c_scriptLength o_code c_lineParts c_lengths c_fractions c_pulseMany c_times c_energies c_far c_near c_echoes c_left c_dropped c_merged c_drops c_contributions c_packet c_peelResult c_peelTime c_peelSum c_at c_commands c_draft c_hash) :=
  MetM.of [(0, .ref (a 0)), (1, .int x1), (2, .int x2), (3, .int x3)] (by decide) (Nat.le_of_ble_eq_true rfl) rfl (fun X C hret => Rb_setBench C hret hf)
def Rf_whyNoPulse_47 (s0 : Int32) : Option Int32 :=
  some s0
set_option maxRecDepth 100000 in
set_option maxHeartbeats 4000000 in
theorem Rb_whyNoPulse_47 (C : Cx X G T cX10_whyNoPulse RX10 (some .int) 3 1 25) {s0 : Int32} {r : Int32} (hret : RetOK X 0 0 (some (.int r)) (wR a T c_m c_saved c_savedCount c_script c_scriptLength c_code c_lineParts c_lengths c_fractions c_pulseMany c_times c_energies c_far c_near c_echoes c_left c_dropped c_merged c_drops c_contributions c_packet c_peelResult c_peelTime c_peelSum c_at c_commands c_draft c_hash)) (hf : Rf_whyNoPulse_47 s0 = some r) : V X 0 0 (wR a T c_m c_saved c_savedCount c_script c_scriptLength c_code c_lineParts c_lengths c_fractions c_pulseMany c_times c_energies c_far c_near c_echoes c_left c_dropped c_merged c_drops c_contributions c_packet c_peelResult c_peelTime c_peelSum c_at c_commands c_draft c_hash) [] 47 [.int s0] := by
  unfold Rf_whyNoPulse_47 at hf
  cases hf
  exact v_iret C hret dX10_whyNoPulse_47
def Rf_whyNoPulse_24  : Option Int32 :=
  Rf_whyNoPulse_47 (1 : Int32)
set_option maxRecDepth 100000 in
set_option maxHeartbeats 4000000 in
theorem Rb_whyNoPulse_24 (C : Cx X G T cX10_whyNoPulse RX10 (some .int) 3 1 25)  {r : Int32} (hret : RetOK X 0 0 (some (.int r)) (wR a T c_m c_saved c_savedCount c_script c_scriptLength c_code c_lineParts c_lengths c_fractions c_pulseMany c_times c_energies c_far c_near c_echoes c_left c_dropped c_merged c_drops c_contributions c_packet c_peelResult c_peelTime c_peelSum c_at c_commands c_draft c_hash)) (hf : Rf_whyNoPulse_24  = some r) : V X 0 0 (wR a T c_m c_saved c_savedCount c_script c_scriptLength c_code c_lineParts c_lengths c_fractions c_pulseMany c_times c_energies c_far c_near c_echoes c_left c_dropped c_merged c_drops c_contributions c_packet c_peelResult c_peelTime c_peelSum c_at c_commands c_draft c_hash) [] 24 [] := by
  unfold Rf_whyNoPulse_24 at hf
  refine v_iconst (v := 1) C dX10_whyNoPulse_24 (by decide) ?_
  refine v_goto 47 C dX10_whyNoPulse_25 (by decide) ?_
  exact Rb_whyNoPulse_47 C hret hf
def Rf_whyNoPulse (c_m : Nat → Int64) (x1 : Int32) (x2 : Int32) : Option Int32 :=
  nm (x1.toInt64) fun z1 =>
  bd (Rf_in z1 (0 : Int64) (100 : Int64)) fun r6 =>
  if r6 = 0 then
    Rf_whyNoPulse_24 
  else
    nm (x2.toInt64) fun z13 =>
    bd (Rf_in z13 (1 : Int64) (1000000 : Int64)) fun r18 =>
    if r18 = 0 then
      Rf_whyNoPulse_24 
    else
      chk (inb (20 : Int32) 431) <| nm (c_m (20 : Int32).toNatClampNeg) fun z34 =>
      if z34 = (4 : Int64) then
        Rf_whyNoPulse_47 (2 : Int32)
      else
        Rf_whyNoPulse_47 (0 : Int32)
set_option maxRecDepth 100000 in
set_option maxHeartbeats 4000000 in
theorem Rb_whyNoPulse (C : Cx X G T cX10_whyNoPulse RX10 (some .int) 3 1 25) {x1 : Int32} {x2 : Int32} {r : Int32} (hret : RetOK X 0 0 (some (.int r)) (wR a T c_m c_saved c_savedCount c_script c_scriptLength c_code c_lineParts c_lengths c_fractions c_pulseMany c_times c_energies c_far c_near c_echoes c_left c_dropped c_merged c_drops c_contributions c_packet c_peelResult c_peelTime c_peelSum c_at c_commands c_draft c_hash)) (hf : Rf_whyNoPulse c_m x1 x2 = some r) : V X 0 0 (wR a T c_m c_saved c_savedCount c_script c_scriptLength c_code c_lineParts c_lengths c_fractions c_pulseMany c_times c_energies c_far c_near c_echoes c_left c_dropped c_merged c_drops c_contributions c_packet c_peelResult c_peelTime c_peelSum c_at c_commands c_draft c_hash) [(0, .ref (a 0)), (1, .int x1), (2, .int x2)] 0 [] := by
  unfold Rf_whyNoPulse at hf
  refine v_iload_n 1 C dX10_whyNoPulse_0 rfl rfl ?_
  refine v_i2l C dX10_whyNoPulse_1 hf (fun z1 hf => ?_)
  refine v_lconst (v := 0) C dX10_whyNoPulse_2 (by decide) ?_
  refine v_ldc2 (v := 100) C wconstantLong_RX10_44_100 dX10_whyNoPulse_3 ?_
  refine Rc_in C dX10_whyNoPulse_6 (by decide) (Nat.le_of_ble_eq_true rfl) hf (fun r6 hf => ?_)
  refine v_if_eq 24 C dX10_whyNoPulse_9 (by decide) hf (fun c hf => ?_) (fun c hf => ?_)
  · refine v_lv [] [] rfl ?_
    exact Rb_whyNoPulse_24 C hret hf
  · refine v_iload_n 2 C dX10_whyNoPulse_12 rfl rfl ?_
    refine v_i2l C dX10_whyNoPulse_13 hf (fun z13 hf => ?_)
    refine v_lconst (v := 1) C dX10_whyNoPulse_14 (by decide) ?_
    refine v_ldc2 (v := 1000000) C wconstantLong_RX10_171_1000000 dX10_whyNoPulse_15 ?_
    refine Rc_in C dX10_whyNoPulse_18 (by decide) (Nat.le_of_ble_eq_true rfl) hf (fun r18 hf => ?_)
    refine v_if_ne 28 C dX10_whyNoPulse_21 (by decide) hf (fun c hf => ?_) (fun c hf => ?_)
    · refine v_lv [] [] rfl ?_
      exact Rb_whyNoPulse_24 C hret hf
    · refine v_aload_n 0 C dX10_whyNoPulse_28 rfl rfl ?_
      refine Rg_m C dX10_whyNoPulse_29 ?_
      refine v_bipush (v := 20) C dX10_whyNoPulse_32 (by decide) ?_
      refine Ral_m C dX10_whyNoPulse_34 hf (fun z34 hf => ?_)
      refine v_ldc2 (v := 4) C wconstantLong_RX10_173_4 dX10_whyNoPulse_35 ?_
      refine v_lcmp_ne 46 C dX10_whyNoPulse_38 dX10_whyNoPulse_39 (by decide) hf (fun c hf => ?_) (fun c hf => ?_)
      · refine v_iconst (v := 2) C dX10_whyNoPulse_42 (by decide) ?_
        refine v_goto 47 C dX10_whyNoPulse_43 (by decide) ?_
        refine v_lv [] [] rfl ?_
        exact Rb_whyNoPulse_47 C hret hf
      · refine v_iconst (v := 0) C dX10_whyNoPulse_46 (by decide) ?_
        refine v_lv [] [] rfl ?_
        exact Rb_whyNoPulse_47 C hret hf
set_option maxRecDepth 100000 in
set_option maxHeartbeats 4000000 in
theorem Rm_whyNoPulse {D : va_G} {x1 : Int32} {x2 : Int32} {r : Int32} (hf : Rf_whyNoPulse c_m x1 x2 = some r) : MetM G yX10_whyNoPulse cX10_whyNoPulse 3 (some .int) { frames := 1, cells := 0, slots := 0, locals := 25 } D T [.ref (a 0), .int x1, .int x2] (wR a T c_m c_saved c_savedCount c_script c_scriptLength c_code c_lineParts c_lengths c_fractions c_pulseMany c_times c_energies c_far c_near c_echoes c_left c_dropped c_merged c_drops c_contributions c_packet c_peelResult c_peelTime c_peelSum c_at c_commands c_draft c_hash) (some (.int r)) (wR a T c_m c_saved c_savedCount c_script c_scriptLength c_code c_lineParts c_lengths c_fractions c_pulseMany c_times c_energies c_far c_near c_echoes c_left c_dropped c_merged c_drops c_contributions c_packet c_peelResult c_peelTime c_peelSum c_at c_commands c_draft c_hash) :=
  MetM.of [(0, .ref (a 0)), (1, .int x1), (2, .int x2)] (by decide) (Nat.le_of_ble_eq_true rfl) rfl (fun X C hret => Rb_whyNoPulse C hret hf)
set_option maxRecDepth 100000 in
theorem Rc_whyNoPulse {x1 : Int32} {x2 : Int32} {cc : ByteArray} {ret : Option FieldType} {nl fr lo pc : Nat} {lv : List (Nat × Value)} {rest : List Value} {β : Type} {K : Int32 → Option β} {oo : β} (C : Cx X G T cc RX10 ret nl fr lo) (hdg : decode cc pc = .ok (.invokevirtual 175, 3)) (hroom : 1 + 1 ≤ fr ∧ 8 + (3 + 11) + 25 ≤ lo) (hst : (rest.map fun v => v.category).sum ≤ 8) (hf : bd (Rf_whyNoPulse c_m x1 x2) K = some oo) (kk : ∀ (r : Int32), K r = some oo → V X 0 0 (wR a T c_m c_saved c_savedCount c_script c_scriptLength c_code c_lineParts c_lengths c_fractions c_pulseMany c_times c_energies c_far c_near c_echoes c_left c_dropped c_merged c_drops c_contributions c_packet c_peelResult c_peelTime c_peelSum c_at c_commands c_draft c_hash) lv (pc + 3) (.int r :: rest)) : V X 0 0 (wR a T c_m c_saved c_savedCount c_script c_scriptLength c_code c_lineParts c_lengths c_fractions c_pulseMany c_times c_energies c_far c_near c_echoes c_left c_dropped c_merged c_drops c_contributions c_packet c_peelResult c_peelTime c_peelSum c_at c_commands c_draft c_hash) lv pc (.int x2 :: .int x1 :: .ref (a 0) :: rest) := by
  obtain ⟨r, hc, hk⟩ := bd_some hf
  exact v_callV (As := [.int x1, .int x2]) (rest := rest) (q0 := 0) 2 C (CapOK.z X) (fun D => Rm_whyNoPulse hc) (goodV wmethodLink_RX10_175_yX10_whyNoPulse winstanceMethod_yX10_whyNoPulse wselects_RX10_yX10_whyNoPulse_yX10_whyNoPulse winitialized_RX10 wcode_yX10_whyNoPulse_cX10_whyNoPulse_3_some_int) (by decide +kernel) hroom ⟨rfl, rfl⟩ rfl rfl rfl hst hdg (kk r hk)
def Rf_addsPulse (c_m : Nat → Int64) (x1 : Int32) (x2 : Int32) : Option ((Nat → Int64) × Int32) :=
  chk (inb (20 : Int32) 431) <| nm (c_m (20 : Int32).toNatClampNeg) fun z9 =>
  nm (z9.toInt32) fun z10 =>
  nm ((2 : Int32) * z10) fun z11 =>
  nm ((21 : Int32) + z11) fun z12 =>
  nm (x1.toInt64) fun z20 =>
  chk (inb z12 431) <| nm (vp_updL c_m z12.toNatClampNeg z20) fun m_21 =>
  nm (z12 + (1 : Int32)) fun z28 =>
  nm (x2.toInt64) fun z30 =>
  chk (inb z28 431) <| nm (vp_updL m_21 z28.toNatClampNeg z30) fun m_31 =>
  chk (inb (20 : Int32) 431) <| nm (m_31 (20 : Int32).toNatClampNeg) fun z39 =>
  nm (z39 + (1 : Int64)) fun z41 =>
  chk (inb (20 : Int32) 431) <| nm (vp_updL m_31 (20 : Int32).toNatClampNeg z41) fun m_42 =>
  chk (inb (20 : Int32) 431) <| nm (m_42 (20 : Int32).toNatClampNeg) fun z49 =>
  nm (z49.toInt32) fun z50 =>
  some (m_42, z50)
set_option maxRecDepth 100000 in
set_option maxHeartbeats 4000000 in
theorem Rb_addsPulse (C : Cx X G T cX10_addsPulse RX10 (some .int) 4 0 0) {x1 : Int32} {x2 : Int32} {o_m : Nat → Int64} {r : Int32} (hret : RetOK X 0 0 (some (.int r)) (wR a T o_m c_saved c_savedCount c_script c_scriptLength c_code c_lineParts c_lengths c_fractions c_pulseMany c_times c_energies c_far c_near c_echoes c_left c_dropped c_merged c_drops c_contributions c_packet c_peelResult c_peelTime c_peelSum c_at c_commands c_draft c_hash)) (hf : Rf_addsPulse c_m x1 x2 = some (o_m, r)) : V X 0 0 (wR a T c_m c_saved c_savedCount c_script c_scriptLength c_code c_lineParts c_lengths c_fractions c_pulseMany c_times c_energies c_far c_near c_echoes c_left c_dropped c_merged c_drops c_contributions c_packet c_peelResult c_peelTime c_peelSum c_at c_commands c_draft c_hash) [(0, .ref (a 0)), (1, .int x1), (2, .int x2)] 0 [] := by
  unfold Rf_addsPulse at hf
  refine v_bipush (v := 21) C dX10_addsPulse_0 (by decide) ?_
  refine v_iconst (v := 2) C dX10_addsPulse_2 (by decide) ?_
  refine v_aload_n 0 C dX10_addsPulse_3 rfl rfl ?_
  refine Rg_m C dX10_addsPulse_4 ?_
  refine v_bipush (v := 20) C dX10_addsPulse_7 (by decide) ?_
  refine Ral_m C dX10_addsPulse_9 hf (fun z9 hf => ?_)
  refine v_l2i C dX10_addsPulse_10 hf (fun z10 hf => ?_)
  refine v_imul C dX10_addsPulse_11 hf (fun z11 hf => ?_)
  refine v_iadd C dX10_addsPulse_12 hf (fun z12 hf => ?_)
  refine v_istore_n [(0, .ref (a 0)), (1, .int x1), (2, .int x2), (3, .int z12)] [1, 2, 3, 0] C dX10_addsPulse_13 rfl (by decide) rfl ?_
  refine v_aload_n 0 C dX10_addsPulse_14 rfl rfl ?_
  refine Rg_m C dX10_addsPulse_15 ?_
  refine v_iload_n 3 C dX10_addsPulse_18 rfl rfl ?_
  refine v_iload_n 1 C dX10_addsPulse_19 rfl rfl ?_
  refine v_i2l C dX10_addsPulse_20 hf (fun z20 hf => ?_)
  refine Ras_m C dX10_addsPulse_21 hf (fun m_21 hf => ?_)
  refine v_aload_n 0 C dX10_addsPulse_22 rfl rfl ?_
  refine Rg_m C dX10_addsPulse_23 ?_
  refine v_iload_n 3 C dX10_addsPulse_26 rfl rfl ?_
  refine v_iconst (v := 1) C dX10_addsPulse_27 (by decide) ?_
  refine v_iadd C dX10_addsPulse_28 hf (fun z28 hf => ?_)
  refine v_iload_n 2 C dX10_addsPulse_29 rfl rfl ?_
  refine v_i2l C dX10_addsPulse_30 hf (fun z30 hf => ?_)
  refine Ras_m C dX10_addsPulse_31 hf (fun m_31 hf => ?_)
  refine v_aload_n 0 C dX10_addsPulse_32 rfl rfl ?_
  refine Rg_m C dX10_addsPulse_33 ?_
  refine v_bipush (v := 20) C dX10_addsPulse_36 (by decide) ?_
  refine v_dup2_11 C dX10_addsPulse_38 rfl rfl ?_
  refine Ral_m C dX10_addsPulse_39 hf (fun z39 hf => ?_)
  refine v_lconst (v := 1) C dX10_addsPulse_40 (by decide) ?_
  refine v_ladd C dX10_addsPulse_41 hf (fun z41 hf => ?_)
  refine Ras_m C dX10_addsPulse_42 hf (fun m_42 hf => ?_)
  refine v_aload_n 0 C dX10_addsPulse_43 rfl rfl ?_
  refine Rg_m C dX10_addsPulse_44 ?_
  refine v_bipush (v := 20) C dX10_addsPulse_47 (by decide) ?_
  refine Ral_m C dX10_addsPulse_49 hf (fun z49 hf => ?_)
  refine v_l2i C dX10_addsPulse_50 hf (fun z50 hf => ?_)
  cases hf
  exact v_iret C hret dX10_addsPulse_51
set_option maxRecDepth 100000 in
set_option maxHeartbeats 4000000 in
theorem Rm_addsPulse {D : va_G} {x1 : Int32} {x2 : Int32} {o_m : Nat → Int64} {r : Int32} (hf : Rf_addsPulse c_m x1 x2 = some (o_m, r)) : MetM G yX10_addsPulse cX10_addsPulse 4 (some .int) { frames := 0, cells := 0, slots := 0, locals := 0 } D T [.ref (a 0), .int x1, .int x2] (wR a T c_m c_saved c_savedCount c_script c_scriptLength c_code c_lineParts c_lengths c_fractions c_pulseMany c_times c_energies c_far c_near c_echoes c_left c_dropped c_merged c_drops c_contributions c_packet c_peelResult c_peelTime c_peelSum c_at c_commands c_draft c_hash) (some (.int r)) (wR a T o_m c_saved c_savedCount c_script c_scriptLength c_code c_lineParts c_lengths c_fractions c_pulseMany c_times c_energies c_far c_near c_echoes c_left c_dropped c_merged c_drops c_contributions c_packet c_peelResult c_peelTime c_peelSum c_at c_commands c_draft c_hash) :=
  MetM.of [(0, .ref (a 0)), (1, .int x1), (2, .int x2)] (by decide) (Nat.le_of_ble_eq_true rfl) rfl (fun X C hret => Rb_addsPulse C hret hf)
set_option maxRecDepth 100000 in
theorem Rc_addsPulse {x1 : Int32} {x2 : Int32} {cc : ByteArray} {ret : Option FieldType} {nl fr lo pc : Nat} {lv : List (Nat × Value)} {rest : List Value} {β : Type} {K : ((Nat → Int64) × Int32) → Option β} {oo : β} (C : Cx X G T cc RX10 ret nl fr lo) (hdg : decode cc pc = .ok (.invokevirtual 178, 3)) (hroom : 0 + 1 ≤ fr ∧ 8 + (4 + 11) + 0 ≤ lo) (hst : (rest.map fun v => v.category).sum ≤ 8) (hf : bd (Rf_addsPulse c_m x1 x2) K = some oo) (kk : ∀ (o_m : Nat → Int64) (r : Int32), K (o_m, r) = some oo → V X 0 0 (wR a T o_m c_saved c_savedCount c_script c_scriptLength c_code c_lineParts c_lengths c_fractions c_pulseMany c_times c_energies c_far c_near c_echoes c_left c_dropped c_merged c_drops c_contributions c_packet c_peelResult c_peelTime c_peelSum c_at c_commands c_draft c_hash) lv (pc + 3) (.int r :: rest)) : V X 0 0 (wR a T c_m c_saved c_savedCount c_script c_scriptLength c_code c_lineParts c_lengths c_fractions c_pulseMany c_times c_energies c_far c_near c_echoes c_left c_dropped c_merged c_drops c_contributions c_packet c_peelResult c_peelTime c_peelSum c_at c_commands c_draft c_hash) lv pc (.int x2 :: .int x1 :: .ref (a 0) :: rest) := by
  obtain ⟨⟨o_m, r⟩, hc, hk⟩ := bd_some hf
  exact v_callV (As := [.int x1, .int x2]) (rest := rest) (q0 := 0) 2 C (CapOK.z X) (fun D => Rm_addsPulse hc) (goodV wmethodLink_RX10_178_yX10_addsPulse winstanceMethod_yX10_addsPulse wselects_RX10_yX10_addsPulse_yX10_addsPulse winitialized_RX10 wcode_yX10_addsPulse_cX10_addsPulse_4_some_int) (by decide +kernel) hroom ⟨rfl, rfl⟩ rfl rfl rfl hst hdg (kk o_m r hk)
def Rf_addPulse (c_m : Nat → Int64) (c_saved : Nat → Int64) (c_savedCount : Int32) (c_code : Int32) (x1 : Int32) (x2 : Int32) : Option ((Nat → Int64) × (Nat → Int64) × Int32 × Int32 × Int32) :=
  bd (Rf_whyNoPulse c_m x1 x2) fun r4 =>
  if r4 = 0 then
    bd (Rf_keep c_m c_saved c_savedCount) fun (saved_20, savedCount_20) =>
    bd (Rf_addsPulse c_m x1 x2) fun (m_26, r26) =>
    some (m_26, saved_20, savedCount_20, r4, r26)
  else
    some (c_m, c_saved, c_savedCount, r4, (0 : Int32))
set_option maxRecDepth 100000 in
set_option maxHeartbeats 4000000 in
theorem Rb_addPulse (C : Cx X G T cX10_addPulse RX10 (some .int) 3 2 47) {x1 : Int32} {x2 : Int32} {o_m : Nat → Int64} {o_saved : Nat → Int64} {o_savedCount : Int32} {o_code : Int32} {r : Int32} (hret : RetOK X 0 0 (some (.int r)) (wR a T o_m o_saved o_savedCount c_script c_scriptLength o_code c_lineParts c_lengths c_fractions c_pulseMany c_times c_energies c_far c_near c_echoes c_left c_dropped c_merged c_drops c_contributions c_packet c_peelResult c_peelTime c_peelSum c_at c_commands c_draft c_hash)) (hf : Rf_addPulse c_m c_saved c_savedCount c_code x1 x2 = some (o_m, o_saved, o_savedCount, o_code, r)) : V X 0 0 (wR a T c_m c_saved c_savedCount c_script c_scriptLength c_code c_lineParts c_lengths c_fractions c_pulseMany c_times c_energies c_far c_near c_echoes c_left c_dropped c_merged c_drops c_contributions c_packet c_peelResult c_peelTime c_peelSum c_at c_commands c_draft c_hash) [(0, .ref (a 0)), (1, .int x1), (2, .int x2)] 0 [] := by
  unfold Rf_addPulse at hf
  refine v_aload_n 0 C dX10_addPulse_0 rfl rfl ?_
  refine v_aload_n 0 C dX10_addPulse_1 rfl rfl ?_
  refine v_iload_n 1 C dX10_addPulse_2 rfl rfl ?_
  refine v_iload_n 2 C dX10_addPulse_3 rfl rfl ?_
  refine Rc_whyNoPulse C dX10_addPulse_4 (by decide) (Nat.le_of_ble_eq_true rfl) hf (fun r4 hf => ?_)
  refine Rp_code C dX10_addPulse_7 ?_
  refine v_aload_n 0 C dX10_addPulse_10 rfl rfl ?_
  refine Rg_code C dX10_addPulse_11 ?_
  refine v_if_eq 19 C dX10_addPulse_14 (by decide) hf (fun c hf => ?_) (fun c hf => ?_)
  · refine v_aload_n 0 C dX10_addPulse_19 rfl rfl ?_
    refine Rc_keep C dX10_addPulse_20 (by decide) (Nat.le_of_ble_eq_true rfl) hf (fun saved_20 savedCount_20 hf => ?_)
    refine v_aload_n 0 C dX10_addPulse_23 rfl rfl ?_
    refine v_iload_n 1 C dX10_addPulse_24 rfl rfl ?_
    refine v_iload_n 2 C dX10_addPulse_25 rfl rfl ?_
    refine Rc_addsPulse C dX10_addPulse_26 (by decide) (Nat.le_of_ble_eq_true rfl) hf (fun m_26 r26 hf => ?_)
    cases hf
    exact v_iret C hret dX10_addPulse_29
  · refine v_iconst (v := 0) C dX10_addPulse_17 (by decide) ?_
    cases hf
    exact v_iret C hret dX10_addPulse_18
set_option maxRecDepth 100000 in
set_option maxHeartbeats 4000000 in
theorem Rm_addPulse {D : va_G} {x1 : Int32} {x2 : Int32} {o_m : Nat → Int64} {o_saved : Nat → Int64} {o_savedCount : Int32} {o_code : Int32} {r : Int32} (hf : Rf_addPulse c_m c_saved c_savedCount c_code x1 x2 = some (o_m, o_saved, o_savedCount, o_code, r)) : MetM G yX10_addPulse cX10_addPulse 3 (some .int) { frames := 2, cells := 0, slots := 0, locals := 47 } D T [.ref (a 0), .int x1, .int x2] (wR a T c_m c_saved c_savedCount c_script c_scriptLength c_code c_lineParts c_lengths c_fractions c_pulseMany c_times c_energies c_far c_near c_echoes c_left c_dropped c_merged c_drops c_contributions c_packet c_peelResult c_peelTime c_peelSum c_at c_commands c_draft c_hash) (some (.int r)) (wR a T o_m o_saved o_savedCount c_script c_scriptLength o_code c_lineParts c_lengths c_fractions c_pulseMany c_times c_energies c_far c_near c_echoes c_left c_dropped c_merged c_drops c_contributions c_packet c_peelResult c_peelTime c_peelSum c_at c_commands c_draft c_hash) :=
  MetM.of [(0, .ref (a 0)), (1, .int x1), (2, .int x2)] (by decide) (Nat.le_of_ble_eq_true rfl) rfl (fun X C hret => Rb_addPulse C hret hf)
def Rl_removePulse_74  : Nat → (Nat → Int64) → Int32 → Option (Nat → Int64)
  | 0, _, _ => none
  | n + 1, c_m, x2 =>
    nm (x2.toInt64) fun z75 =>
    chk (inb (20 : Int32) 431) <| nm (c_m (20 : Int32).toNatClampNeg) fun z88 =>
    nm ((2 : Int64) * z88) fun z89 =>
    nm ((21 : Int64) + z89) fun z90 =>
    if z90 ≤ z75 then
      some c_m
    else
      nm (x2 + (2 : Int32)) fun z106 =>
      chk (inb z106 431) <| nm (c_m z106.toNatClampNeg) fun z107 =>
      chk (inb x2 431) <| nm (vp_updL c_m x2.toNatClampNeg z107) fun m_108 =>
      nm (x2 + (1 : Int32)) fun x2_109 =>
      Rl_removePulse_74 n m_108 x2_109
set_option maxRecDepth 100000 in
set_option maxHeartbeats 4000000 in
theorem Rk_removePulse_74 (C : Cx X G T cX10_removePulse RX10 (some .int) 3 1 25)  {o_m : Nat → Int64} (hk : V X 0 0 (wR a T o_m c_saved c_savedCount c_script c_scriptLength c_code c_lineParts c_lengths c_fractions c_pulseMany c_times c_energies c_far c_near c_echoes c_left c_dropped c_merged c_drops c_contributions c_packet c_peelResult c_peelTime c_peelSum c_at c_commands c_draft c_hash) [(0, .ref (a 0))] 115 []) : ∀ (n : Nat) (c_m : Nat → Int64) (x2 : Int32), Rl_removePulse_74  n c_m x2 = some o_m → V X 0 0 (wR a T c_m c_saved c_savedCount c_script c_scriptLength c_code c_lineParts c_lengths c_fractions c_pulseMany c_times c_energies c_far c_near c_echoes c_left c_dropped c_merged c_drops c_contributions c_packet c_peelResult c_peelTime c_peelSum c_at c_commands c_draft c_hash) [(0, .ref (a 0)), (2, .int x2)] 74 [] := by
  intro n
  induction n with
  | zero =>
    intro _ _ hf
    cases hf
  | succ n hrec =>
    intro c_m x2 hf
    rw [Rl_removePulse_74] at hf
    refine v_iload_n 1 C dX10_removePulse_74 rfl rfl ?_
    refine v_i2l C dX10_removePulse_75 hf (fun z75 hf => ?_)
    refine v_ldc2 (v := 21) C wconstantLong_RX10_181_21 dX10_removePulse_76 ?_
    refine v_ldc2 (v := 2) C wconstantLong_RX10_183_2 dX10_removePulse_79 ?_
    refine v_aload_n 0 C dX10_removePulse_82 rfl rfl ?_
    refine Rg_m C dX10_removePulse_83 ?_
    refine v_bipush (v := 20) C dX10_removePulse_86 (by decide) ?_
    refine Ral_m C dX10_removePulse_88 hf (fun z88 hf => ?_)
    refine v_lmul C dX10_removePulse_89 hf (fun z89 hf => ?_)
    refine v_ladd C dX10_removePulse_90 hf (fun z90 hf => ?_)
    refine v_lcmp_ge 115 C dX10_removePulse_91 dX10_removePulse_92 (by decide) hf (fun c hf => ?_) (fun c hf => ?_)
    · refine v_lv [(0, .ref (a 0))] [0] rfl ?_
      cases hf
      exact hk
    · refine v_aload_n 0 C dX10_removePulse_95 rfl rfl ?_
      refine Rg_m C dX10_removePulse_96 ?_
      refine v_iload_n 1 C dX10_removePulse_99 rfl rfl ?_
      refine v_aload_n 0 C dX10_removePulse_100 rfl rfl ?_
      refine Rg_m C dX10_removePulse_101 ?_
      refine v_iload_n 1 C dX10_removePulse_104 rfl rfl ?_
      refine v_iconst (v := 2) C dX10_removePulse_105 (by decide) ?_
      refine v_iadd C dX10_removePulse_106 hf (fun z106 hf => ?_)
      refine Ral_m C dX10_removePulse_107 hf (fun z107 hf => ?_)
      refine Ras_m C dX10_removePulse_108 hf (fun m_108 hf => ?_)
      refine v_iinc (fun x2_109 => [(0, .ref (a 0)), (2, .int x2_109)]) [1, 0] C dX10_removePulse_109 (j := 1) rfl (dv := 1) (by decide) (by decide) (fun _ => rfl) hf (fun x2_109 hf => ?_)
      refine v_goto 74 C dX10_removePulse_112 (by decide) ?_
      exact hrec _ _ hf
def Rf_removePulse_40 (c_m : Nat → Int64) (c_saved : Nat → Int64) (c_savedCount : Int32) (c_code : Int32) (x1 : Int32) (s1 : Int32) : Option ((Nat → Int64) × (Nat → Int64) × Int32 × Int32 × Int32) :=
  if s1 = 0 then
    bd (Rf_keep c_m c_saved c_savedCount) fun (saved_53, savedCount_53) =>
    chk (inb (20 : Int32) 431) <| nm (c_m (20 : Int32).toNatClampNeg) fun z63 =>
    nm (z63 - (1 : Int64)) fun z65 =>
    chk (inb (20 : Int32) 431) <| nm (vp_updL c_m (20 : Int32).toNatClampNeg z65) fun m_66 =>
    nm ((2 : Int32) * x1) fun z71 =>
    nm ((21 : Int32) + z71) fun z72 =>
    bd (Rl_removePulse_74 FUEL m_66 z72) fun o_m_74 =>
    chk (inb (20 : Int32) 431) <| nm (o_m_74 (20 : Int32).toNatClampNeg) fun z121 =>
    nm (z121.toInt32) fun z122 =>
    some (o_m_74, saved_53, savedCount_53, s1, z122)
  else
    some (c_m, c_saved, c_savedCount, s1, (0 : Int32))
set_option maxRecDepth 100000 in
set_option maxHeartbeats 4000000 in
theorem Rb_removePulse_40 (C : Cx X G T cX10_removePulse RX10 (some .int) 3 1 25) {x1 : Int32} {s1 : Int32} {o_m : Nat → Int64} {o_saved : Nat → Int64} {o_savedCount : Int32} {o_code : Int32} {r : Int32} (hret : RetOK X 0 0 (some (.int r)) (wR a T o_m o_saved o_savedCount c_script c_scriptLength o_code c_lineParts c_lengths c_fractions c_pulseMany c_times c_energies c_far c_near c_echoes c_left c_dropped c_merged c_drops c_contributions c_packet c_peelResult c_peelTime c_peelSum c_at c_commands c_draft c_hash)) (hf : Rf_removePulse_40 c_m c_saved c_savedCount c_code x1 s1 = some (o_m, o_saved, o_savedCount, o_code, r)) : V X 0 0 (wR a T c_m c_saved c_savedCount c_script c_scriptLength c_code c_lineParts c_lengths c_fractions c_pulseMany c_times c_energies c_far c_near c_echoes c_left c_dropped c_merged c_drops c_contributions c_packet c_peelResult c_peelTime c_peelSum c_at c_commands c_draft c_hash) [(0, .ref (a 0)), (1, .int x1)] 40 [.int s1, .ref (a 0)] := by
  unfold Rf_removePulse_40 at hf
  refine Rp_code C dX10_removePulse_40 ?_
  refine v_aload_n 0 C dX10_removePulse_43 rfl rfl ?_
  refine Rg_code C dX10_removePulse_44 ?_
  refine v_if_eq 52 C dX10_removePulse_47 (by decide) hf (fun c hf => ?_) (fun c hf => ?_)
  · refine v_aload_n 0 C dX10_removePulse_52 rfl rfl ?_
    refine Rc_keep C dX10_removePulse_53 (by decide) (Nat.le_of_ble_eq_true rfl) hf (fun saved_53 savedCount_53 hf => ?_)
    refine v_aload_n 0 C dX10_removePulse_56 rfl rfl ?_
    refine Rg_m C dX10_removePulse_57 ?_
    refine v_bipush (v := 20) C dX10_removePulse_60 (by decide) ?_
    refine v_dup2_11 C dX10_removePulse_62 rfl rfl ?_
    refine Ral_m C dX10_removePulse_63 hf (fun z63 hf => ?_)
    refine v_lconst (v := 1) C dX10_removePulse_64 (by decide) ?_
    refine v_lsub C dX10_removePulse_65 hf (fun z65 hf => ?_)
    refine Ras_m C dX10_removePulse_66 hf (fun m_66 hf => ?_)
    refine v_bipush (v := 21) C dX10_removePulse_67 (by decide) ?_
    refine v_iconst (v := 2) C dX10_removePulse_69 (by decide) ?_
    refine v_iload_n 1 C dX10_removePulse_70 rfl rfl ?_
    refine v_imul C dX10_removePulse_71 hf (fun z71 hf => ?_)
    refine v_iadd C dX10_removePulse_72 hf (fun z72 hf => ?_)
    refine v_istore_n [(0, .ref (a 0)), (2, .int z72)] [1, 0] C dX10_removePulse_73 rfl (by decide) rfl ?_
    obtain ⟨o_m_74, hc, hf⟩ := bd_some hf
    refine Rk_removePulse_74 C ?_ _ _ _ hc
    refine v_aload_n 0 C dX10_removePulse_115 rfl rfl ?_
    refine Rg_m C dX10_removePulse_116 ?_
    refine v_bipush (v := 20) C dX10_removePulse_119 (by decide) ?_
    refine Ral_m C dX10_removePulse_121 hf (fun z121 hf => ?_)
    refine v_l2i C dX10_removePulse_122 hf (fun z122 hf => ?_)
    cases hf
    exact v_iret C hret dX10_removePulse_123
  · refine v_iconst (v := 0) C dX10_removePulse_50 (by decide) ?_
    cases hf
    exact v_iret C hret dX10_removePulse_51
def Rf_removePulse (c_m : Nat → Int64) (c_saved : Nat → Int64) (c_savedCount : Int32) (c_code : Int32) (x1 : Int32) : Option ((Nat → Int64) × (Nat → Int64) × Int32 × Int32 × Int32) :=
  nm (x1.toInt64) fun z2 =>
  chk (inb (20 : Int32) 431) <| nm (c_m (20 : Int32).toNatClampNeg) fun z10 =>
  nm (z10 - (1 : Int64)) fun z12 =>
  bd (Rf_in z2 (0 : Int64) z12) fun r13 =>
  if r13 = 0 then
    Rf_removePulse_40 c_m c_saved c_savedCount c_code x1 (1 : Int32)
  else
    chk (inb (20 : Int32) 431) <| nm (c_m (20 : Int32).toNatClampNeg) fun z29 =>
    if z29 = (1 : Int64) then
      Rf_removePulse_40 c_m c_saved c_savedCount c_code x1 (2 : Int32)
    else
      Rf_removePulse_40 c_m c_saved c_savedCount c_code x1 (0 : Int32)
set_option maxRecDepth 100000 in
set_option maxHeartbeats 4000000 in
theorem Rb_removePulse (C : Cx X G T cX10_removePulse RX10 (some .int) 3 1 25) {x1 : Int32} {o_m : Nat → Int64} {o_saved : Nat → Int64} {o_savedCount : Int32} {o_code : Int32} {r : Int32} (hret : RetOK X 0 0 (some (.int r)) (wR a T o_m o_saved o_savedCount c_script c_scriptLength o_code c_lineParts c_lengths c_fractions c_pulseMany c_times c_energies c_far c_near c_echoes c_left c_dropped c_merged c_drops c_contributions c_packet c_peelResult c_peelTime c_peelSum c_at c_commands c_draft c_hash)) (hf : Rf_removePulse c_m c_saved c_savedCount c_code x1 = some (o_m, o_saved, o_savedCount, o_code, r)) : V X 0 0 (wR a T c_m c_saved c_savedCount c_script c_scriptLength c_code c_lineParts c_lengths c_fractions c_pulseMany c_times c_energies c_far c_near c_echoes c_left c_dropped c_merged c_drops c_contributions c_packet c_peelResult c_peelTime c_peelSum c_at c_commands c_draft c_hash) [(0, .ref (a 0)), (1, .int x1)] 0 [] := by
  unfold Rf_removePulse at hf
  refine v_aload_n 0 C dX10_removePulse_0 rfl rfl ?_
  refine v_iload_n 1 C dX10_removePulse_1 rfl rfl ?_
  refine v_i2l C dX10_removePulse_2 hf (fun z2 hf => ?_)
  refine v_lconst (v := 0) C dX10_removePulse_3 (by decide) ?_
  refine v_aload_n 0 C dX10_removePulse_4 rfl rfl ?_
  refine Rg_m C dX10_removePulse_5 ?_
  refine v_bipush (v := 20) C dX10_removePulse_8 (by decide) ?_
  refine Ral_m C dX10_removePulse_10 hf (fun z10 hf => ?_)
  refine v_lconst (v := 1) C dX10_removePulse_11 (by decide) ?_
  refine v_lsub C dX10_removePulse_12 hf (fun z12 hf => ?_)
  refine Rc_in C dX10_removePulse_13 (by decide) (Nat.le_of_ble_eq_true rfl) hf (fun r13 hf => ?_)
  refine v_if_ne 23 C dX10_removePulse_16 (by decide) hf (fun c hf => ?_) (fun c hf => ?_)
  · refine v_iconst (v := 1) C dX10_removePulse_19 (by decide) ?_
    refine v_goto 40 C dX10_removePulse_20 (by decide) ?_
    exact Rb_removePulse_40 C hret hf
  · refine v_aload_n 0 C dX10_removePulse_23 rfl rfl ?_
    refine Rg_m C dX10_removePulse_24 ?_
    refine v_bipush (v := 20) C dX10_removePulse_27 (by decide) ?_
    refine Ral_m C dX10_removePulse_29 hf (fun z29 hf => ?_)
    refine v_lconst (v := 1) C dX10_removePulse_30 (by decide) ?_
    refine v_lcmp_ne 39 C dX10_removePulse_31 dX10_removePulse_32 (by decide) hf (fun c hf => ?_) (fun c hf => ?_)
    · refine v_iconst (v := 2) C dX10_removePulse_35 (by decide) ?_
      refine v_goto 40 C dX10_removePulse_36 (by decide) ?_
      exact Rb_removePulse_40 C hret hf
    · refine v_iconst (v := 0) C dX10_removePulse_39 (by decide) ?_
      exact Rb_removePulse_40 C hret hf
set_option maxRecDepth 100000 in
set_option maxHeartbeats 4000000 in
theorem Rm_removePulse {D : va_G} {x1 : Int32} {o_m : Nat → Int64} {o_saved : Nat → Int64} {o_savedCount : Int32} {o_code : Int32} {r : Int32} (hf : Rf_removePulse c_m c_saved c_savedCount c_code x1 = some (o_m, o_saved, o_savedCount, o_code, r)) : MetM G yX10_removePulse cX10_removePulse 3 (some .int) { frames := 1, cells := 0, slots := 0, locals := 25 } D T [.ref (a 0), .int x1] (wR a T c_m c_saved c_savedCount c_script c_scriptLength c_code c_lineParts c_lengths c_fractions c_pulseMany c_times c_energies c_far c_near c_echoes c_left c_dropped c_merged c_drops c_contributions c_packet c_peelResult c_peelTime c_peelSum c_at c_commands c_draft c_hash) (some (.int r)) (wR a T o_m o_saved o_savedCount c_script c_scriptLength o_code c_lineParts c_lengths c_fractions c_pulseMany c_times c_energies c_far c_near c_echoes c_left c_dropped c_merged c_drops c_contributions c_packet c_peelResult c_peelTime c_peelSum c_at c_commands c_draft c_hash) :=
  MetM.of [(0, .ref (a 0)), (1, .int x1)] (by decide) (Nat.le_of_ble_eq_true rfl) rfl (fun X C hret => Rb_removePulse C hret hf)
def Rl_upTo_4 (c_m : Nat → Int64) (x1 : Int32) : Nat → Int32 → Int32 → Option Int32
  | 0, _, _ => none
  | n + 1, x2, x3 =>
    if x1 < x3 then
      some x2
    else
      nm ((1 : Int32) + x3) fun z16 =>
      chk (inb z16 431) <| nm (c_m z16.toNatClampNeg) fun z17 =>
      nm (z17.toInt32) fun z18 =>
      nm (x2 + z18) fun z19 =>
      nm (x3 + (1 : Int32)) fun x3_21 =>
      Rl_upTo_4 c_m x1 n z19 x3_21
set_option maxRecDepth 100000 in
set_option maxHeartbeats 4000000 in
theorem Rk_upTo_4 (C : Cx X G T cX10_upTo RX10 (some .int) 4 0 0) {x1 : Int32} {y2 : Int32} (hk : V X 0 0 (wR a T c_m c_saved c_savedCount c_script c_scriptLength c_code c_lineParts c_lengths c_fractions c_pulseMany c_times c_energies c_far c_near c_echoes c_left c_dropped c_merged c_drops c_contributions c_packet c_peelResult c_peelTime c_peelSum c_at c_commands c_draft c_hash) [(2, .int y2)] 27 []) : ∀ (n : Nat) (x2 : Int32) (x3 : Int32), Rl_upTo_4 c_m x1 n x2 x3 = some y2 → V X 0 0 (wR a T c_m c_saved c_savedCount c_script c_scriptLength c_code c_lineParts c_lengths c_fractions c_pulseMany c_times c_energies c_far c_near c_echoes c_left c_dropped c_merged c_drops c_contributions c_packet c_peelResult c_peelTime c_peelSum c_at c_commands c_draft c_hash) [(0, .ref (a 0)), (1, .int x1), (2, .int x2), (3, .int x3)] 4 [] := by
  intro n
  induction n with
  | zero =>
    intro _ _ hf
    cases hf
  | succ n hrec =>
    intro x2 x3 hf
    rw [Rl_upTo_4] at hf
    refine v_iload_n 3 C dX10_upTo_4 rfl rfl ?_
    refine v_iload_n 1 C dX10_upTo_5 rfl rfl ?_
    refine v_icmp_gt 27 C dX10_upTo_6 (by decide) hf (fun c hf => ?_) (fun c hf => ?_)
    · refine v_lv [(2, .int x2)] [2] rfl ?_
      cases hf
      exact hk
    · refine v_iload_n 2 C dX10_upTo_9 rfl rfl ?_
      refine v_aload_n 0 C dX10_upTo_10 rfl rfl ?_
      refine Rg_m C dX10_upTo_11 ?_
      refine v_iconst (v := 1) C dX10_upTo_14 (by decide) ?_
      refine v_iload_n 3 C dX10_upTo_15 rfl rfl ?_
      refine v_iadd C dX10_upTo_16 hf (fun z16 hf => ?_)
      refine Ral_m C dX10_upTo_17 hf (fun z17 hf => ?_)
      refine v_l2i C dX10_upTo_18 hf (fun z18 hf => ?_)
      refine v_iadd C dX10_upTo_19 hf (fun z19 hf => ?_)
      refine v_istore_n [(0, .ref (a 0)), (1, .int x1), (2, .int z19), (3, .int x3)] [1, 2, 0, 3] C dX10_upTo_20 rfl (by decide) rfl ?_
      refine v_iinc (fun x3_21 => [(0, .ref (a 0)), (1, .int x1), (2, .int z19), (3, .int x3_21)]) [1, 2, 3, 0] C dX10_upTo_21 (j := 3) rfl (dv := 1) (by decide) (by decide) (fun _ => rfl) hf (fun x3_21 hf => ?_)
      refine v_goto 4 C dX10_upTo_24 (by decide) ?_
      exact hrec _ _ hf
def Rf_upTo (c_m : Nat → Int64) (x1 : Int32) : Option Int32 :=
  bd (Rl_upTo_4 c_m x1 FUEL (0 : Int32) (0 : Int32)) fun y2_4 =>
  some y2_4
set_option maxRecDepth 100000 in
set_option maxHeartbeats 4000000 in
theorem Rb_upTo (C : Cx X G T cX10_upTo RX10 (some .int) 4 0 0) {x1 : Int32} {r : Int32} (hret : RetOK X 0 0 (some (.int r)) (wR a T c_m c_saved c_savedCount c_script c_scriptLength c_code c_lineParts c_lengths c_fractions c_pulseMany c_times c_energies c_far c_near c_echoes c_left c_dropped c_merged c_drops c_contributions c_packet c_peelResult c_peelTime c_peelSum c_at c_commands c_draft c_hash)) (hf : Rf_upTo c_m x1 = some r) : V X 0 0 (wR a T c_m c_saved c_savedCount c_script c_scriptLength c_code c_lineParts c_lengths c_fractions c_pulseMany c_times c_energies c_far c_near c_echoes c_left c_dropped c_merged c_drops c_contributions c_packet c_peelResult c_peelTime c_peelSum c_at c_commands c_draft c_hash) [(0, .ref (a 0)), (1, .int x1)] 0 [] := by
  unfold Rf_upTo at hf
  refine v_iconst (v := 0) C dX10_upTo_0 (by decide) ?_
  refine v_istore_n [(0, .ref (a 0)), (1, .int x1), (2, .int (0 : Int32))] [1, 2, 0] C dX10_upTo_1 rfl (by decide) rfl ?_
  refine v_iconst (v := 0) C dX10_upTo_2 (by decide) ?_
  refine v_istore_n [(0, .ref (a 0)), (1, .int x1), (2, .int (0 : Int32)), (3, .int (0 : Int32))] [1, 2, 3, 0] C dX10_upTo_3 rfl (by decide) rfl ?_
  obtain ⟨y2_4, hc, hf⟩ := bd_some hf
  refine Rk_upTo_4 C ?_ _ _ _ hc
  refine v_iload_n 0 C dX10_upTo_27 rfl rfl ?_
  cases hf
  exact v_iret C hret dX10_upTo_28
set_option maxRecDepth 100000 in
set_option maxHeartbeats 4000000 in
theorem Rm_upTo {D : va_G} {x1 : Int32} {r : Int32} (hf : Rf_upTo c_m x1 = some r) : MetM G yX10_upTo cX10_upTo 4 (some .int) { frames := 0, cells := 0, slots := 0, locals := 0 } D T [.ref (a 0), .int x1] (wR a T c_m c_saved c_savedCount c_script c_scriptLength c_code c_lineParts c_lengths c_fractions c_pulseMany c_times c_energies c_far c_near c_echoes c_left c_dropped c_merged c_drops c_contributions c_packet c_peelResult c_peelTime c_peelSum c_at c_commands c_draft c_hash) (some (.int r)) (wR a T c_m c_saved c_savedCount c_script c_scriptLength c_code c_lineParts c_lengths c_fractions c_pulseMany c_times c_energies c_far c_near c_echoes c_left c_dropped c_merged c_drops c_contributions c_packet c_peelResult c_peelTime c_peelSum c_at c_commands c_draft c_hash) :=
  MetM.of [(0, .ref (a 0)), (1, .int x1)] (by decide) (Nat.le_of_ble_eq_true rfl) rfl (fun X C hret => Rb_upTo C hret hf)
set_option maxRecDepth 100000 in
theorem Rc_upTo {x1 : Int32} {cc : ByteArray} {ret : Option FieldType} {nl fr lo pc : Nat} {lv : List (Nat × Value)} {rest : List Value} {β : Type} {K : Int32 → Option β} {oo : β} (C : Cx X G T cc RX10 ret nl fr lo) (hdg : decode cc pc = .ok (.invokevirtual 185, 3)) (hroom : 0 + 1 ≤ fr ∧ 8 + (4 + 11) + 0 ≤ lo) (hst : (rest.map fun v => v.category).sum ≤ 8) (hf : bd (Rf_upTo c_m x1) K = some oo) (kk : ∀ (r : Int32), K r = some oo → V X 0 0 (wR a T c_m c_saved c_savedCount c_script c_scriptLength c_code c_lineParts c_lengths c_fractions c_pulseMany c_times c_energies c_far c_near c_echoes c_left c_dropped c_merged c_drops c_contributions c_packet c_peelResult c_peelTime c_peelSum c_at c_commands c_draft c_hash) lv (pc + 3) (.int r :: rest)) : V X 0 0 (wR a T c_m c_saved c_savedCount c_script c_scriptLength c_code c_lineParts c_lengths c_fractions c_pulseMany c_times c_energies c_far c_near c_echoes c_left c_dropped c_merged c_drops c_contributions c_packet c_peelResult c_peelTime c_peelSum c_at c_commands c_draft c_hash) lv pc (.int x1 :: .ref (a 0) :: rest) := by
  obtain ⟨r, hc, hk⟩ := bd_some hf
  exact v_callV (As := [.int x1]) (rest := rest) (q0 := 0) 1 C (CapOK.z X) (fun D => Rm_upTo hc) (goodV wmethodLink_RX10_185_yX10_upTo winstanceMethod_yX10_upTo wselects_RX10_yX10_upTo_yX10_upTo winitialized_RX10 wcode_yX10_upTo_cX10_upTo_4_some_int) (by decide +kernel) hroom ⟨rfl, rfl⟩ rfl rfl rfl hst hdg (kk r hk)
def Rf_part_73 (c_code : Int32) (s0 : Int32) : Option (Int32 × Int32) :=
  some (c_code, s0)
set_option maxRecDepth 100000 in
set_option maxHeartbeats 4000000 in
theorem Rb_part_73 (C : Cx X G T cX10_part RX10 (some .int) 3 2 46) {s0 : Int32} {o_code : Int32} {r : Int32} (hret : RetOK X 0 0 (some (.int r)) (wR a T c_m c_saved c_savedCount c_script c_scriptLength o_code c_lineParts c_lengths c_fractions c_pulseMany c_times c_energies c_far c_near c_echoes c_left c_dropped c_merged c_drops c_contributions c_packet c_peelResult c_peelTime c_peelSum c_at c_commands c_draft c_hash)) (hf : Rf_part_73 c_code s0 = some (o_code, r)) : V X 0 0 (wR a T c_m c_saved c_savedCount c_script c_scriptLength c_code c_lineParts c_lengths c_fractions c_pulseMany c_times c_energies c_far c_near c_echoes c_left c_dropped c_merged c_drops c_contributions c_packet c_peelResult c_peelTime c_peelSum c_at c_commands c_draft c_hash) [] 73 [.int s0] := by
  unfold Rf_part_73 at hf
  cases hf
  exact v_iret C hret dX10_part_73
def Rf_part_69 (c_m : Nat → Int64) (c_code : Int32) (x1 : Int32) (s1 : Int32) : Option (Int32 × Int32) :=
  nm (s1 + x1) fun z70 =>
  chk (inb z70 431) <| nm (c_m z70.toNatClampNeg) fun z71 =>
  nm (z71.toInt32) fun z72 =>
  Rf_part_73 c_code z72
set_option maxRecDepth 100000 in
set_option maxHeartbeats 4000000 in
theorem Rb_part_69 (C : Cx X G T cX10_part RX10 (some .int) 3 2 46) {x1 : Int32} {s1 : Int32} {o_code : Int32} {r : Int32} (hret : RetOK X 0 0 (some (.int r)) (wR a T c_m c_saved c_savedCount c_script c_scriptLength o_code c_lineParts c_lengths c_fractions c_pulseMany c_times c_energies c_far c_near c_echoes c_left c_dropped c_merged c_drops c_contributions c_packet c_peelResult c_peelTime c_peelSum c_at c_commands c_draft c_hash)) (hf : Rf_part_69 c_m c_code x1 s1 = some (o_code, r)) : V X 0 0 (wR a T c_m c_saved c_savedCount c_script c_scriptLength c_code c_lineParts c_lengths c_fractions c_pulseMany c_times c_energies c_far c_near c_echoes c_left c_dropped c_merged c_drops c_contributions c_packet c_peelResult c_peelTime c_peelSum c_at c_commands c_draft c_hash) [(1, .int x1)] 69 [.int s1, .ref (a 1)] := by
  unfold Rf_part_69 at hf
  refine v_iload_n 0 C dX10_part_69 rfl rfl ?_
  refine v_iadd C dX10_part_70 hf (fun z70 hf => ?_)
  refine Ral_m C dX10_part_71 hf (fun z71 hf => ?_)
  refine v_l2i C dX10_part_72 hf (fun z72 hf => ?_)
  refine v_lv [] [] rfl ?_
  exact Rb_part_73 C hret hf
def Rf_part_30 (c_m : Nat → Int64) (c_code : Int32) (x1 : Int32) (x2 : Int32) (s1 : Int32) : Option (Int32 × Int32) :=
  if s1 = 0 then
    if x2 = (2 : Int32) then
      bd (Rf_upTo c_m x1) fun r49 =>
      Rf_part_73 s1 r49
    else
      if x2 = 0 then
        Rf_part_69 c_m s1 x1 (1 : Int32)
      else
        Rf_part_69 c_m s1 x1 (9 : Int32)
  else
    some (s1, (0 : Int32))
set_option maxRecDepth 100000 in
set_option maxHeartbeats 4000000 in
theorem Rb_part_30 (C : Cx X G T cX10_part RX10 (some .int) 3 2 46) {x1 : Int32} {x2 : Int32} {s1 : Int32} {o_code : Int32} {r : Int32} (hret : RetOK X 0 0 (some (.int r)) (wR a T c_m c_saved c_savedCount c_script c_scriptLength o_code c_lineParts c_lengths c_fractions c_pulseMany c_times c_energies c_far c_near c_echoes c_left c_dropped c_merged c_drops c_contributions c_packet c_peelResult c_peelTime c_peelSum c_at c_commands c_draft c_hash)) (hf : Rf_part_30 c_m c_code x1 x2 s1 = some (o_code, r)) : V X 0 0 (wR a T c_m c_saved c_savedCount c_script c_scriptLength c_code c_lineParts c_lengths c_fractions c_pulseMany c_times c_energies c_far c_near c_echoes c_left c_dropped c_merged c_drops c_contributions c_packet c_peelResult c_peelTime c_peelSum c_at c_commands c_draft c_hash) [(0, .ref (a 0)), (1, .int x1), (2, .int x2)] 30 [.int s1, .ref (a 0)] := by
  unfold Rf_part_30 at hf
  refine Rp_code C dX10_part_30 ?_
  refine v_aload_n 0 C dX10_part_33 rfl rfl ?_
  refine Rg_code C dX10_part_34 ?_
  refine v_if_eq 42 C dX10_part_37 (by decide) hf (fun c hf => ?_) (fun c hf => ?_)
  · refine v_iload_n 2 C dX10_part_42 rfl rfl ?_
    refine v_iconst (v := 2) C dX10_part_43 (by decide) ?_
    refine v_icmp_ne 55 C dX10_part_44 (by decide) hf (fun c hf => ?_) (fun c hf => ?_)
    · refine v_aload_n 0 C dX10_part_47 rfl rfl ?_
      refine v_iload_n 1 C dX10_part_48 rfl rfl ?_
      refine Rc_upTo C dX10_part_49 (by decide) (Nat.le_of_ble_eq_true rfl) hf (fun r49 hf => ?_)
      refine v_goto 73 C dX10_part_52 (by decide) ?_
      refine v_lv [] [] rfl ?_
      exact Rb_part_73 C hret hf
    · refine v_aload_n 0 C dX10_part_55 rfl rfl ?_
      refine Rg_m C dX10_part_56 ?_
      refine v_iload_n 2 C dX10_part_59 rfl rfl ?_
      refine v_if_ne 67 C dX10_part_60 (by decide) hf (fun c hf => ?_) (fun c hf => ?_)
      · refine v_iconst (v := 1) C dX10_part_63 (by decide) ?_
        refine v_goto 69 C dX10_part_64 (by decide) ?_
        refine v_lv [(1, .int x1)] [1] rfl ?_
        exact Rb_part_69 C hret hf
      · refine v_bipush (v := 9) C dX10_part_67 (by decide) ?_
        refine v_lv [(1, .int x1)] [1] rfl ?_
        exact Rb_part_69 C hret hf
  · refine v_iconst (v := 0) C dX10_part_40 (by decide) ?_
    cases hf
    exact v_iret C hret dX10_part_41
def Rf_part (c_m : Nat → Int64) (c_code : Int32) (x1 : Int32) (x2 : Int32) : Option (Int32 × Int32) :=
  bd (Rf_isPart c_m x1) fun r3 =>
  if r3 = 0 then
    Rf_part_30 c_m c_code x1 x2 (1 : Int32)
  else
    nm (x2.toInt64) fun z14 =>
    bd (Rf_in z14 (0 : Int64) (2 : Int64)) fun r19 =>
    if r19 = 0 then
      Rf_part_30 c_m c_code x1 x2 (2 : Int32)
    else
      Rf_part_30 c_m c_code x1 x2 (0 : Int32)
set_option maxRecDepth 100000 in
set_option maxHeartbeats 4000000 in
theorem Rb_part (C : Cx X G T cX10_part RX10 (some .int) 3 2 46) {x1 : Int32} {x2 : Int32} {o_code : Int32} {r : Int32} (hret : RetOK X 0 0 (some (.int r)) (wR a T c_m c_saved c_savedCount c_script c_scriptLength o_code c_lineParts c_lengths c_fractions c_pulseMany c_times c_energies c_far c_near c_echoes c_left c_dropped c_merged c_drops c_contributions c_packet c_peelResult c_peelTime c_peelSum c_at c_commands c_draft c_hash)) (hf : Rf_part c_m c_code x1 x2 = some (o_code, r)) : V X 0 0 (wR a T c_m c_saved c_savedCount c_script c_scriptLength c_code c_lineParts c_lengths c_fractions c_pulseMany c_times c_energies c_far c_near c_echoes c_left c_dropped c_merged c_drops c_contributions c_packet c_peelResult c_peelTime c_peelSum c_at c_commands c_draft c_hash) [(0, .ref (a 0)), (1, .int x1), (2, .int x2)] 0 [] := by
  unfold Rf_part at hf
  refine v_aload_n 0 C dX10_part_0 rfl rfl ?_
  refine v_aload_n 0 C dX10_part_1 rfl rfl ?_
  refine v_iload_n 1 C dX10_part_2 rfl rfl ?_
  refine Rc_isPart C dX10_part_3 (by decide) (Nat.le_of_ble_eq_true rfl) hf (fun r3 hf => ?_)
  refine v_if_ne 13 C dX10_part_6 (by decide) hf (fun c hf => ?_) (fun c hf => ?_)
  · refine v_iconst (v := 1) C dX10_part_9 (by decide) ?_
    refine v_goto 30 C dX10_part_10 (by decide) ?_
    exact Rb_part_30 C hret hf
  · refine v_iload_n 2 C dX10_part_13 rfl rfl ?_
    refine v_i2l C dX10_part_14 hf (fun z14 hf => ?_)
    refine v_lconst (v := 0) C dX10_part_15 (by decide) ?_
    refine v_ldc2 (v := 2) C wconstantLong_RX10_183_2 dX10_part_16 ?_
    refine Rc_in C dX10_part_19 (by decide) (Nat.le_of_ble_eq_true rfl) hf (fun r19 hf => ?_)
    refine v_if_eq 29 C dX10_part_22 (by decide) hf (fun c hf => ?_) (fun c hf => ?_)
    · refine v_iconst (v := 2) C dX10_part_29 (by decide) ?_
      exact Rb_part_30 C hret hf
    · refine v_iconst (v := 0) C dX10_part_25 (by decide) ?_
      refine v_goto 30 C dX10_part_26 (by decide) ?_
      exact Rb_part_30 C hret hf
set_option maxRecDepth 100000 in
set_option maxHeartbeats 4000000 in
theorem Rm_part {D : va_G} {x1 : Int32} {x2 : Int32} {o_code : Int32} {r : Int32} (hf : Rf_part c_m c_code x1 x2 = some (o_code, r)) : MetM G yX10_part cX10_part 3 (some .int) { frames := 2, cells := 0, slots := 0, locals := 46 } D T [.ref (a 0), .int x1, .int x2] (wR a T c_m c_saved c_savedCount c_script c_scriptLength c_code c_lineParts c_lengths c_fractions c_pulseMany c_times c_energies c_far c_near c_echoes c_left c_dropped c_merged c_drops c_contributions c_packet c_peelResult c_peelTime c_peelSum c_at c_commands c_draft c_hash) (some (.int r)) (wR a T c_m c_saved c_savedCount c_script c_scriptLength o_code c_lineParts c_lengths c_fractions c_pulseMany c_times c_energies c_far c_near c_echoes c_left c_dropped c_merged c_drops c_contributions c_packet c_peelResult c_peelTime c_peelSum c_at c_commands c_draft c_hash) :=
  MetM.of [(0, .ref (a 0)), (1, .int x1), (2, .int x2)] (by decide) (Nat.le_of_ble_eq_true rfl) rfl (fun X C hret => Rb_part C hret hf)
def Rf_benchOf (c_m : Nat → Int64) (x1 : Int32) : Option Int32 :=
  if x1 = 0 then
    bd (Rf_parts c_m) fun r37 =>
    some r37
  else
    if x1 = 1 then
      chk (inb (20 : Int32) 431) <| nm (c_m (20 : Int32).toNatClampNeg) fun z47 =>
      nm (z47.toInt32) fun z48 =>
      some z48
    else
      if x1 = 5 then
        bd (Rf_sumOfLengths c_m) fun r51 =>
        some r51
      else
        nm ((17 : Int32) + x1) fun z62 =>
        nm (z62 - (2 : Int32)) fun z64 =>
        chk (inb z64 431) <| nm (c_m z64.toNatClampNeg) fun z65 =>
        nm (z65.toInt32) fun z66 =>
        some z66
set_option maxRecDepth 100000 in
set_option maxHeartbeats 4000000 in
theorem Rb_benchOf (C : Cx X G T cX10_benchOf RX10 (some .int) 2 2 42) {x1 : Int32} {r : Int32} (hret : RetOK X 0 0 (some (.int r)) (wR a T c_m c_saved c_savedCount c_script c_scriptLength c_code c_lineParts c_lengths c_fractions c_pulseMany c_times c_energies c_far c_near c_echoes c_left c_dropped c_merged c_drops c_contributions c_packet c_peelResult c_peelTime c_peelSum c_at c_commands c_draft c_hash)) (hf : Rf_benchOf c_m x1 = some r) : V X 0 0 (wR a T c_m c_saved c_savedCount c_script c_scriptLength c_code c_lineParts c_lengths c_fractions c_pulseMany c_times c_energies c_far c_near c_echoes c_left c_dropped c_merged c_drops c_contributions c_packet c_peelResult c_peelTime c_peelSum c_at c_commands c_draft c_hash) [(0, .ref (a 0)), (1, .int x1)] 0 [] := by
  unfold Rf_benchOf at hf
  refine v_iload_n 1 C dX10_benchOf_0 rfl rfl ?_
  by_cases c0 : x1 = 0
  · replace hf := ite_t c0 hf
    refine v_lookup (off := 35) 36 C dX10_benchOf_1 (by decide) (by rw [c0]; try rfl) (by decide) ?_
    refine v_aload_n 0 C dX10_benchOf_36 rfl rfl ?_
    refine Rc_parts C dX10_benchOf_37 (by decide) (Nat.le_of_ble_eq_true rfl) hf (fun r37 hf => ?_)
    cases hf
    exact v_iret C hret dX10_benchOf_40
  · replace hf := ite_f c0 hf
    by_cases c1 : x1 = 1
    · replace hf := ite_t c1 hf
      refine v_lookup (off := 40) 41 C dX10_benchOf_1 (by decide) (by rw [c1]; try rfl) (by decide) ?_
      refine v_aload_n 0 C dX10_benchOf_41 rfl rfl ?_
      refine Rg_m C dX10_benchOf_42 ?_
      refine v_bipush (v := 20) C dX10_benchOf_45 (by decide) ?_
      refine Ral_m C dX10_benchOf_47 hf (fun z47 hf => ?_)
      refine v_l2i C dX10_benchOf_48 hf (fun z48 hf => ?_)
      cases hf
      exact v_iret C hret dX10_benchOf_49
    · replace hf := ite_f c1 hf
      by_cases c2 : x1 = 5
      · replace hf := ite_t c2 hf
        refine v_lookup (off := 49) 50 C dX10_benchOf_1 (by decide) (by rw [c2]; try rfl) (by decide) ?_
        refine v_aload_n 0 C dX10_benchOf_50 rfl rfl ?_
        refine Rc_sumOfLengths C dX10_benchOf_51 (by decide) (Nat.le_of_ble_eq_true rfl) hf (fun r51 hf => ?_)
        cases hf
        exact v_iret C hret dX10_benchOf_54
      · replace hf := ite_f c2 hf
        have e0 : x1.toInt ≠ 0 := fun q => c0 (Int32.toInt_inj.mp q)
        have e1 : x1.toInt ≠ 1 := fun q => c1 (Int32.toInt_inj.mp q)
        have e2 : x1.toInt ≠ 5 := fun q => c2 (Int32.toInt_inj.mp q)
        refine v_lookup (off := 54) 55 C dX10_benchOf_1 (by decide) (by simp [Op.lookupswitch.offset, e0, e0.symm, e1, e1.symm, e2, e2.symm]) (by decide) ?_
        refine v_aload_n 0 C dX10_benchOf_55 rfl rfl ?_
        refine Rg_m C dX10_benchOf_56 ?_
        refine v_bipush (v := 17) C dX10_benchOf_59 (by decide) ?_
        refine v_iload_n 1 C dX10_benchOf_61 rfl rfl ?_
        refine v_iadd C dX10_benchOf_62 hf (fun z62 hf => ?_)
        refine v_iconst (v := 2) C dX10_benchOf_63 (by decide) ?_
        refine v_isub C dX10_benchOf_64 hf (fun z64 hf => ?_)
        refine Ral_m C dX10_benchOf_65 hf (fun z65 hf => ?_)
        refine v_l2i C dX10_benchOf_66 hf (fun z66 hf => ?_)
        cases hf
        exact v_iret C hret dX10_benchOf_67
set_option maxRecDepth 100000 in
set_option maxHeartbeats 4000000 in
theorem Rm_benchOf {D : va_G} {x1 : Int32} {r : Int32} (hf : Rf_benchOf c_m x1 = some r) : MetM G yX10_benchOf cX10_benchOf 2 (some .int) { frames := 2, cells := 0, slots := 0, locals := 42 } D T [.ref (a 0), .int x1] (wR a T c_m c_saved c_savedCount c_script c_scriptLength c_code c_lineParts c_lengths c_fractions c_pulseMany c_times c_energies c_far c_near c_echoes c_left c_dropped c_merged c_drops c_contributions c_packet c_peelResult c_peelTime c_peelSum c_at c_commands c_draft c_hash) (some (.int r)) (wR a T c_m c_saved c_savedCount c_script c_scriptLength c_code c_lineParts c_lengths c_fractions c_pulseMany c_times c_energies c_far c_near c_echoes c_left c_dropped c_merged c_drops c_contributions c_packet c_peelResult c_peelTime c_peelSum c_at c_commands c_draft c_hash) :=
  MetM.of [(0, .ref (a 0)), (1, .int x1)] (by decide) (Nat.le_of_ble_eq_true rfl) rfl (fun X C hret => Rb_benchOf C hret hf)
set_option maxRecDepth 100000 in
theorem Rc_benchOf {x1 : Int32} {cc : ByteArray} {ret : Option FieldType} {nl fr lo pc : Nat} {lv : List (Nat × Value)} {rest : List Value} {β : Type} {K : Int32 → Option β} {oo : β} (C : Cx X G T cc RX10 ret nl fr lo) (hdg : decode cc pc = .ok (.invokevirtual 190, 3)) (hroom : 2 + 1 ≤ fr ∧ 8 + (2 + 11) + 42 ≤ lo) (hst : (rest.map fun v => v.category).sum ≤ 8) (hf : bd (Rf_benchOf c_m x1) K = some oo) (kk : ∀ (r : Int32), K r = some oo → V X 0 0 (wR a T c_m c_saved c_savedCount c_script c_scriptLength c_code c_lineParts c_lengths c_fractions c_pulseMany c_times c_energies c_far c_near c_echoes c_left c_dropped c_merged c_drops c_contributions c_packet c_peelResult c_peelTime c_peelSum c_at c_commands c_draft c_hash) lv (pc + 3) (.int r :: rest)) : V X 0 0 (wR a T c_m c_saved c_savedCount c_script c_scriptLength c_code c_lineParts c_lengths c_fractions c_pulseMany c_times c_energies c_far c_near c_echoes c_left c_dropped c_merged c_drops c_contributions c_packet c_peelResult c_peelTime c_peelSum c_at c_commands c_draft c_hash) lv pc (.int x1 :: .ref (a 0) :: rest) := by
  obtain ⟨r, hc, hk⟩ := bd_some hf
  exact v_callV (As := [.int x1]) (rest := rest) (q0 := 0) 1 C (CapOK.z X) (fun D => Rm_benchOf hc) (goodV wmethodLink_RX10_190_yX10_benchOf winstanceMethod_yX10_benchOf wselects_RX10_yX10_benchOf_yX10_benchOf winitialized_RX10 wcode_yX10_benchOf_cX10_benchOf_2_some_int) (by decide +kernel) hroom ⟨rfl, rfl⟩ rfl rfl rfl hst hdg (kk r hk)
def Rf_bench_37 (c_code : Int32) (s0 : Int32) : Option (Int32 × Int32) :=
  some (c_code, s0)
set_option maxRecDepth 100000 in
set_option maxHeartbeats 4000000 in
theorem Rb_bench_37 (C : Cx X G T cX10_bench RX10 (some .int) 2 3 63) {s0 : Int32} {o_code : Int32} {r : Int32} (hret : RetOK X 0 0 (some (.int r)) (wR a T c_m c_saved c_savedCount c_script c_scriptLength o_code c_lineParts c_lengths c_fractions c_pulseMany c_times c_energies c_far c_near c_echoes c_left c_dropped c_merged c_drops c_contributions c_packet c_peelResult c_peelTime c_peelSum c_at c_commands c_draft c_hash)) (hf : Rf_bench_37 c_code s0 = some (o_code, r)) : V X 0 0 (wR a T c_m c_saved c_savedCount c_script c_scriptLength c_code c_lineParts c_lengths c_fractions c_pulseMany c_times c_energies c_far c_near c_echoes c_left c_dropped c_merged c_drops c_contributions c_packet c_peelResult c_peelTime c_peelSum c_at c_commands c_draft c_hash) [] 37 [.int s0] := by
  unfold Rf_bench_37 at hf
  cases hf
  exact v_iret C hret dX10_bench_37
def Rf_bench_18 (c_m : Nat → Int64) (c_code : Int32) (x1 : Int32) (s1 : Int32) : Option (Int32 × Int32) :=
  if s1 = 0 then
    bd (Rf_benchOf c_m x1) fun r34 =>
    Rf_bench_37 s1 r34
  else
    Rf_bench_37 s1 (0 : Int32)
set_option maxRecDepth 100000 in
set_option maxHeartbeats 4000000 in
theorem Rb_bench_18 (C : Cx X G T cX10_bench RX10 (some .int) 2 3 63) {x1 : Int32} {s1 : Int32} {o_code : Int32} {r : Int32} (hret : RetOK X 0 0 (some (.int r)) (wR a T c_m c_saved c_savedCount c_script c_scriptLength o_code c_lineParts c_lengths c_fractions c_pulseMany c_times c_energies c_far c_near c_echoes c_left c_dropped c_merged c_drops c_contributions c_packet c_peelResult c_peelTime c_peelSum c_at c_commands c_draft c_hash)) (hf : Rf_bench_18 c_m c_code x1 s1 = some (o_code, r)) : V X 0 0 (wR a T c_m c_saved c_savedCount c_script c_scriptLength c_code c_lineParts c_lengths c_fractions c_pulseMany c_times c_energies c_far c_near c_echoes c_left c_dropped c_merged c_drops c_contributions c_packet c_peelResult c_peelTime c_peelSum c_at c_commands c_draft c_hash) [(0, .ref (a 0)), (1, .int x1)] 18 [.int s1, .ref (a 0)] := by
  unfold Rf_bench_18 at hf
  refine Rp_code C dX10_bench_18 ?_
  refine v_aload_n 0 C dX10_bench_21 rfl rfl ?_
  refine Rg_code C dX10_bench_22 ?_
  refine v_if_eq 32 C dX10_bench_25 (by decide) hf (fun c hf => ?_) (fun c hf => ?_)
  · refine v_aload_n 0 C dX10_bench_32 rfl rfl ?_
    refine v_iload_n 1 C dX10_bench_33 rfl rfl ?_
    refine Rc_benchOf C dX10_bench_34 (by decide) (Nat.le_of_ble_eq_true rfl) hf (fun r34 hf => ?_)
    refine v_lv [] [] rfl ?_
    exact Rb_bench_37 C hret hf
  · refine v_iconst (v := 0) C dX10_bench_28 (by decide) ?_
    refine v_goto 37 C dX10_bench_29 (by decide) ?_
    refine v_lv [] [] rfl ?_
    exact Rb_bench_37 C hret hf
def Rf_bench (c_m : Nat → Int64) (c_code : Int32) (x1 : Int32) : Option (Int32 × Int32) :=
  nm (x1.toInt64) fun z2 =>
  bd (Rf_in z2 (0 : Int64) (5 : Int64)) fun r7 =>
  if r7 = 0 then
    Rf_bench_18 c_m c_code x1 (1 : Int32)
  else
    Rf_bench_18 c_m c_code x1 (0 : Int32)
set_option maxRecDepth 100000 in
set_option maxHeartbeats 4000000 in
theorem Rb_bench (C : Cx X G T cX10_bench RX10 (some .int) 2 3 63) {x1 : Int32} {o_code : Int32} {r : Int32} (hret : RetOK X 0 0 (some (.int r)) (wR a T c_m c_saved c_savedCount c_script c_scriptLength o_code c_lineParts c_lengths c_fractions c_pulseMany c_times c_energies c_far c_near c_echoes c_left c_dropped c_merged c_drops c_contributions c_packet c_peelResult c_peelTime c_peelSum c_at c_commands c_draft c_hash)) (hf : Rf_bench c_m c_code x1 = some (o_code, r)) : V X 0 0 (wR a T c_m c_saved c_savedCount c_script c_scriptLength c_code c_lineParts c_lengths c_fractions c_pulseMany c_times c_energies c_far c_near c_echoes c_left c_dropped c_merged c_drops c_contributions c_packet c_peelResult c_peelTime c_peelSum c_at c_commands c_draft c_hash) [(0, .ref (a 0)), (1, .int x1)] 0 [] := by
  unfold Rf_bench at hf
  refine v_aload_n 0 C dX10_bench_0 rfl rfl ?_
  refine v_iload_n 1 C dX10_bench_1 rfl rfl ?_
  refine v_i2l C dX10_bench_2 hf (fun z2 hf => ?_)
  refine v_lconst (v := 0) C dX10_bench_3 (by decide) ?_
  refine v_ldc2 (v := 5) C wconstantLong_RX10_188_5 dX10_bench_4 ?_
  refine Rc_in C dX10_bench_7 (by decide) (Nat.le_of_ble_eq_true rfl) hf (fun r7 hf => ?_)
  refine v_if_eq 17 C dX10_bench_10 (by decide) hf (fun c hf => ?_) (fun c hf => ?_)
  · refine v_iconst (v := 1) C dX10_bench_17 (by decide) ?_
    exact Rb_bench_18 C hret hf
  · refine v_iconst (v := 0) C dX10_bench_13 (by decide) ?_
    refine v_goto 18 C dX10_bench_14 (by decide) ?_
    exact Rb_bench_18 C hret hf
set_option maxRecDepth 100000 in
set_option maxHeartbeats 4000000 in
theorem Rm_bench {D : va_G} {x1 : Int32} {o_code : Int32} {r : Int32} (hf : Rf_bench c_m c_code x1 = some (o_code, r)) : MetM G yX10_bench cX10_bench 2 (some .int) { frames := 3, cells := 0, slots := 0, locals := 63 } D T [.ref (a 0), .int x1] (wR a T c_m c_saved c_savedCount c_script c_scriptLength c_code c_lineParts c_lengths c_fractions c_pulseMany c_times c_energies c_far c_near c_echoes c_left c_dropped c_merged c_drops c_contributions c_packet c_peelResult c_peelTime c_peelSum c_at c_commands c_draft c_hash) (some (.int r)) (wR a T c_m c_saved c_savedCount c_script c_scriptLength o_code c_lineParts c_lengths c_fractions c_pulseMany c_times c_energies c_far c_near c_echoes c_left c_dropped c_merged c_drops c_contributions c_packet c_peelResult c_peelTime c_peelSum c_at c_commands c_draft c_hash) :=
  MetM.of [(0, .ref (a 0)), (1, .int x1)] (by decide) (Nat.le_of_ble_eq_true rfl) rfl (fun X C hret => Rb_bench C hret hf)
def Rf_echo_20 (c_m : Nat → Int64) (c_code : Int32) (c_lineParts : Int32) (c_lengths : Nat → Int32) (c_fractions : Nat → Int32) (c_pulseMany : Int32) (c_times : Nat → Int32) (c_energies : Nat → Int64) (c_far : Nat → Int64) (c_near : Nat → Int64) (c_echoes : Nat → Int64) (c_left : Int64) (c_dropped : Int64) (c_merged : Int32) (c_drops : Int32) (c_contributions : Int32) (c_packet : Int64) (x1 : Int32) (s1 : Int32) : Option (Int32 × Int32 × (Nat → Int32) × (Nat → Int32) × Int32 × (Nat → Int32) × (Nat → Int64) × (Nat → Int64) × (Nat → Int64) × (Nat → Int64) × Int64 × Int64 × Int32 × Int32 × Int32 × Int64 × Int64) :=
  if s1 = 0 then
    bd (Rf_runPresent c_m c_lineParts c_lengths c_fractions c_pulseMany c_times c_energies c_far c_near c_echoes c_left c_dropped c_merged c_drops c_contributions c_packet) fun (lineParts_33, lengths_33, fractions_33, pulseMany_33, times_33, energies_33, far_33, near_33, echoes_33, left_33, dropped_33, merged_33, drops_33, contributions_33, packet_33) =>
    chk (inb x1 201) <| nm (echoes_33 x1.toNatClampNeg) fun z41 =>
    some (s1, lineParts_33, lengths_33, fractions_33, pulseMany_33, times_33, energies_33, far_33, near_33, echoes_33, left_33, dropped_33, merged_33, drops_33, contributions_33, packet_33, z41)
  else
    some (s1, c_lineParts, c_lengths, c_fractions, c_pulseMany, c_times, c_energies, c_far, c_near, c_echoes, c_left, c_dropped, c_merged, c_drops, c_contributions, c_packet, (0 : Int64))
set_option maxRecDepth 100000 in
set_option maxHeartbeats 4000000 in
theorem Rb_echo_20 (C : Cx X G T cX10_echo RX10 (some .long) 2 5 117) {x1 : Int32} {s1 : Int32} {o_code : Int32} {o_lineParts : Int32} {o_lengths : Nat → Int32} {o_fractions : Nat → Int32} {o_pulseMany : Int32} {o_times : Nat → Int32} {o_energies : Nat → Int64} {o_far : Nat → Int64} {o_near : Nat → Int64} {o_echoes : Nat → Int64} {o_left : Int64} {o_dropped : Int64} {o_merged : Int32} {o_drops : Int32} {o_contributions : Int32} {o_packet : Int64} {r : Int64} (hret : RetOK X 0 0 (some (.long r)) (wR a T c_m c_saved c_savedCount c_script c_scriptLength o_code o_lineParts o_lengths o_fractions o_pulseMany o_times o_energies o_far o_near o_echoes o_left o_dropped o_merged o_drops o_contributions o_packet c_peelResult c_peelTime c_peelSum c_at c_commands c_draft c_hash)) (hf : Rf_echo_20 c_m c_code c_lineParts c_lengths c_fractions c_pulseMany c_times c_energies c_far c_near c_echoes c_left c_dropped c_merged c_drops c_contributions c_packet x1 s1 = some (o_code, o_lineParts, o_lengths, o_fractions, o_pulseMany, o_times, o_energies, o_far, o_near, o_echoes, o_left, o_dropped, o_merged, o_drops, o_contributions, o_packet, r)) : V X 0 0 (wR a T c_m c_saved c_savedCount c_script c_scriptLength c_code c_lineParts c_lengths c_fractions c_pulseMany c_times c_energies c_far c_near c_echoes c_left c_dropped c_merged c_drops c_contributions c_packet c_peelResult c_peelTime c_peelSum c_at c_commands c_draft c_hash) [(0, .ref (a 0)), (1, .int x1)] 20 [.int s1, .ref (a 0)] := by
  unfold Rf_echo_20 at hf
  refine Rp_code C dX10_echo_20 ?_
  refine v_aload_n 0 C dX10_echo_23 rfl rfl ?_
  refine Rg_code C dX10_echo_24 ?_
  refine v_if_eq 32 C dX10_echo_27 (by decide) hf (fun c hf => ?_) (fun c hf => ?_)
  · refine v_aload_n 0 C dX10_echo_32 rfl rfl ?_
    refine Rc_runPresent C dX10_echo_33 (by decide) (Nat.le_of_ble_eq_true rfl) hf (fun lineParts_33 lengths_33 fractions_33 pulseMany_33 times_33 energies_33 far_33 near_33 echoes_33 left_33 dropped_33 merged_33 drops_33 contributions_33 packet_33 hf => ?_)
    refine v_aload_n 0 C dX10_echo_36 rfl rfl ?_
    refine Rg_echoes C dX10_echo_37 ?_
    refine v_iload_n 1 C dX10_echo_40 rfl rfl ?_
    refine Ral_echoes C dX10_echo_41 hf (fun z41 hf => ?_)
    cases hf
    exact v_lret C hret dX10_echo_42
  · refine v_lconst (v := 0) C dX10_echo_30 (by decide) ?_
    cases hf
    exact v_lret C hret dX10_echo_31
def Rf_echo (c_m : Nat → Int64) (c_code : Int32) (c_lineParts : Int32) (c_lengths : Nat → Int32) (c_fractions : Nat → Int32) (c_pulseMany : Int32) (c_times : Nat → Int32) (c_energies : Nat → Int64) (c_far : Nat → Int64) (c_near : Nat → Int64) (c_echoes : Nat → Int64) (c_left : Int64) (c_dropped : Int64) (c_merged : Int32) (c_drops : Int32) (c_contributions : Int32) (c_packet : Int64) (x1 : Int32) : Option (Int32 × Int32 × (Nat → Int32) × (Nat → Int32) × Int32 × (Nat → Int32) × (Nat → Int64) × (Nat → Int64) × (Nat → Int64) × (Nat → Int64) × Int64 × Int64 × Int32 × Int32 × Int32 × Int64 × Int64) :=
  nm (x1.toInt64) fun z2 =>
  bd (Rf_window c_m) fun r5 =>
  nm (r5.toInt64) fun z8 =>
  bd (Rf_in z2 (0 : Int64) z8) fun r9 =>
  if r9 = 0 then
    Rf_echo_20 c_m c_code c_lineParts c_lengths c_fractions c_pulseMany c_times c_energies c_far c_near c_echoes c_left c_dropped c_merged c_drops c_contributions c_packet x1 (1 : Int32)
  else
    Rf_echo_20 c_m c_code c_lineParts c_lengths c_fractions c_pulseMany c_times c_energies c_far c_near c_echoes c_left c_dropped c_merged c_drops c_contributions c_packet x1 (0 : Int32)
set_option maxRecDepth 100000 in
set_option maxHeartbeats 4000000 in
theorem Rb_echo (C : Cx X G T cX10_echo RX10 (some .long) 2 5 117) {x1 : Int32} {o_code : Int32} {o_lineParts : Int32} {o_lengths : Nat → Int32} {o_fractions : Nat → Int32} {o_pulseMany : Int32} {o_times : Nat → Int32} {o_energies : Nat → Int64} {o_far : Nat → Int64} {o_near : Nat → Int64} {o_echoes : Nat → Int64} {o_left : Int64} {o_dropped : Int64} {o_merged : Int32} {o_drops : Int32} {o_contributions : Int32} {o_packet : Int64} {r : Int64} (hret : RetOK X 0 0 (some (.long r)) (wR a T c_m c_saved c_savedCount c_script c_scriptLength o_code o_lineParts o_lengths o_fractions o_pulseMany o_times o_energies o_far o_near o_echoes o_left o_dropped o_merged o_drops o_contributions o_packet c_peelResult c_peelTime c_peelSum c_at c_commands c_draft c_hash)) (hf : Rf_echo c_m c_code c_lineParts c_lengths c_fractions c_pulseMany c_times c_energies c_far c_near c_echoes c_left c_dropped c_merged c_drops c_contributions c_packet x1 = some (o_code, o_lineParts, o_lengths, o_fractions, o_pulseMany, o_times, o_energies, o_far, o_near, o_echoes, o_left, o_dropped, o_merged, o_drops, o_contributions, o_packet, r)) : V X 0 0 (wR a T c_m c_saved c_savedCount c_script c_scriptLength c_code c_lineParts c_lengths c_fractions c_pulseMany c_times c_energies c_far c_near c_echoes c_left c_dropped c_merged c_drops c_contributions c_packet c_peelResult c_peelTime c_peelSum c_at c_commands c_draft c_hash) [(0, .ref (a 0)), (1, .int x1)] 0 [] := by
  unfold Rf_echo at hf
  refine v_aload_n 0 C dX10_echo_0 rfl rfl ?_
  refine v_iload_n 1 C dX10_echo_1 rfl rfl ?_
  refine v_i2l C dX10_echo_2 hf (fun z2 hf => ?_)
  refine v_lconst (v := 0) C dX10_echo_3 (by decide) ?_
  refine v_aload_n 0 C dX10_echo_4 rfl rfl ?_
  refine Rc_window C dX10_echo_5 (by decide) (Nat.le_of_ble_eq_true rfl) hf (fun r5 hf => ?_)
  refine v_i2l C dX10_echo_8 hf (fun z8 hf => ?_)
  refine Rc_in C dX10_echo_9 (by decide) (Nat.le_of_ble_eq_true rfl) hf (fun r9 hf => ?_)
  refine v_if_eq 19 C dX10_echo_12 (by decide) hf (fun c hf => ?_) (fun c hf => ?_)
  · refine v_iconst (v := 1) C dX10_echo_19 (by decide) ?_
    exact Rb_echo_20 C hret hf
  · refine v_iconst (v := 0) C dX10_echo_15 (by decide) ?_
    refine v_goto 20 C dX10_echo_16 (by decide) ?_
    exact Rb_echo_20 C hret hf
set_option maxRecDepth 100000 in
set_option maxHeartbeats 4000000 in
theorem Rm_echo {D : va_G} {x1 : Int32} {o_code : Int32} {o_lineParts : Int32} {o_lengths : Nat → Int32} {o_fractions : Nat → Int32} {o_pulseMany : Int32} {o_times : Nat → Int32} {o_energies : Nat → Int64} {o_far : Nat → Int64} {o_near : Nat → Int64} {o_echoes : Nat → Int64} {o_left : Int64} {o_dropped : Int64} {o_merged : Int32} {o_drops : Int32} {o_contributions : Int32} {o_packet : Int64} {r : Int64} (hf : Rf_echo c_m c_code c_lineParts c_lengths c_fractions c_pulseMany c_times c_energies c_far c_near c_echoes c_left c_dropped c_merged c_drops c_contributions c_packet x1 = some (o_code, o_lineParts, o_lengths, o_fractions, o_pulseMany, o_times, o_energies, o_far, o_near, o_echoes, o_left, o_dropped, o_merged, o_drops, o_contributions, o_packet, r)) : MetM G yX10_echo cX10_echo 2 (some .long) { frames := 5, cells := 0, slots := 0, locals := 117 } D T [.ref (a 0), .int x1] (wR a T c_m c_saved c_savedCount c_script c_scriptLength c_code c_lineParts c_lengths c_fractions c_pulseMany c_times c_energies c_far c_near c_echoes c_left c_dropped c_merged c_drops c_contributions c_packet c_peelResult c_peelTime c_peelSum c_at c_commands c_draft c_hash) (some (.long r)) (wR a T c_m c_saved c_savedCount c_script c_scriptLength o_code o_lineParts o_lengths o_fractions o_pulseMany o_times o_energies o_far o_near o_echoes o_left o_dropped o_merged o_drops o_contributions o_packet c_peelResult c_peelTime c_peelSum c_at c_commands c_draft c_hash) :=
  MetM.of [(0, .ref (a 0)), (1, .int x1)] (by decide) (Nat.le_of_ble_eq_true rfl) rfl (fun X C hret => Rb_echo C hret hf)
def Rf_echoTime_57 (rec : Int32 → Int32 → Option (Int32 ⊕ Unit)) (x2 : Int32) (x3 : Int32) : Option (Int32 ⊕ Unit) :=
  nm (x3 + (1 : Int32)) fun x3_57 =>
  rec x2 x3_57
set_option maxRecDepth 100000 in
set_option maxHeartbeats 4000000 in
theorem Rb_echoTime_57 (C : Cx X G T cX10_echoTime RX10 (some .int) 4 5 117) {rec : Int32 → Int32 → Option (Int32 ⊕ Unit)} {x2 : Int32} {x3 : Int32} {o : (Int32 ⊕ Unit)} (hrec : ∀ (x2 : Int32) (x3 : Int32), rec x2 x3 = some o → V X 0 0 (wR a T c_m c_saved c_savedCount c_script c_scriptLength c_code c_lineParts c_lengths c_fractions c_pulseMany c_times c_energies c_far c_near c_echoes c_left c_dropped c_merged c_drops c_contributions c_packet c_peelResult c_peelTime c_peelSum c_at c_commands c_draft c_hash) [(0, .ref (a 0)), (2, .int x2), (3, .int x3)] 30 []) (hk0 : ∀ (y3 : Int32), o = .inl y3 → V X 0 0 (wR a T c_m c_saved c_savedCount c_script c_scriptLength c_code c_lineParts c_lengths c_fractions c_pulseMany c_times c_energies c_far c_near c_echoes c_left c_dropped c_merged c_drops c_contributions c_packet c_peelResult c_peelTime c_peelSum c_at c_commands c_draft c_hash) [(3, .int y3)] 52 []) (hk1 :  o = .inr () → V X 0 0 (wR a T c_m c_saved c_savedCount c_script c_scriptLength c_code c_lineParts c_lengths c_fractions c_pulseMany c_times c_energies c_far c_near c_echoes c_left c_dropped c_merged c_drops c_contributions c_packet c_peelResult c_peelTime c_peelSum c_at c_commands c_draft c_hash) [] 63 []) (hf : Rf_echoTime_57 rec x2 x3 = some o) : V X 0 0 (wR a T c_m c_saved c_savedCount c_script c_scriptLength c_code c_lineParts c_lengths c_fractions c_pulseMany c_times c_energies c_far c_near c_echoes c_left c_dropped c_merged c_drops c_contributions c_packet c_peelResult c_peelTime c_peelSum c_at c_commands c_draft c_hash) [(0, .ref (a 0)), (2, .int x2), (3, .int x3)] 57 [] := by
  unfold Rf_echoTime_57 at hf
  refine v_iinc (fun x3_57 => [(0, .ref (a 0)), (2, .int x2), (3, .int x3_57)]) [1, 2, 0] C dX10_echoTime_57 (j := 2) rfl (dv := 1) (by decide) (by decide) (fun _ => rfl) hf (fun x3_57 hf => ?_)
  refine v_goto 30 C dX10_echoTime_60 (by decide) ?_
  exact hrec _ _ hf
def Rl_echoTime_30 (c_echoes : Nat → Int64) : Nat → Int32 → Int32 → Option (Int32 ⊕ Unit)
  | 0, _, _ => none
  | n + 1, x2, x3 =>
    if (201 : Int32) ≤ x3 then
      some (.inr ())
    else
      chk (inb x3 201) <| nm (c_echoes x3.toNatClampNeg) fun z42 =>
      if z42 ≤ (0 : Int64) then
        Rf_echoTime_57 (Rl_echoTime_30 c_echoes n) x2 x3
      else
        if x2 = 0 then
          some (.inl x3)
        else
          nm (x2 + (-1 : Int32)) fun x2_54 =>
          Rf_echoTime_57 (Rl_echoTime_30 c_echoes n) x2_54 x3
set_option maxRecDepth 100000 in
set_option maxHeartbeats 4000000 in
theorem Rk_echoTime_30 (C : Cx X G T cX10_echoTime RX10 (some .int) 4 5 117)  {o : (Int32 ⊕ Unit)} (hk0 : ∀ (y3 : Int32), o = .inl y3 → V X 0 0 (wR a T c_m c_saved c_savedCount c_script c_scriptLength c_code c_lineParts c_lengths c_fractions c_pulseMany c_times c_energies c_far c_near c_echoes c_left c_dropped c_merged c_drops c_contributions c_packet c_peelResult c_peelTime c_peelSum c_at c_commands c_draft c_hash) [(3, .int y3)] 52 []) (hk1 :  o = .inr () → V X 0 0 (wR a T c_m c_saved c_savedCount c_script c_scriptLength c_code c_lineParts c_lengths c_fractions c_pulseMany c_times c_energies c_far c_near c_echoes c_left c_dropped c_merged c_drops c_contributions c_packet c_peelResult c_peelTime c_peelSum c_at c_commands c_draft c_hash) [] 63 []) : ∀ (n : Nat) (x2 : Int32) (x3 : Int32), Rl_echoTime_30 c_echoes n x2 x3 = some o → V X 0 0 (wR a T c_m c_saved c_savedCount c_script c_scriptLength c_code c_lineParts c_lengths c_fractions c_pulseMany c_times c_energies c_far c_near c_echoes c_left c_dropped c_merged c_drops c_contributions c_packet c_peelResult c_peelTime c_peelSum c_at c_commands c_draft c_hash) [(0, .ref (a 0)), (2, .int x2), (3, .int x3)] 30 [] := by
  intro n
  induction n with
  | zero =>
    intro _ _ hf
    cases hf
  | succ n hrec =>
    intro x2 x3 hf
    rw [Rl_echoTime_30] at hf
    refine v_iload_n 2 C dX10_echoTime_30 rfl rfl ?_
    refine v_sipush (v := 201) C dX10_echoTime_31 (by decide) ?_
    refine v_icmp_ge 63 C dX10_echoTime_34 (by decide) hf (fun c hf => ?_) (fun c hf => ?_)
    · refine v_lv [] [] rfl ?_
      cases hf
      exact hk1  rfl
    · refine v_aload_n 0 C dX10_echoTime_37 rfl rfl ?_
      refine Rg_echoes C dX10_echoTime_38 ?_
      refine v_iload_n 2 C dX10_echoTime_41 rfl rfl ?_
      refine Ral_echoes C dX10_echoTime_42 hf (fun z42 hf => ?_)
      refine v_lconst (v := 0) C dX10_echoTime_43 (by decide) ?_
      refine v_lcmp_le 57 C dX10_echoTime_44 dX10_echoTime_45 (by decide) hf (fun c hf => ?_) (fun c hf => ?_)
      · exact Rb_echoTime_57 C hrec hk0 hk1 hf
      · refine v_iload_n 1 C dX10_echoTime_48 rfl rfl ?_
        refine v_if_ne 54 C dX10_echoTime_49 (by decide) hf (fun c hf => ?_) (fun c hf => ?_)
        · refine v_lv [(3, .int x3)] [2] rfl ?_
          cases hf
          exact hk0 _ rfl
        · refine v_iinc (fun x2_54 => [(0, .ref (a 0)), (2, .int x2_54), (3, .int x3)]) [1, 0, 2] C dX10_echoTime_54 (j := 1) rfl (dv := -1) (by decide) (by decide) (fun _ => rfl) hf (fun x2_54 hf => ?_)
          exact Rb_echoTime_57 C hrec hk0 hk1 hf
def Rf_echoTime_10 (c_m : Nat → Int64) (c_code : Int32) (c_lineParts : Int32) (c_lengths : Nat → Int32) (c_fractions : Nat → Int32) (c_pulseMany : Int32) (c_times : Nat → Int32) (c_energies : Nat → Int64) (c_far : Nat → Int64) (c_near : Nat → Int64) (c_echoes : Nat → Int64) (c_left : Int64) (c_dropped : Int64) (c_merged : Int32) (c_drops : Int32) (c_contributions : Int32) (c_packet : Int64) (x1 : Int32) (s1 : Int32) : Option (Int32 × Int32 × (Nat → Int32) × (Nat → Int32) × Int32 × (Nat → Int32) × (Nat → Int64) × (Nat → Int64) × (Nat → Int64) × (Nat → Int64) × Int64 × Int64 × Int32 × Int32 × Int32 × Int64 × Int32) :=
  if s1 = 0 then
    bd (Rf_runPresent c_m c_lineParts c_lengths c_fractions c_pulseMany c_times c_energies c_far c_near c_echoes c_left c_dropped c_merged c_drops c_contributions c_packet) fun (lineParts_23, lengths_23, fractions_23, pulseMany_23, times_23, energies_23, far_23, near_23, echoes_23, left_23, dropped_23, merged_23, drops_23, contributions_23, packet_23) =>
    bd (Rl_echoTime_30 echoes_23 FUEL x1 (0 : Int32)) fun o => match o with
    | .inl y3_30 =>
      some (s1, lineParts_23, lengths_23, fractions_23, pulseMany_23, times_23, energies_23, far_23, near_23, echoes_23, left_23, dropped_23, merged_23, drops_23, contributions_23, packet_23, y3_30)
    | .inr _ =>
      some (s1, lineParts_23, lengths_23, fractions_23, pulseMany_23, times_23, energies_23, far_23, near_23, echoes_23, left_23, dropped_23, merged_23, drops_23, contributions_23, packet_23, (-1 : Int32))
  else
    some (s1, c_lineParts, c_lengths, c_fractions, c_pulseMany, c_times, c_energies, c_far, c_near, c_echoes, c_left, c_dropped, c_merged, c_drops, c_contributions, c_packet, (0 : Int32))
set_option maxRecDepth 100000 in
set_option maxHeartbeats 4000000 in
theorem Rb_echoTime_10 (C : Cx X G T cX10_echoTime RX10 (some .int) 4 5 117) {x1 : Int32} {s1 : Int32} {o_code : Int32} {o_lineParts : Int32} {o_lengths : Nat → Int32} {o_fractions : Nat → Int32} {o_pulseMany : Int32} {o_times : Nat → Int32} {o_energies : Nat → Int64} {o_far : Nat → Int64} {o_near : Nat → Int64} {o_echoes : Nat → Int64} {o_left : Int64} {o_dropped : Int64} {o_merged : Int32} {o_drops : Int32} {o_contributions : Int32} {o_packet : Int64} {r : Int32} (hret : RetOK X 0 0 (some (.int r)) (wR a T c_m c_saved c_savedCount c_script c_scriptLength o_code o_lineParts o_lengths o_fractions o_pulseMany o_times o_energies o_far o_near o_echoes o_left o_dropped o_merged o_drops o_contributions o_packet c_peelResult c_peelTime c_peelSum c_at c_commands c_draft c_hash)) (hf : Rf_echoTime_10 c_m c_code c_lineParts c_lengths c_fractions c_pulseMany c_times c_energies c_far c_near c_echoes c_left c_dropped c_merged c_drops c_contributions c_packet x1 s1 = some (o_code, o_lineParts, o_lengths, o_fractions, o_pulseMany, o_times, o_energies, o_far, o_near, o_echoes, o_left, o_dropped, o_merged, o_drops, o_contributions, o_packet, r)) : V X 0 0 (wR a T c_m c_saved c_savedCount c_script c_scriptLength c_code c_lineParts c_lengths c_fractions c_pulseMany c_times c_energies c_far c_near c_echoes c_left c_dropped c_merged c_drops c_contributions c_packet c_peelResult c_peelTime c_peelSum c_at c_commands c_draft c_hash) [(0, .ref (a 0)), (1, .int x1)] 10 [.int s1, .ref (a 0)] := by
  unfold Rf_echoTime_10 at hf
  refine Rp_code C dX10_echoTime_10 ?_
  refine v_aload_n 0 C dX10_echoTime_13 rfl rfl ?_
  refine Rg_code C dX10_echoTime_14 ?_
  refine v_if_eq 22 C dX10_echoTime_17 (by decide) hf (fun c hf => ?_) (fun c hf => ?_)
  · refine v_aload_n 0 C dX10_echoTime_22 rfl rfl ?_
    refine Rc_runPresent C dX10_echoTime_23 (by decide) (Nat.le_of_ble_eq_true rfl) hf (fun lineParts_23 lengths_23 fractions_23 pulseMany_23 times_23 energies_23 far_23 near_23 echoes_23 left_23 dropped_23 merged_23 drops_23 contributions_23 packet_23 hf => ?_)
    refine v_iload_n 1 C dX10_echoTime_26 rfl rfl ?_
    refine v_istore_n [(0, .ref (a 0)), (2, .int x1)] [1, 0] C dX10_echoTime_27 rfl (by decide) rfl ?_
    refine v_iconst (v := 0) C dX10_echoTime_28 (by decide) ?_
    refine v_istore_n [(0, .ref (a 0)), (2, .int x1), (3, .int (0 : Int32))] [1, 2, 0] C dX10_echoTime_29 rfl (by decide) rfl ?_
    obtain ⟨o, hc, hf⟩ := bd_some hf
    refine Rk_echoTime_30 C (fun y3_30 e => ?_) (fun e => ?_) _ _ _ hc
    · subst e
      refine v_iload_n 0 C dX10_echoTime_52 rfl rfl ?_
      cases hf
      exact v_iret C hret dX10_echoTime_53
    · subst e
      refine v_iconst (v := -1) C dX10_echoTime_63 (by decide) ?_
      cases hf
      exact v_iret C hret dX10_echoTime_64
  · refine v_iconst (v := 0) C dX10_echoTime_20 (by decide) ?_
    cases hf
    exact v_iret C hret dX10_echoTime_21
def Rf_echoTime (c_m : Nat → Int64) (c_code : Int32) (c_lineParts : Int32) (c_lengths : Nat → Int32) (c_fractions : Nat → Int32) (c_pulseMany : Int32) (c_times : Nat → Int32) (c_energies : Nat → Int64) (c_far : Nat → Int64) (c_near : Nat → Int64) (c_echoes : Nat → Int64) (c_left : Int64) (c_dropped : Int64) (c_merged : Int32) (c_drops : Int32) (c_contributions : Int32) (c_packet : Int64) (x1 : Int32) : Option (Int32 × Int32 × (Nat → Int32) × (Nat → Int32) × Int32 × (Nat → Int32) × (Nat → Int64) × (Nat → Int64) × (Nat → Int64) × (Nat → Int64) × Int64 × Int64 × Int32 × Int32 × Int32 × Int64 × Int32) :=
  if 0 ≤ x1 then
    Rf_echoTime_10 c_m c_code c_lineParts c_lengths c_fractions c_pulseMany c_times c_energies c_far c_near c_echoes c_left c_dropped c_merged c_drops c_contributions c_packet x1 (0 : Int32)
  else
    Rf_echoTime_10 c_m c_code c_lineParts c_lengths c_fractions c_pulseMany c_times c_energies c_far c_near c_echoes c_left c_dropped c_merged c_drops c_contributions c_packet x1 (1 : Int32)
set_option maxRecDepth 100000 in
set_option maxHeartbeats 4000000 in
theorem Rb_echoTime (C : Cx X G T cX10_echoTime RX10 (some .int) 4 5 117) {x1 : Int32} {o_code : Int32} {o_lineParts : Int32} {o_lengths : Nat → Int32} {o_fractions : Nat → Int32} {o_pulseMany : Int32} {o_times : Nat → Int32} {o_energies : Nat → Int64} {o_far : Nat → Int64} {o_near : Nat → Int64} {o_echoes : Nat → Int64} {o_left : Int64} {o_dropped : Int64} {o_merged : Int32} {o_drops : Int32} {o_contributions : Int32} {o_packet : Int64} {r : Int32} (hret : RetOK X 0 0 (some (.int r)) (wR a T c_m c_saved c_savedCount c_script c_scriptLength o_code o_lineParts o_lengths o_fractions o_pulseMany o_times o_energies o_far o_near o_echoes o_left o_dropped o_merged o_drops o_contributions o_packet c_peelResult c_peelTime c_peelSum c_at c_commands c_draft c_hash)) (hf : Rf_echoTime c_m c_code c_lineParts c_lengths c_fractions c_pulseMany c_times c_energies c_far c_near c_echoes c_left c_dropped c_merged c_drops c_contributions c_packet x1 = some (o_code, o_lineParts, o_lengths, o_fractions, o_pulseMany, o_times, o_energies, o_far, o_near, o_echoes, o_left, o_dropped, o_merged, o_drops, o_contributions, o_packet, r)) : V X 0 0 (wR a T c_m c_saved c_savedCount c_script c_scriptLength c_code c_lineParts c_lengths c_fractions c_pulseMany c_times c_energies c_far c_near c_echoes c_left c_dropped c_merged c_drops c_contributions c_packet c_peelResult c_peelTime c_peelSum c_at c_commands c_draft c_hash) [(0, .ref (a 0)), (1, .int x1)] 0 [] := by
  unfold Rf_echoTime at hf
  refine v_aload_n 0 C dX10_echoTime_0 rfl rfl ?_
  refine v_iload_n 1 C dX10_echoTime_1 rfl rfl ?_
  refine v_if_ge 9 C dX10_echoTime_2 (by decide) hf (fun c hf => ?_) (fun c hf => ?_)
  · refine v_iconst (v := 0) C dX10_echoTime_9 (by decide) ?_
    exact Rb_echoTime_10 C hret hf
  · refine v_iconst (v := 1) C dX10_echoTime_5 (by decide) ?_
    refine v_goto 10 C dX10_echoTime_6 (by decide) ?_
    exact Rb_echoTime_10 C hret hf
set_option maxRecDepth 100000 in
set_option maxHeartbeats 4000000 in
theorem Rm_echoTime {D : va_G} {x1 : Int32} {o_code : Int32} {o_lineParts : Int32} {o_lengths : Nat → Int32} {o_fractions : Nat → Int32} {o_pulseMany : Int32} {o_times : Nat → Int32} {o_energies : Nat → Int64} {o_far : Nat → Int64} {o_near : Nat → Int64} {o_echoes : Nat → Int64} {o_left : Int64} {o_dropped : Int64} {o_merged : Int32} {o_drops : Int32} {o_contributions : Int32} {o_packet : Int64} {r : Int32} (hf : Rf_echoTime c_m c_code c_lineParts c_lengths c_fractions c_pulseMany c_times c_energies c_far c_near c_echoes c_left c_dropped c_merged c_drops c_contributions c_packet x1 = some (o_code, o_lineParts, o_lengths, o_fractions, o_pulseMany, o_times, o_energies, o_far, o_near, o_echoes, o_left, o_dropped, o_merged, o_drops, o_contributions, o_packet, r)) : MetM G yX10_echoTime cX10_echoTime 4 (some .int) { frames := 5, cells := 0, slots := 0, locals := 117 } D T [.ref (a 0), .int x1] (wR a T c_m c_saved c_savedCount c_script c_scriptLength c_code c_lineParts c_lengths c_fractions c_pulseMany c_times c_energies c_far c_near c_echoes c_left c_dropped c_merged c_drops c_contributions c_packet c_peelResult c_peelTime c_peelSum c_at c_commands c_draft c_hash) (some (.int r)) (wR a T c_m c_saved c_savedCount c_script c_scriptLength o_code o_lineParts o_lengths o_fractions o_pulseMany o_times o_energies o_far o_near o_echoes o_left o_dropped o_merged o_drops o_contributions o_packet c_peelResult c_peelTime c_peelSum c_at c_commands c_draft c_hash) :=
  MetM.of [(0, .ref (a 0)), (1, .int x1)] (by decide) (Nat.le_of_ble_eq_true rfl) rfl (fun X C hret => Rb_echoTime C hret hf)
def Rf_totalOf_126 (rec : Int64 → Int32 → Option Int64) (x1 : Int32) (x2 : Int64) (x4 : Int64) (x6 : Int32) (x9 : Int32) (s0 : Int64) (s1 : Int64) : Option Int64 :=
  nm (s0 + s1) fun z126 =>
  nm (x9 + (1 : Int32)) fun x9_129 =>
  rec z126 x9_129
set_option maxRecDepth 100000 in
set_option maxHeartbeats 4000000 in
theorem Rb_totalOf_126 (C : Cx X G T cX10_totalOf RX10 (some .long) 10 2 45) {rec : Int64 → Int32 → Option Int64} {x1 : Int32} {x2 : Int64} {x4 : Int64} {x6 : Int32} {x9 : Int32} {s0 : Int64} {s1 : Int64} {y7 : Int64} (hrec : ∀ (x7 : Int64) (x9 : Int32), rec x7 x9 = some y7 → V X 0 0 (wR a T c_m c_saved c_savedCount c_script c_scriptLength c_code c_lineParts c_lengths c_fractions c_pulseMany c_times c_energies c_far c_near c_echoes c_left c_dropped c_merged c_drops c_contributions c_packet c_peelResult c_peelTime c_peelSum c_at c_commands c_draft c_hash) [(0, .ref (a 0)), (1, .int x1), (2, .long x2), (4, .long x4), (6, .int x6), (7, .long x7), (9, .int x9)] 90 []) (hk : V X 0 0 (wR a T c_m c_saved c_savedCount c_script c_scriptLength c_code c_lineParts c_lengths c_fractions c_pulseMany c_times c_energies c_far c_near c_echoes c_left c_dropped c_merged c_drops c_contributions c_packet c_peelResult c_peelTime c_peelSum c_at c_commands c_draft c_hash) [(0, .ref (a 0)), (1, .int x1), (2, .long x2), (4, .long x4), (6, .int x6), (7, .long y7)] 135 []) (hf : Rf_totalOf_126 rec x1 x2 x4 x6 x9 s0 s1 = some y7) : V X 0 0 (wR a T c_m c_saved c_savedCount c_script c_scriptLength c_code c_lineParts c_lengths c_fractions c_pulseMany c_times c_energies c_far c_near c_echoes c_left c_dropped c_merged c_drops c_contributions c_packet c_peelResult c_peelTime c_peelSum c_at c_commands c_draft c_hash) [(0, .ref (a 0)), (1, .int x1), (2, .long x2), (4, .long x4), (6, .int x6), (9, .int x9)] 126 [.long s1, .long s0] := by
  unfold Rf_totalOf_126 at hf
  refine v_ladd C dX10_totalOf_126 hf (fun z126 hf => ?_)
  refine v_lstore [(0, .ref (a 0)), (1, .int x1), (2, .long x2), (4, .long x4), (6, .int x6), (7, .long z126), (9, .int x9)] [1, 2, 3, 4, 5, 0, 6] C dX10_totalOf_127 (by decide) rfl ?_
  refine v_iinc (fun x9_129 => [(0, .ref (a 0)), (1, .int x1), (2, .long x2), (4, .long x4), (6, .int x6), (7, .long z126), (9, .int x9_129)]) [1, 2, 3, 4, 5, 6, 0] C dX10_totalOf_129 (j := 6) rfl (dv := 1) (by decide) (by decide) (fun _ => rfl) hf (fun x9_129 hf => ?_)
  refine v_goto 90 C dX10_totalOf_132 (by decide) ?_
  exact hrec _ _ hf
def Rl_totalOf_90 (c_m : Nat → Int64) (c_pulseMany : Int32) (c_times : Nat → Int32) (c_energies : Nat → Int64) (x1 : Int32) (x2 : Int64) (x4 : Int64) (x6 : Int32) : Nat → Int64 → Int32 → Option Int64
  | 0, _, _ => none
  | n + 1, x7, x9 =>
    if c_pulseMany ≤ x9 then
      some x7
    else
      chk (inb x9 4) <| nm (c_times x9.toNatClampNeg) fun z107 =>
      bd (Rf_window c_m) fun r109 =>
      if r109 < z107 then
        Rf_totalOf_126 (Rl_totalOf_90 c_m c_pulseMany c_times c_energies x1 x2 x4 x6 n) x1 x2 x4 x6 x9 x7 (0 : Int64)
      else
        chk (inb x9 4) <| nm (c_energies x9.toNatClampNeg) fun z121 =>
        Rf_totalOf_126 (Rl_totalOf_90 c_m c_pulseMany c_times c_energies x1 x2 x4 x6 n) x1 x2 x4 x6 x9 x7 z121
set_option maxRecDepth 100000 in
set_option maxHeartbeats 4000000 in
theorem Rk_totalOf_90 (C : Cx X G T cX10_totalOf RX10 (some .long) 10 2 45) {x1 : Int32} {x2 : Int64} {x4 : Int64} {x6 : Int32} {y7 : Int64} (hk : V X 0 0 (wR a T c_m c_saved c_savedCount c_script c_scriptLength c_code c_lineParts c_lengths c_fractions c_pulseMany c_times c_energies c_far c_near c_echoes c_left c_dropped c_merged c_drops c_contributions c_packet c_peelResult c_peelTime c_peelSum c_at c_commands c_draft c_hash) [(0, .ref (a 0)), (1, .int x1), (2, .long x2), (4, .long x4), (6, .int x6), (7, .long y7)] 135 []) : ∀ (n : Nat) (x7 : Int64) (x9 : Int32), Rl_totalOf_90 c_m c_pulseMany c_times c_energies x1 x2 x4 x6 n x7 x9 = some y7 → V X 0 0 (wR a T c_m c_saved c_savedCount c_script c_scriptLength c_code c_lineParts c_lengths c_fractions c_pulseMany c_times c_energies c_far c_near c_echoes c_left c_dropped c_merged c_drops c_contributions c_packet c_peelResult c_peelTime c_peelSum c_at c_commands c_draft c_hash) [(0, .ref (a 0)), (1, .int x1), (2, .long x2), (4, .long x4), (6, .int x6), (7, .long x7), (9, .int x9)] 90 [] := by
  intro n
  induction n with
  | zero =>
    intro _ _ hf
    cases hf
  | succ n hrec =>
    intro x7 x9 hf
    rw [Rl_totalOf_90] at hf
    refine v_iload 6 C dX10_totalOf_90 rfl ?_
    refine v_aload_n 0 C dX10_totalOf_92 rfl rfl ?_
    refine Rg_pulseMany C dX10_totalOf_93 ?_
    refine v_icmp_ge 135 C dX10_totalOf_96 (by decide) hf (fun c hf => ?_) (fun c hf => ?_)
    · refine v_lv [(0, .ref (a 0)), (1, .int x1), (2, .long x2), (4, .long x4), (6, .int x6), (7, .long x7)] [0, 1, 2, 3, 4, 5] rfl ?_
      cases hf
      exact hk
    · refine v_lload 5 C dX10_totalOf_99 rfl ?_
      refine v_aload_n 0 C dX10_totalOf_101 rfl rfl ?_
      refine Rg_times C dX10_totalOf_102 ?_
      refine v_iload 6 C dX10_totalOf_105 rfl ?_
      refine Ral_times C dX10_totalOf_107 hf (fun z107 hf => ?_)
      refine v_aload_n 0 C dX10_totalOf_108 rfl rfl ?_
      refine Rc_window C dX10_totalOf_109 (by decide) (Nat.le_of_ble_eq_true rfl) hf (fun r109 hf => ?_)
      refine v_icmp_gt 125 C dX10_totalOf_112 (by decide) hf (fun c hf => ?_) (fun c hf => ?_)
      · refine v_lconst (v := 0) C dX10_totalOf_125 (by decide) ?_
        refine v_lv [(0, .ref (a 0)), (1, .int x1), (2, .long x2), (4, .long x4), (6, .int x6), (9, .int x9)] [0, 1, 2, 3, 4, 6] rfl ?_
        exact Rb_totalOf_126 C hrec hk hf
      · refine v_aload_n 0 C dX10_totalOf_115 rfl rfl ?_
        refine Rg_energies C dX10_totalOf_116 ?_
        refine v_iload 6 C dX10_totalOf_119 rfl ?_
        refine Ral_energies C dX10_totalOf_121 hf (fun z121 hf => ?_)
        refine v_goto 126 C dX10_totalOf_122 (by decide) ?_
        refine v_lv [(0, .ref (a 0)), (1, .int x1), (2, .long x2), (4, .long x4), (6, .int x6), (9, .int x9)] [0, 1, 2, 3, 4, 6] rfl ?_
        exact Rb_totalOf_126 C hrec hk hf
def Rf_totalOf_75 (rec : Int64 → Int64 → Int32 → Int32 → Option (Int64 × Int64 × Int32)) (x1 : Int32) (x2 : Int64) (x4 : Int64) (x7 : Int32) (s0 : Int32) (s1 : Int32) : Option (Int64 × Int64 × Int32) :=
  nm (s0 + s1) fun z75 =>
  nm (x7 + (1 : Int32)) fun x7_78 =>
  rec x2 x4 z75 x7_78
set_option maxRecDepth 100000 in
set_option maxHeartbeats 4000000 in
theorem Rb_totalOf_75 (C : Cx X G T cX10_totalOf RX10 (some .long) 10 2 45) {rec : Int64 → Int64 → Int32 → Int32 → Option (Int64 × Int64 × Int32)} {x1 : Int32} {x2 : Int64} {x4 : Int64} {x7 : Int32} {s0 : Int32} {s1 : Int32} {y2 : Int64} {y4 : Int64} {y6 : Int32} (hrec : ∀ (x2 : Int64) (x4 : Int64) (x6 : Int32) (x7 : Int32), rec x2 x4 x6 x7 = some (y2, y4, y6) → V X 0 0 (wR a T c_m c_saved c_savedCount c_script c_scriptLength c_code c_lineParts c_lengths c_fractions c_pulseMany c_times c_energies c_far c_near c_echoes c_left c_dropped c_merged c_drops c_contributions c_packet c_peelResult c_peelTime c_peelSum c_at c_commands c_draft c_hash) [(0, .ref (a 0)), (1, .int x1), (2, .long x2), (4, .long x4), (6, .int x6), (7, .int x7)] 11 []) (hk : V X 0 0 (wR a T c_m c_saved c_savedCount c_script c_scriptLength c_code c_lineParts c_lengths c_fractions c_pulseMany c_times c_energies c_far c_near c_echoes c_left c_dropped c_merged c_drops c_contributions c_packet c_peelResult c_peelTime c_peelSum c_at c_commands c_draft c_hash) [(0, .ref (a 0)), (1, .int x1), (2, .long y2), (4, .long y4), (6, .int y6)] 84 []) (hf : Rf_totalOf_75 rec x1 x2 x4 x7 s0 s1 = some (y2, y4, y6)) : V X 0 0 (wR a T c_m c_saved c_savedCount c_script c_scriptLength c_code c_lineParts c_lengths c_fractions c_pulseMany c_times c_energies c_far c_near c_echoes c_left c_dropped c_merged c_drops c_contributions c_packet c_peelResult c_peelTime c_peelSum c_at c_commands c_draft c_hash) [(0, .ref (a 0)), (1, .int x1), (2, .long x2), (4, .long x4), (7, .int x7)] 75 [.int s1, .int s0] := by
  unfold Rf_totalOf_75 at hf
  refine v_iadd C dX10_totalOf_75 hf (fun z75 hf => ?_)
  refine v_istore [(0, .ref (a 0)), (1, .int x1), (2, .long x2), (4, .long x4), (6, .int z75), (7, .int x7)] [1, 2, 3, 4, 0, 5] C dX10_totalOf_76 (by decide) rfl ?_
  refine v_iinc (fun x7_78 => [(0, .ref (a 0)), (1, .int x1), (2, .long x2), (4, .long x4), (6, .int z75), (7, .int x7_78)]) [1, 2, 3, 4, 5, 0] C dX10_totalOf_78 (j := 5) rfl (dv := 1) (by decide) (by decide) (fun _ => rfl) hf (fun x7_78 hf => ?_)
  refine v_goto 11 C dX10_totalOf_81 (by decide) ?_
  exact hrec _ _ _ _ hf
def Rf_totalOf_54 (rec : Int64 → Int64 → Int32 → Int32 → Option (Int64 × Int64 × Int32)) (c_echoes : Nat → Int64) (x1 : Int32) (x2 : Int64) (x6 : Int32) (x7 : Int32) (s0 : Int64) : Option (Int64 × Int64 × Int32) :=
  chk (inb x7 201) <| nm (c_echoes x7.toNatClampNeg) fun z64 =>
  if z64 ≤ (0 : Int64) then
    Rf_totalOf_75 rec x1 x2 s0 x7 x6 (0 : Int32)
  else
    Rf_totalOf_75 rec x1 x2 s0 x7 x6 (1 : Int32)
set_option maxRecDepth 100000 in
set_option maxHeartbeats 4000000 in
theorem Rb_totalOf_54 (C : Cx X G T cX10_totalOf RX10 (some .long) 10 2 45) {rec : Int64 → Int64 → Int32 → Int32 → Option (Int64 × Int64 × Int32)} {x1 : Int32} {x2 : Int64} {x6 : Int32} {x7 : Int32} {s0 : Int64} {y2 : Int64} {y4 : Int64} {y6 : Int32} (hrec : ∀ (x2 : Int64) (x4 : Int64) (x6 : Int32) (x7 : Int32), rec x2 x4 x6 x7 = some (y2, y4, y6) → V X 0 0 (wR a T c_m c_saved c_savedCount c_script c_scriptLength c_code c_lineParts c_lengths c_fractions c_pulseMany c_times c_energies c_far c_near c_echoes c_left c_dropped c_merged c_drops c_contributions c_packet c_peelResult c_peelTime c_peelSum c_at c_commands c_draft c_hash) [(0, .ref (a 0)), (1, .int x1), (2, .long x2), (4, .long x4), (6, .int x6), (7, .int x7)] 11 []) (hk : V X 0 0 (wR a T c_m c_saved c_savedCount c_script c_scriptLength c_code c_lineParts c_lengths c_fractions c_pulseMany c_times c_energies c_far c_near c_echoes c_left c_dropped c_merged c_drops c_contributions c_packet c_peelResult c_peelTime c_peelSum c_at c_commands c_draft c_hash) [(0, .ref (a 0)), (1, .int x1), (2, .long y2), (4, .long y4), (6, .int y6)] 84 []) (hf : Rf_totalOf_54 rec c_echoes x1 x2 x6 x7 s0 = some (y2, y4, y6)) : V X 0 0 (wR a T c_m c_saved c_savedCount c_script c_scriptLength c_code c_lineParts c_lengths c_fractions c_pulseMany c_times c_energies c_far c_near c_echoes c_left c_dropped c_merged c_drops c_contributions c_packet c_peelResult c_peelTime c_peelSum c_at c_commands c_draft c_hash) [(0, .ref (a 0)), (1, .int x1), (2, .long x2), (6, .int x6), (7, .int x7)] 54 [.long s0] := by
  unfold Rf_totalOf_54 at hf
  refine v_lstore [(0, .ref (a 0)), (1, .int x1), (2, .long x2), (4, .long s0), (6, .int x6), (7, .int x7)] [1, 2, 3, 0, 4, 5] C dX10_totalOf_54 (by decide) rfl ?_
  refine v_iload 4 C dX10_totalOf_56 rfl ?_
  refine v_aload_n 0 C dX10_totalOf_58 rfl rfl ?_
  refine Rg_echoes C dX10_totalOf_59 ?_
  refine v_iload 5 C dX10_totalOf_62 rfl ?_
  refine Ral_echoes C dX10_totalOf_64 hf (fun z64 hf => ?_)
  refine v_lconst (v := 0) C dX10_totalOf_65 (by decide) ?_
  refine v_lcmp_le 74 C dX10_totalOf_66 dX10_totalOf_67 (by decide) hf (fun c hf => ?_) (fun c hf => ?_)
  · refine v_iconst (v := 0) C dX10_totalOf_74 (by decide) ?_
    refine v_lv [(0, .ref (a 0)), (1, .int x1), (2, .long x2), (4, .long s0), (7, .int x7)] [0, 1, 2, 3, 5] rfl ?_
    exact Rb_totalOf_75 C hrec hk hf
  · refine v_iconst (v := 1) C dX10_totalOf_70 (by decide) ?_
    refine v_goto 75 C dX10_totalOf_71 (by decide) ?_
    refine v_lv [(0, .ref (a 0)), (1, .int x1), (2, .long x2), (4, .long s0), (7, .int x7)] [0, 1, 2, 3, 5] rfl ?_
    exact Rb_totalOf_75 C hrec hk hf
def Rl_totalOf_11 (c_echoes : Nat → Int64) (x1 : Int32) : Nat → Int64 → Int64 → Int32 → Int32 → Option (Int64 × Int64 × Int32)
  | 0, _, _, _, _ => none
  | n + 1, x2, x4, x6, x7 =>
    if (201 : Int32) ≤ x7 then
      some (x2, x4, x6)
    else
      chk (inb x7 201) <| nm (c_echoes x7.toNatClampNeg) fun z26 =>
      nm (x2 + z26) fun z27 =>
      chk (inb x7 201) <| nm (c_echoes x7.toNatClampNeg) fun z35 =>
      if z35 ≤ x4 then
        Rf_totalOf_54 (Rl_totalOf_11 c_echoes x1 n) c_echoes x1 z27 x6 x7 x4
      else
        chk (inb x7 201) <| nm (c_echoes x7.toNatClampNeg) fun z48 =>
        Rf_totalOf_54 (Rl_totalOf_11 c_echoes x1 n) c_echoes x1 z27 x6 x7 z48
set_option maxRecDepth 100000 in
set_option maxHeartbeats 4000000 in
theorem Rk_totalOf_11 (C : Cx X G T cX10_totalOf RX10 (some .long) 10 2 45) {x1 : Int32} {y2 : Int64} {y4 : Int64} {y6 : Int32} (hk : V X 0 0 (wR a T c_m c_saved c_savedCount c_script c_scriptLength c_code c_lineParts c_lengths c_fractions c_pulseMany c_times c_energies c_far c_near c_echoes c_left c_dropped c_merged c_drops c_contributions c_packet c_peelResult c_peelTime c_peelSum c_at c_commands c_draft c_hash) [(0, .ref (a 0)), (1, .int x1), (2, .long y2), (4, .long y4), (6, .int y6)] 84 []) : ∀ (n : Nat) (x2 : Int64) (x4 : Int64) (x6 : Int32) (x7 : Int32), Rl_totalOf_11 c_echoes x1 n x2 x4 x6 x7 = some (y2, y4, y6) → V X 0 0 (wR a T c_m c_saved c_savedCount c_script c_scriptLength c_code c_lineParts c_lengths c_fractions c_pulseMany c_times c_energies c_far c_near c_echoes c_left c_dropped c_merged c_drops c_contributions c_packet c_peelResult c_peelTime c_peelSum c_at c_commands c_draft c_hash) [(0, .ref (a 0)), (1, .int x1), (2, .long x2), (4, .long x4), (6, .int x6), (7, .int x7)] 11 [] := by
  intro n
  induction n with
  | zero =>
    intro _ _ _ _ hf
    cases hf
  | succ n hrec =>
    intro x2 x4 x6 x7 hf
    rw [Rl_totalOf_11] at hf
    refine v_iload 5 C dX10_totalOf_11 rfl ?_
    refine v_sipush (v := 201) C dX10_totalOf_13 (by decide) ?_
    refine v_icmp_ge 84 C dX10_totalOf_16 (by decide) hf (fun c hf => ?_) (fun c hf => ?_)
    · refine v_lv [(0, .ref (a 0)), (1, .int x1), (2, .long x2), (4, .long x4), (6, .int x6)] [0, 1, 2, 3, 4] rfl ?_
      cases hf
      exact hk
    · refine v_lload_n 2 C dX10_totalOf_19 rfl rfl ?_
      refine v_aload_n 0 C dX10_totalOf_20 rfl rfl ?_
      refine Rg_echoes C dX10_totalOf_21 ?_
      refine v_iload 5 C dX10_totalOf_24 rfl ?_
      refine Ral_echoes C dX10_totalOf_26 hf (fun z26 hf => ?_)
      refine v_ladd C dX10_totalOf_27 hf (fun z27 hf => ?_)
      refine v_lstore_n [(0, .ref (a 0)), (1, .int x1), (2, .long z27), (4, .long x4), (6, .int x6), (7, .int x7)] [1, 2, 0, 3, 4, 5] C dX10_totalOf_28 rfl (by decide) rfl ?_
      refine v_aload_n 0 C dX10_totalOf_29 rfl rfl ?_
      refine Rg_echoes C dX10_totalOf_30 ?_
      refine v_iload 5 C dX10_totalOf_33 rfl ?_
      refine Ral_echoes C dX10_totalOf_35 hf (fun z35 hf => ?_)
      refine v_lload 3 C dX10_totalOf_36 rfl ?_
      refine v_lcmp_le 52 C dX10_totalOf_38 dX10_totalOf_39 (by decide) hf (fun c hf => ?_) (fun c hf => ?_)
      · refine v_lload 3 C dX10_totalOf_52 rfl ?_
        refine v_lv [(0, .ref (a 0)), (1, .int x1), (2, .long z27), (6, .int x6), (7, .int x7)] [0, 1, 2, 4, 5] rfl ?_
        exact Rb_totalOf_54 C hrec hk hf
      · refine v_aload_n 0 C dX10_totalOf_42 rfl rfl ?_
        refine Rg_echoes C dX10_totalOf_43 ?_
        refine v_iload 5 C dX10_totalOf_46 rfl ?_
        refine Ral_echoes C dX10_totalOf_48 hf (fun z48 hf => ?_)
        refine v_goto 54 C dX10_totalOf_49 (by decide) ?_
        refine v_lv [(0, .ref (a 0)), (1, .int x1), (2, .long z27), (6, .int x6), (7, .int x7)] [0, 1, 2, 4, 5] rfl ?_
        exact Rb_totalOf_54 C hrec hk hf
def Rf_totalOf (c_m : Nat → Int64) (c_lineParts : Int32) (c_lengths : Nat → Int32) (c_pulseMany : Int32) (c_times : Nat → Int32) (c_energies : Nat → Int64) (c_far : Nat → Int64) (c_near : Nat → Int64) (c_echoes : Nat → Int64) (c_left : Int64) (c_dropped : Int64) (c_merged : Int32) (c_drops : Int32) (x1 : Int32) : Option Int64 :=
  bd (Rl_totalOf_11 c_echoes x1 FUEL (0 : Int64) (0 : Int64) (0 : Int32) (0 : Int32)) fun (y2_11, y4_11, y6_11) =>
  bd (Rl_totalOf_90 c_m c_pulseMany c_times c_energies x1 y2_11 y4_11 y6_11 FUEL (0 : Int64) (0 : Int32)) fun y7_90 =>
  if x1 = 0 then
    some y7_90
  else
    if x1 = 1 then
      some y2_11
    else
      if x1 = 2 then
        some c_left
      else
        if x1 = 3 then
          some c_dropped
        else
          if x1 = 4 then
            bd (Rf_underWay c_m c_lineParts c_lengths c_far c_near) fun r200 =>
            some r200
          else
            if x1 = 5 then
              nm (c_merged.toInt64) fun z208 =>
              some z208
            else
              if x1 = 6 then
                nm (c_drops.toInt64) fun z214 =>
                some z214
              else
                if x1 = 7 then
                  nm (y6_11.toInt64) fun z218 =>
                  some z218
                else
                  some y4_11
set_option maxRecDepth 100000 in
set_option maxHeartbeats 4000000 in
theorem Rb_totalOf (C : Cx X G T cX10_totalOf RX10 (some .long) 10 2 45) {x1 : Int32} {r : Int64} (hret : RetOK X 0 0 (some (.long r)) (wR a T c_m c_saved c_savedCount c_script c_scriptLength c_code c_lineParts c_lengths c_fractions c_pulseMany c_times c_energies c_far c_near c_echoes c_left c_dropped c_merged c_drops c_contributions c_packet c_peelResult c_peelTime c_peelSum c_at c_commands c_draft c_hash)) (hf : Rf_totalOf c_m c_lineParts c_lengths c_pulseMany c_times c_energies c_far c_near c_echoes c_left c_dropped c_merged c_drops x1 = some r) : V X 0 0 (wR a T c_m c_saved c_savedCount c_script c_scriptLength c_code c_lineParts c_lengths c_fractions c_pulseMany c_times c_energies c_far c_near c_echoes c_left c_dropped c_merged c_drops c_contributions c_packet c_peelResult c_peelTime c_peelSum c_at c_commands c_draft c_hash) [(0, .ref (a 0)), (1, .int x1)] 0 [] := by
  unfold Rf_totalOf at hf
  refine v_lconst (v := 0) C dX10_totalOf_0 (by decide) ?_
  refine v_lstore_n [(0, .ref (a 0)), (1, .int x1), (2, .long (0 : Int64))] [1, 2, 0] C dX10_totalOf_1 rfl (by decide) rfl ?_
  refine v_lconst (v := 0) C dX10_totalOf_2 (by decide) ?_
  refine v_lstore [(0, .ref (a 0)), (1, .int x1), (2, .long (0 : Int64)), (4, .long (0 : Int64))] [1, 2, 3, 0] C dX10_totalOf_3 (by decide) rfl ?_
  refine v_iconst (v := 0) C dX10_totalOf_5 (by decide) ?_
  refine v_istore [(0, .ref (a 0)), (1, .int x1), (2, .long (0 : Int64)), (4, .long (0 : Int64)), (6, .int (0 : Int32))] [1, 2, 3, 4, 0] C dX10_totalOf_6 (by decide) rfl ?_
  refine v_iconst (v := 0) C dX10_totalOf_8 (by decide) ?_
  refine v_istore [(0, .ref (a 0)), (1, .int x1), (2, .long (0 : Int64)), (4, .long (0 : Int64)), (6, .int (0 : Int32)), (7, .int (0 : Int32))] [1, 2, 3, 4, 5, 0] C dX10_totalOf_9 (by decide) rfl ?_
  obtain ⟨⟨y2_11, y4_11, y6_11⟩, hc, hf⟩ := bd_some hf
  refine Rk_totalOf_11 C ?_ _ _ _ _ _ hc
  refine v_lconst (v := 0) C dX10_totalOf_84 (by decide) ?_
  refine v_lstore [(0, .ref (a 0)), (1, .int x1), (2, .long y2_11), (4, .long y4_11), (6, .int y6_11), (7, .long (0 : Int64))] [1, 2, 3, 4, 5, 0] C dX10_totalOf_85 (by decide) rfl ?_
  refine v_iconst (v := 0) C dX10_totalOf_87 (by decide) ?_
  refine v_istore [(0, .ref (a 0)), (1, .int x1), (2, .long y2_11), (4, .long y4_11), (6, .int y6_11), (7, .long (0 : Int64)), (9, .int (0 : Int32))] [1, 2, 3, 4, 5, 6, 0] C dX10_totalOf_88 (by decide) rfl ?_
  obtain ⟨y7_90, hc, hf⟩ := bd_some hf
  refine Rk_totalOf_90 C ?_ _ _ _ hc
  refine v_iload_n 1 C dX10_totalOf_135 rfl rfl ?_
  by_cases c0 : x1 = 0
  · replace hf := ite_t c0 hf
    refine v_tableIn (off := 48) 184 C dX10_totalOf_136 (by rw [c0]; decide) (by rw [c0]; decide) (by rw [c0]; try rfl) (by decide) ?_
    refine v_lload 5 C dX10_totalOf_184 rfl ?_
    cases hf
    exact v_lret C hret dX10_totalOf_186
  · replace hf := ite_f c0 hf
    by_cases c1 : x1 = 1
    · replace hf := ite_t c1 hf
      refine v_tableIn (off := 51) 187 C dX10_totalOf_136 (by rw [c1]; decide) (by rw [c1]; decide) (by rw [c1]; try rfl) (by decide) ?_
      refine v_lload_n 2 C dX10_totalOf_187 rfl rfl ?_
      cases hf
      exact v_lret C hret dX10_totalOf_188
    · replace hf := ite_f c1 hf
      by_cases c2 : x1 = 2
      · replace hf := ite_t c2 hf
        refine v_tableIn (off := 53) 189 C dX10_totalOf_136 (by rw [c2]; decide) (by rw [c2]; decide) (by rw [c2]; try rfl) (by decide) ?_
        refine v_aload_n 0 C dX10_totalOf_189 rfl rfl ?_
        refine Rg_left C dX10_totalOf_190 ?_
        cases hf
        exact v_lret C hret dX10_totalOf_193
      · replace hf := ite_f c2 hf
        by_cases c3 : x1 = 3
        · replace hf := ite_t c3 hf
          refine v_tableIn (off := 58) 194 C dX10_totalOf_136 (by rw [c3]; decide) (by rw [c3]; decide) (by rw [c3]; try rfl) (by decide) ?_
          refine v_aload_n 0 C dX10_totalOf_194 rfl rfl ?_
          refine Rg_dropped C dX10_totalOf_195 ?_
          cases hf
          exact v_lret C hret dX10_totalOf_198
        · replace hf := ite_f c3 hf
          by_cases c4 : x1 = 4
          · replace hf := ite_t c4 hf
            refine v_tableIn (off := 63) 199 C dX10_totalOf_136 (by rw [c4]; decide) (by rw [c4]; decide) (by rw [c4]; try rfl) (by decide) ?_
            refine v_aload_n 0 C dX10_totalOf_199 rfl rfl ?_
            refine Rc_underWay C dX10_totalOf_200 (by decide) (Nat.le_of_ble_eq_true rfl) hf (fun r200 hf => ?_)
            cases hf
            exact v_lret C hret dX10_totalOf_203
          · replace hf := ite_f c4 hf
            by_cases c5 : x1 = 5
            · replace hf := ite_t c5 hf
              refine v_tableIn (off := 68) 204 C dX10_totalOf_136 (by rw [c5]; decide) (by rw [c5]; decide) (by rw [c5]; try rfl) (by decide) ?_
              refine v_aload_n 0 C dX10_totalOf_204 rfl rfl ?_
              refine Rg_merged C dX10_totalOf_205 ?_
              refine v_i2l C dX10_totalOf_208 hf (fun z208 hf => ?_)
              cases hf
              exact v_lret C hret dX10_totalOf_209
            · replace hf := ite_f c5 hf
              by_cases c6 : x1 = 6
              · replace hf := ite_t c6 hf
                refine v_tableIn (off := 74) 210 C dX10_totalOf_136 (by rw [c6]; decide) (by rw [c6]; decide) (by rw [c6]; try rfl) (by decide) ?_
                refine v_aload_n 0 C dX10_totalOf_210 rfl rfl ?_
                refine Rg_drops C dX10_totalOf_211 ?_
                refine v_i2l C dX10_totalOf_214 hf (fun z214 hf => ?_)
                cases hf
                exact v_lret C hret dX10_totalOf_215
              · replace hf := ite_f c6 hf
                by_cases c7 : x1 = 7
                · replace hf := ite_t c7 hf
                  refine v_tableIn (off := 80) 216 C dX10_totalOf_136 (by rw [c7]; decide) (by rw [c7]; decide) (by rw [c7]; try rfl) (by decide) ?_
                  refine v_iload 4 C dX10_totalOf_216 rfl ?_
                  refine v_i2l C dX10_totalOf_218 hf (fun z218 hf => ?_)
                  cases hf
                  exact v_lret C hret dX10_totalOf_219
                · replace hf := ite_f c7 hf
                  refine v_tableD 220 C dX10_totalOf_136 (by decide) (fun h1 h2 => by
                      have e0 : x1.toInt ≠ 0 := fun q => c0 (Int32.toInt_inj.mp q)
                      have e1 : x1.toInt ≠ 1 := fun q => c1 (Int32.toInt_inj.mp q)
                      have e2 : x1.toInt ≠ 2 := fun q => c2 (Int32.toInt_inj.mp q)
                      have e3 : x1.toInt ≠ 3 := fun q => c3 (Int32.toInt_inj.mp q)
                      have e4 : x1.toInt ≠ 4 := fun q => c4 (Int32.toInt_inj.mp q)
                      have e5 : x1.toInt ≠ 5 := fun q => c5 (Int32.toInt_inj.mp q)
                      have e6 : x1.toInt ≠ 6 := fun q => c6 (Int32.toInt_inj.mp q)
                      have e7 : x1.toInt ≠ 7 := fun q => c7 (Int32.toInt_inj.mp q)
                      exact absurd h1 (by omega)) ?_
                  refine v_lload 3 C dX10_totalOf_220 rfl ?_
                  cases hf
                  exact v_lret C hret dX10_totalOf_222
set_option maxRecDepth 100000 in
set_option maxHeartbeats 4000000 in
theorem Rm_totalOf {D : va_G} {x1 : Int32} {r : Int64} (hf : Rf_totalOf c_m c_lineParts c_lengths c_pulseMany c_times c_energies c_far c_near c_echoes c_left c_dropped c_merged c_drops x1 = some r) : MetM G yX10_totalOf cX10_totalOf 10 (some .long) { frames := 2, cells := 0, slots := 0, locals := 45 } D T [.ref (a 0), .int x1] (wR a T c_m c_saved c_savedCount c_script c_scriptLength c_code c_lineParts c_lengths c_fractions c_pulseMany c_times c_energies c_far c_near c_echoes c_left c_dropped c_merged c_drops c_contributions c_packet c_peelResult c_peelTime c_peelSum c_at c_commands c_draft c_hash) (some (.long r)) (wR a T c_m c_saved c_savedCount c_script c_scriptLength c_code c_lineParts c_lengths c_fractions c_pulseMany c_times c_energies c_far c_near c_echoes c_left c_dropped c_merged c_drops c_contributions c_packet c_peelResult c_peelTime c_peelSum c_at c_commands c_draft c_hash) :=
  MetM.of [(0, .ref (a 0)), (1, .int x1)] (by decide) (Nat.le_of_ble_eq_true rfl) rfl (fun X C hret => Rb_totalOf C hret hf)
set_option maxRecDepth 100000 in
theorem Rc_totalOf {x1 : Int32} {cc : ByteArray} {ret : Option FieldType} {nl fr lo pc : Nat} {lv : List (Nat × Value)} {rest : List Value} {β : Type} {K : Int64 → Option β} {oo : β} (C : Cx X G T cc RX10 ret nl fr lo) (hdg : decode cc pc = .ok (.invokevirtual 201, 3)) (hroom : 2 + 1 ≤ fr ∧ 8 + (10 + 11) + 45 ≤ lo) (hst : (rest.map fun v => v.category).sum ≤ 8) (hf : bd (Rf_totalOf c_m c_lineParts c_lengths c_pulseMany c_times c_energies c_far c_near c_echoes c_left c_dropped c_merged c_drops x1) K = some oo) (kk : ∀ (r : Int64), K r = some oo → V X 0 0 (wR a T c_m c_saved c_savedCount c_script c_scriptLength c_code c_lineParts c_lengths c_fractions c_pulseMany c_times c_energies c_far c_near c_echoes c_left c_dropped c_merged c_drops c_contributions c_packet c_peelResult c_peelTime c_peelSum c_at c_commands c_draft c_hash) lv (pc + 3) (.long r :: rest)) : V X 0 0 (wR a T c_m c_saved c_savedCount c_script c_scriptLength c_code c_lineParts c_lengths c_fractions c_pulseMany c_times c_energies c_far c_near c_echoes c_left c_dropped c_merged c_drops c_contributions c_packet c_peelResult c_peelTime c_peelSum c_at c_commands c_draft c_hash) lv pc (.int x1 :: .ref (a 0) :: rest) := by
  obtain ⟨r, hc, hk⟩ := bd_some hf
  exact v_callV (As := [.int x1]) (rest := rest) (q0 := 0) 1 C (CapOK.z X) (fun D => Rm_totalOf hc) (goodV wmethodLink_RX10_201_yX10_totalOf winstanceMethod_yX10_totalOf wselects_RX10_yX10_totalOf_yX10_totalOf winitialized_RX10 wcode_yX10_totalOf_cX10_totalOf_10_some_long) (by decide +kernel) hroom ⟨rfl, rfl⟩ rfl rfl rfl hst hdg (kk r hk)
end RM2
