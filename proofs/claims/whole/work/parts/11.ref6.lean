section RM6
variable {X : CxT} {G : SG} {T : Nat → ClassId} {a : Nat → Nat} {w : va_W} {c_m : Nat → Int64} {c_saved : Nat → Int64} {c_savedCount : Int32} {c_script : Nat → Int32} {c_scriptLength : Int32} {c_code : Int32} {c_lineParts : Int32} {c_lengths : Nat → Int32} {c_fractions : Nat → Int32} {c_pulseMany : Int32} {c_times : Nat → Int32} {c_energies : Nat → Int64} {c_far : Nat → Int64} {c_near : Nat → Int64} {c_echoes : Nat → Int64} {c_left : Int64} {c_dropped : Int64} {c_merged : Int32} {c_drops : Int32} {c_contributions : Int32} {c_packet : Int64} {c_peelResult : Int32} {c_peelTime : Int32} {c_peelSum : Int32} {c_at : Int32} {c_commands : Int32} {c_draft : Nat → Int32} {c_hash : Int64}
def Rl_run_26 (c_commands : Int32) (c_draft : Nat → Int32) : Nat → (Nat → Int64) → Int32 → Int32 → (Nat → Int32) → (Nat → Int32) → Int32 → (Nat → Int32) → (Nat → Int64) → (Nat → Int64) → (Nat → Int64) → (Nat → Int64) → Int64 → Int64 → Int32 → Int32 → Int32 → Int64 → Int32 → Int32 → Int32 → Int32 → Option ((Nat → Int64) × Int32 × Int32 × (Nat → Int32) × (Nat → Int32) × Int32 × (Nat → Int32) × (Nat → Int64) × (Nat → Int64) × (Nat → Int64) × (Nat → Int64) × Int64 × Int64 × Int32 × Int32 × Int32 × Int64 × Int32 × Int32 × Int32 × Int32)
  | 0, _, _, _, _, _, _, _, _, _, _, _, _, _, _, _, _, _, _, _, _, _ => none
  | n + 1, c_m, c_code, c_lineParts, c_lengths, c_fractions, c_pulseMany, c_times, c_energies, c_far, c_near, c_echoes, c_left, c_dropped, c_merged, c_drops, c_contributions, c_packet, c_peelResult, c_peelTime, c_peelSum, x1 =>
    if c_commands ≤ x1 then
      some (c_m, c_code, c_lineParts, c_lengths, c_fractions, c_pulseMany, c_times, c_energies, c_far, c_near, c_echoes, c_left, c_dropped, c_merged, c_drops, c_contributions, c_packet, c_peelResult, c_peelTime, c_peelSum, x1)
    else
      nm ((4 : Int32) * x1) fun z37 =>
      bd (Rf_does c_m c_code c_lineParts c_lengths c_fractions c_pulseMany c_times c_energies c_far c_near c_echoes c_left c_dropped c_merged c_drops c_contributions c_packet c_peelResult c_peelTime c_peelSum c_draft z37) fun (m_38, code_38, lineParts_38, lengths_38, fractions_38, pulseMany_38, times_38, energies_38, far_38, near_38, echoes_38, left_38, dropped_38, merged_38, drops_38, contributions_38, packet_38, peelResult_38, peelTime_38, peelSum_38, r38) =>
      if r38 = 0 then
        some (m_38, code_38, lineParts_38, lengths_38, fractions_38, pulseMany_38, times_38, energies_38, far_38, near_38, echoes_38, left_38, dropped_38, merged_38, drops_38, contributions_38, packet_38, peelResult_38, peelTime_38, peelSum_38, x1)
      else
        nm (x1 + (1 : Int32)) fun x1_44 =>
        Rl_run_26 c_commands c_draft n m_38 code_38 lineParts_38 lengths_38 fractions_38 pulseMany_38 times_38 energies_38 far_38 near_38 echoes_38 left_38 dropped_38 merged_38 drops_38 contributions_38 packet_38 peelResult_38 peelTime_38 peelSum_38 x1_44
set_option maxRecDepth 100000 in
set_option maxHeartbeats 4000000 in
theorem Rk_run_26 (C : Cx X G T cX10_run RX10 (some .int) 2 9 209)  {o_m : Nat → Int64} {o_code : Int32} {o_lineParts : Int32} {o_lengths : Nat → Int32} {o_fractions : Nat → Int32} {o_pulseMany : Int32} {o_times : Nat → Int32} {o_energies : Nat → Int64} {o_far : Nat → Int64} {o_near : Nat → Int64} {o_echoes : Nat → Int64} {o_left : Int64} {o_dropped : Int64} {o_merged : Int32} {o_drops : Int32} {o_contributions : Int32} {o_packet : Int64} {o_peelResult : Int32} {o_peelTime : Int32} {o_peelSum : Int32} {y1 : Int32} (hk : V X 0 0 (wR a T o_m c_saved c_savedCount c_script c_scriptLength o_code o_lineParts o_lengths o_fractions o_pulseMany o_times o_energies o_far o_near o_echoes o_left o_dropped o_merged o_drops o_contributions o_packet o_peelResult o_peelTime o_peelSum c_at c_commands c_draft c_hash) [(0, .ref (a 0)), (1, .int y1)] 50 []) : ∀ (n : Nat) (c_m : Nat → Int64) (c_code : Int32) (c_lineParts : Int32) (c_lengths : Nat → Int32) (c_fractions : Nat → Int32) (c_pulseMany : Int32) (c_times : Nat → Int32) (c_energies : Nat → Int64) (c_far : Nat → Int64) (c_near : Nat → Int64) (c_echoes : Nat → Int64) (c_left : Int64) (c_dropped : Int64) (c_merged : Int32) (c_drops : Int32) (c_contributions : Int32) (c_packet : Int64) (c_peelResult : Int32) (c_peelTime : Int32) (c_peelSum : Int32) (x1 : Int32), Rl_run_26 c_commands c_draft n c_m c_code c_lineParts c_lengths c_fractions c_pulseMany c_times c_energies c_far c_near c_echoes c_left c_dropped c_merged c_drops c_contributions c_packet c_peelResult c_peelTime c_peelSum x1 = some (o_m, o_code, o_lineParts, o_lengths, o_fractions, o_pulseMany, o_times, o_energies, o_far, o_near, o_echoes, o_left, o_dropped, o_merged, o_drops, o_contributions, o_packet, o_peelResult, o_peelTime, o_peelSum, y1) → V X 0 0 (wR a T c_m c_saved c_savedCount c_script c_scriptLength c_code c_lineParts c_lengths c_fractions c_pulseMany c_times c_energies c_far c_near c_echoes c_left c_dropped c_merged c_drops c_contributions c_packet c_peelResult c_peelTime c_peelSum c_at c_commands c_draft c_hash) [(0, .ref (a 0)), (1, .int x1)] 26 [] := by
  intro n
  induction n with
  | zero =>
    intro _ _ _ _ _ _ _ _ _ _ _ _ _ _ _ _ _ _ _ _ _ hf
    cases hf
  | succ n hrec =>
    intro c_m c_code c_lineParts c_lengths c_fractions c_pulseMany c_times c_energies c_far c_near c_echoes c_left c_dropped c_merged c_drops c_contributions c_packet c_peelResult c_peelTime c_peelSum x1 hf
    rw [Rl_run_26] at hf
    refine v_iload_n 1 C dX10_run_26 rfl rfl ?_
    refine v_aload_n 0 C dX10_run_27 rfl rfl ?_
    refine Rg_commands C dX10_run_28 ?_
    refine v_icmp_ge 50 C dX10_run_31 (by decide) hf (fun c hf => ?_) (fun c hf => ?_)
    · cases hf
      exact hk
    · refine v_aload_n 0 C dX10_run_34 rfl rfl ?_
      refine v_iconst (v := 4) C dX10_run_35 (by decide) ?_
      refine v_iload_n 1 C dX10_run_36 rfl rfl ?_
      refine v_imul C dX10_run_37 hf (fun z37 hf => ?_)
      refine Rc_does C dX10_run_38 (by decide) (Nat.le_of_ble_eq_true rfl) hf (fun m_38 code_38 lineParts_38 lengths_38 fractions_38 pulseMany_38 times_38 energies_38 far_38 near_38 echoes_38 left_38 dropped_38 merged_38 drops_38 contributions_38 packet_38 peelResult_38 peelTime_38 peelSum_38 r38 hf => ?_)
      refine v_if_eq 50 C dX10_run_41 (by decide) hf (fun c hf => ?_) (fun c hf => ?_)
      · cases hf
        exact hk
      · refine v_iinc (fun x1_44 => [(0, .ref (a 0)), (1, .int x1_44)]) [1, 0] C dX10_run_44 (j := 1) rfl (dv := 1) (by decide) (by decide) (fun _ => rfl) hf (fun x1_44 hf => ?_)
        refine v_goto 26 C dX10_run_47 (by decide) ?_
        exact hrec _ _ _ _ _ _ _ _ _ _ _ _ _ _ _ _ _ _ _ _ _ hf
def Rf_run_50 (c_m : Nat → Int64) (c_saved : Nat → Int64) (c_savedCount : Int32) (c_code : Int32) (c_lineParts : Int32) (c_lengths : Nat → Int32) (c_fractions : Nat → Int32) (c_pulseMany : Int32) (c_times : Nat → Int32) (c_energies : Nat → Int64) (c_far : Nat → Int64) (c_near : Nat → Int64) (c_echoes : Nat → Int64) (c_left : Int64) (c_dropped : Int64) (c_merged : Int32) (c_drops : Int32) (c_contributions : Int32) (c_packet : Int64) (c_peelResult : Int32) (c_peelTime : Int32) (c_peelSum : Int32) (c_at : Int32) (c_commands : Int32) (c_draft : Nat → Int32) (x1 : Int32) : Option ((Nat → Int64) × (Nat → Int64) × Int32 × Int32 × Int32 × (Nat → Int32) × (Nat → Int32) × Int32 × (Nat → Int32) × (Nat → Int64) × (Nat → Int64) × (Nat → Int64) × (Nat → Int64) × Int64 × Int64 × Int32 × Int32 × Int32 × Int64 × Int32 × Int32 × Int32 × Int32 × Int32 × (Nat → Int32) × Int32) :=
  some (c_m, c_saved, c_savedCount, (0 : Int32), c_lineParts, c_lengths, c_fractions, c_pulseMany, c_times, c_energies, c_far, c_near, c_echoes, c_left, c_dropped, c_merged, c_drops, c_contributions, c_packet, c_peelResult, c_peelTime, c_peelSum, c_at, c_commands, c_draft, x1)
set_option maxRecDepth 100000 in
set_option maxHeartbeats 4000000 in
theorem Rb_run_50 (C : Cx X G T cX10_run RX10 (some .int) 2 9 209) {x1 : Int32} {o_m : Nat → Int64} {o_saved : Nat → Int64} {o_savedCount : Int32} {o_code : Int32} {o_lineParts : Int32} {o_lengths : Nat → Int32} {o_fractions : Nat → Int32} {o_pulseMany : Int32} {o_times : Nat → Int32} {o_energies : Nat → Int64} {o_far : Nat → Int64} {o_near : Nat → Int64} {o_echoes : Nat → Int64} {o_left : Int64} {o_dropped : Int64} {o_merged : Int32} {o_drops : Int32} {o_contributions : Int32} {o_packet : Int64} {o_peelResult : Int32} {o_peelTime : Int32} {o_peelSum : Int32} {o_at : Int32} {o_commands : Int32} {o_draft : Nat → Int32} {r : Int32} (hret : RetOK X 0 0 (some (.int r)) (wR a T o_m o_saved o_savedCount c_script c_scriptLength o_code o_lineParts o_lengths o_fractions o_pulseMany o_times o_energies o_far o_near o_echoes o_left o_dropped o_merged o_drops o_contributions o_packet o_peelResult o_peelTime o_peelSum o_at o_commands o_draft c_hash)) (hf : Rf_run_50 c_m c_saved c_savedCount c_code c_lineParts c_lengths c_fractions c_pulseMany c_times c_energies c_far c_near c_echoes c_left c_dropped c_merged c_drops c_contributions c_packet c_peelResult c_peelTime c_peelSum c_at c_commands c_draft x1 = some (o_m, o_saved, o_savedCount, o_code, o_lineParts, o_lengths, o_fractions, o_pulseMany, o_times, o_energies, o_far, o_near, o_echoes, o_left, o_dropped, o_merged, o_drops, o_contributions, o_packet, o_peelResult, o_peelTime, o_peelSum, o_at, o_commands, o_draft, r)) : V X 0 0 (wR a T c_m c_saved c_savedCount c_script c_scriptLength c_code c_lineParts c_lengths c_fractions c_pulseMany c_times c_energies c_far c_near c_echoes c_left c_dropped c_merged c_drops c_contributions c_packet c_peelResult c_peelTime c_peelSum c_at c_commands c_draft c_hash) [(0, .ref (a 0)), (1, .int x1)] 50 [] := by
  unfold Rf_run_50 at hf
  refine v_aload_n 0 C dX10_run_50 rfl rfl ?_
  refine v_iconst (v := 0) C dX10_run_51 (by decide) ?_
  refine Rp_code C dX10_run_52 ?_
  refine v_iload_n 1 C dX10_run_55 rfl rfl ?_
  cases hf
  exact v_iret C hret dX10_run_56
def Rf_run (c_m : Nat → Int64) (c_saved : Nat → Int64) (c_savedCount : Int32) (c_script : Nat → Int32) (c_scriptLength : Int32) (c_code : Int32) (c_lineParts : Int32) (c_lengths : Nat → Int32) (c_fractions : Nat → Int32) (c_pulseMany : Int32) (c_times : Nat → Int32) (c_energies : Nat → Int64) (c_far : Nat → Int64) (c_near : Nat → Int64) (c_echoes : Nat → Int64) (c_left : Int64) (c_dropped : Int64) (c_merged : Int32) (c_drops : Int32) (c_contributions : Int32) (c_packet : Int64) (c_peelResult : Int32) (c_peelTime : Int32) (c_peelSum : Int32) (c_at : Int32) (c_commands : Int32) (c_draft : Nat → Int32) : Option ((Nat → Int64) × (Nat → Int64) × Int32 × Int32 × Int32 × (Nat → Int32) × (Nat → Int32) × Int32 × (Nat → Int32) × (Nat → Int64) × (Nat → Int64) × (Nat → Int64) × (Nat → Int64) × Int64 × Int64 × Int32 × Int32 × Int32 × Int64 × Int32 × Int32 × Int32 × Int32 × Int32 × (Nat → Int32) × Int32) :=
  bd (Rf_readAll c_script c_scriptLength c_at c_commands c_draft) fun (at_6, commands_6, draft_6, r6) =>
  if r6 = 0 then
    nm ((-10 : Int32) - at_6) fun z18 =>
    some (c_m, c_saved, c_savedCount, (0 : Int32), c_lineParts, c_lengths, c_fractions, c_pulseMany, c_times, c_energies, c_far, c_near, c_echoes, c_left, c_dropped, c_merged, c_drops, c_contributions, c_packet, c_peelResult, c_peelTime, c_peelSum, at_6, commands_6, draft_6, z18)
  else
    bd (Rf_keep c_m c_saved c_savedCount) fun (saved_21, savedCount_21) =>
    bd (Rl_run_26 commands_6 draft_6 FUEL c_m (0 : Int32) c_lineParts c_lengths c_fractions c_pulseMany c_times c_energies c_far c_near c_echoes c_left c_dropped c_merged c_drops c_contributions c_packet c_peelResult c_peelTime c_peelSum (0 : Int32)) fun (o_m_26, o_code_26, o_lineParts_26, o_lengths_26, o_fractions_26, o_pulseMany_26, o_times_26, o_energies_26, o_far_26, o_near_26, o_echoes_26, o_left_26, o_dropped_26, o_merged_26, o_drops_26, o_contributions_26, o_packet_26, o_peelResult_26, o_peelTime_26, o_peelSum_26, y1_26) =>
    Rf_run_50 o_m_26 saved_21 savedCount_21 o_code_26 o_lineParts_26 o_lengths_26 o_fractions_26 o_pulseMany_26 o_times_26 o_energies_26 o_far_26 o_near_26 o_echoes_26 o_left_26 o_dropped_26 o_merged_26 o_drops_26 o_contributions_26 o_packet_26 o_peelResult_26 o_peelTime_26 o_peelSum_26 at_6 commands_6 draft_6 y1_26
set_option maxRecDepth 100000 in
set_option maxHeartbeats 4000000 in
theorem Rb_run (C : Cx X G T cX10_run RX10 (some .int) 2 9 209)  {o_m : Nat → Int64} {o_saved : Nat → Int64} {o_savedCount : Int32} {o_code : Int32} {o_lineParts : Int32} {o_lengths : Nat → Int32} {o_fractions : Nat → Int32} {o_pulseMany : Int32} {o_times : Nat → Int32} {o_energies : Nat → Int64} {o_far : Nat → Int64} {o_near : Nat → Int64} {o_echoes : Nat → Int64} {o_left : Int64} {o_dropped : Int64} {o_merged : Int32} {o_drops : Int32} {o_contributions : Int32} {o_packet : Int64} {o_peelResult : Int32} {o_peelTime : Int32} {o_peelSum : Int32} {o_at : Int32} {o_commands : Int32} {o_draft : Nat → Int32} {r : Int32} (hret : RetOK X 0 0 (some (.int r)) (wR a T o_m o_saved o_savedCount c_script c_scriptLength o_code o_lineParts o_lengths o_fractions o_pulseMany o_times o_energies o_far o_near o_echoes o_left o_dropped o_merged o_drops o_contributions o_packet o_peelResult o_peelTime o_peelSum o_at o_commands o_draft c_hash)) (hf : Rf_run c_m c_saved c_savedCount c_script c_scriptLength c_code c_lineParts c_lengths c_fractions c_pulseMany c_times c_energies c_far c_near c_echoes c_left c_dropped c_merged c_drops c_contributions c_packet c_peelResult c_peelTime c_peelSum c_at c_commands c_draft = some (o_m, o_saved, o_savedCount, o_code, o_lineParts, o_lengths, o_fractions, o_pulseMany, o_times, o_energies, o_far, o_near, o_echoes, o_left, o_dropped, o_merged, o_drops, o_contributions, o_packet, o_peelResult, o_peelTime, o_peelSum, o_at, o_commands, o_draft, r)) : V X 0 0 (wR a T c_m c_saved c_savedCount c_script c_scriptLength c_code c_lineParts c_lengths c_fractions c_pulseMany c_times c_energies c_far c_near c_echoes c_left c_dropped c_merged c_drops c_contributions c_packet c_peelResult c_peelTime c_peelSum c_at c_commands c_draft c_hash) [(0, .ref (a 0))] 0 [] := by
  unfold Rf_run at hf
  refine v_aload_n 0 C dX10_run_0 rfl rfl ?_
  refine v_iconst (v := 0) C dX10_run_1 (by decide) ?_
  refine Rp_code C dX10_run_2 ?_
  refine v_aload_n 0 C dX10_run_5 rfl rfl ?_
  refine Rc_readAll C dX10_run_6 (by decide) (Nat.le_of_ble_eq_true rfl) hf (fun at_6 commands_6 draft_6 r6 hf => ?_)
  refine v_if_ne 20 C dX10_run_9 (by decide) hf (fun c hf => ?_) (fun c hf => ?_)
  · refine v_bipush (v := -10) C dX10_run_12 (by decide) ?_
    refine v_aload_n 0 C dX10_run_14 rfl rfl ?_
    refine Rg_at C dX10_run_15 ?_
    refine v_isub C dX10_run_18 hf (fun z18 hf => ?_)
    cases hf
    exact v_iret C hret dX10_run_19
  · refine v_aload_n 0 C dX10_run_20 rfl rfl ?_
    refine Rc_keep C dX10_run_21 (by decide) (Nat.le_of_ble_eq_true rfl) hf (fun saved_21 savedCount_21 hf => ?_)
    refine v_iconst (v := 0) C dX10_run_24 (by decide) ?_
    refine v_istore_n [(0, .ref (a 0)), (1, .int (0 : Int32))] [1, 0] C dX10_run_25 rfl (by decide) rfl ?_
    obtain ⟨⟨o_m_26, o_code_26, o_lineParts_26, o_lengths_26, o_fractions_26, o_pulseMany_26, o_times_26, o_energies_26, o_far_26, o_near_26, o_echoes_26, o_left_26, o_dropped_26, o_merged_26, o_drops_26, o_contributions_26, o_packet_26, o_peelResult_26, o_peelTime_26, o_peelSum_26, y1_26⟩, hc, hf⟩ := bd_some hf
    refine Rk_run_26 C ?_ _ _ _ _ _ _ _ _ _ _ _ _ _ _ _ _ _ _ _ _ _ _ hc
    exact Rb_run_50 C hret hf
set_option maxRecDepth 100000 in
set_option maxHeartbeats 4000000 in
theorem Rm_run {D : va_G}  {o_m : Nat → Int64} {o_saved : Nat → Int64} {o_savedCount : Int32} {o_code : Int32} {o_lineParts : Int32} {o_lengths : Nat → Int32} {o_fractions : Nat → Int32} {o_pulseMany : Int32} {o_times : Nat → Int32} {o_energies : Nat → Int64} {o_far : Nat → Int64} {o_near : Nat → Int64} {o_echoes : Nat → Int64} {o_left : Int64} {o_dropped : Int64} {o_merged : Int32} {o_drops : Int32} {o_contributions : Int32} {o_packet : Int64} {o_peelResult : Int32} {o_peelTime : Int32} {o_peelSum : Int32} {o_at : Int32} {o_commands : Int32} {o_draft : Nat → Int32} {r : Int32} (hf : Rf_run c_m c_saved c_savedCount c_script c_scriptLength c_code c_lineParts c_lengths c_fractions c_pulseMany c_times c_energies c_far c_near c_echoes c_left c_dropped c_merged c_drops c_contributions c_packet c_peelResult c_peelTime c_peelSum c_at c_commands c_draft = some (o_m, o_saved, o_savedCount, o_code, o_lineParts, o_lengths, o_fractions, o_pulseMany, o_times, o_energies, o_far, o_near, o_echoes, o_left, o_dropped, o_merged, o_drops, o_contributions, o_packet, o_peelResult, o_peelTime, o_peelSum, o_at, o_commands, o_draft, r)) : MetM G yX10_run cX10_run 2 (some .int) { frames := 9, cells := 0, slots := 0, locals := 209 } D T [.ref (a 0)] (wR a T c_m c_saved c_savedCount c_script c_scriptLength c_code c_lineParts c_lengths c_fractions c_pulseMany c_times c_energies c_far c_near c_echoes c_left c_dropped c_merged c_drops c_contributions c_packet c_peelResult c_peelTime c_peelSum c_at c_commands c_draft c_hash) (some (.int r)) (wR a T o_m o_saved o_savedCount c_script c_scriptLength o_code o_lineParts o_lengths o_fractions o_pulseMany o_times o_energies o_far o_near o_echoes o_left o_dropped o_merged o_drops o_contributions o_packet o_peelResult o_peelTime o_peelSum o_at o_commands o_draft c_hash) :=
  MetM.of [(0, .ref (a 0))] (by decide) (Nat.le_of_ble_eq_true rfl) rfl (fun X C hret => Rb_run C hret hf)
def Rl_undo_37 (c_saved : Nat → Int64) (c_savedCount : Int32) : Nat → (Nat → Int64) → Int32 → Option (Nat → Int64)
  | 0, _, _ => none
  | n + 1, c_m, x1 =>
    if (431 : Int32) ≤ x1 then
      some c_m
    else
      nm ((431 : Int32) * c_savedCount) fun z60 =>
      nm (z60 + x1) fun z62 =>
      chk (inb z62 1293) <| nm (c_saved z62.toNatClampNeg) fun z63 =>
      chk (inb x1 431) <| nm (vp_updL c_m x1.toNatClampNeg z63) fun m_64 =>
      nm (x1 + (1 : Int32)) fun x1_65 =>
      Rl_undo_37 c_saved c_savedCount n m_64 x1_65
set_option maxRecDepth 100000 in
set_option maxHeartbeats 4000000 in
theorem Rk_undo_37 (C : Cx X G T cX10_undo RX10 (some .int) 2 0 0)  {o_m : Nat → Int64} (hk : V X 0 0 (wR a T o_m c_saved c_savedCount c_script c_scriptLength c_code c_lineParts c_lengths c_fractions c_pulseMany c_times c_energies c_far c_near c_echoes c_left c_dropped c_merged c_drops c_contributions c_packet c_peelResult c_peelTime c_peelSum c_at c_commands c_draft c_hash) [(0, .ref (a 0))] 71 []) : ∀ (n : Nat) (c_m : Nat → Int64) (x1 : Int32), Rl_undo_37 c_saved c_savedCount n c_m x1 = some o_m → V X 0 0 (wR a T c_m c_saved c_savedCount c_script c_scriptLength c_code c_lineParts c_lengths c_fractions c_pulseMany c_times c_energies c_far c_near c_echoes c_left c_dropped c_merged c_drops c_contributions c_packet c_peelResult c_peelTime c_peelSum c_at c_commands c_draft c_hash) [(0, .ref (a 0)), (1, .int x1)] 37 [] := by
  intro n
  induction n with
  | zero =>
    intro _ _ hf
    cases hf
  | succ n hrec =>
    intro c_m x1 hf
    rw [Rl_undo_37] at hf
    refine v_iload_n 1 C dX10_undo_37 rfl rfl ?_
    refine v_sipush (v := 431) C dX10_undo_38 (by decide) ?_
    refine v_icmp_ge 71 C dX10_undo_41 (by decide) hf (fun c hf => ?_) (fun c hf => ?_)
    · refine v_lv [(0, .ref (a 0))] [0] rfl ?_
      cases hf
      exact hk
    · refine v_aload_n 0 C dX10_undo_44 rfl rfl ?_
      refine Rg_m C dX10_undo_45 ?_
      refine v_iload_n 1 C dX10_undo_48 rfl rfl ?_
      refine v_aload_n 0 C dX10_undo_49 rfl rfl ?_
      refine Rg_saved C dX10_undo_50 ?_
      refine v_sipush (v := 431) C dX10_undo_53 (by decide) ?_
      refine v_aload_n 0 C dX10_undo_56 rfl rfl ?_
      refine Rg_savedCount C dX10_undo_57 ?_
      refine v_imul C dX10_undo_60 hf (fun z60 hf => ?_)
      refine v_iload_n 1 C dX10_undo_61 rfl rfl ?_
      refine v_iadd C dX10_undo_62 hf (fun z62 hf => ?_)
      refine Ral_saved C dX10_undo_63 hf (fun z63 hf => ?_)
      refine Ras_m C dX10_undo_64 hf (fun m_64 hf => ?_)
      refine v_iinc (fun x1_65 => [(0, .ref (a 0)), (1, .int x1_65)]) [1, 0] C dX10_undo_65 (j := 1) rfl (dv := 1) (by decide) (by decide) (fun _ => rfl) hf (fun x1_65 hf => ?_)
      refine v_goto 37 C dX10_undo_68 (by decide) ?_
      exact hrec _ _ hf
def Rf_undo_13 (c_m : Nat → Int64) (c_saved : Nat → Int64) (c_savedCount : Int32) (c_code : Int32) (s1 : Int32) : Option ((Nat → Int64) × Int32 × Int32 × Int32) :=
  if s1 = 0 then
    nm (c_savedCount - (1 : Int32)) fun z31 =>
    bd (Rl_undo_37 c_saved z31 FUEL c_m (0 : Int32)) fun o_m_37 =>
    some (o_m_37, z31, s1, z31)
  else
    some (c_m, c_savedCount, s1, (0 : Int32))
set_option maxRecDepth 100000 in
set_option maxHeartbeats 4000000 in
theorem Rb_undo_13 (C : Cx X G T cX10_undo RX10 (some .int) 2 0 0) {s1 : Int32} {o_m : Nat → Int64} {o_savedCount : Int32} {o_code : Int32} {r : Int32} (hret : RetOK X 0 0 (some (.int r)) (wR a T o_m c_saved o_savedCount c_script c_scriptLength o_code c_lineParts c_lengths c_fractions c_pulseMany c_times c_energies c_far c_near c_echoes c_left c_dropped c_merged c_drops c_contributions c_packet c_peelResult c_peelTime c_peelSum c_at c_commands c_draft c_hash)) (hf : Rf_undo_13 c_m c_saved c_savedCount c_code s1 = some (o_m, o_savedCount, o_code, r)) : V X 0 0 (wR a T c_m c_saved c_savedCount c_script c_scriptLength c_code c_lineParts c_lengths c_fractions c_pulseMany c_times c_energies c_far c_near c_echoes c_left c_dropped c_merged c_drops c_contributions c_packet c_peelResult c_peelTime c_peelSum c_at c_commands c_draft c_hash) [(0, .ref (a 0))] 13 [.int s1, .ref (a 0)] := by
  unfold Rf_undo_13 at hf
  refine Rp_code C dX10_undo_13 ?_
  refine v_aload_n 0 C dX10_undo_16 rfl rfl ?_
  refine Rg_code C dX10_undo_17 ?_
  refine v_if_eq 25 C dX10_undo_20 (by decide) hf (fun c hf => ?_) (fun c hf => ?_)
  · refine v_aload_n 0 C dX10_undo_25 rfl rfl ?_
    refine v_dup C dX10_undo_26 rfl ?_
    refine Rg_savedCount C dX10_undo_27 ?_
    refine v_iconst (v := 1) C dX10_undo_30 (by decide) ?_
    refine v_isub C dX10_undo_31 hf (fun z31 hf => ?_)
    refine Rp_savedCount C dX10_undo_32 ?_
    refine v_iconst (v := 0) C dX10_undo_35 (by decide) ?_
    refine v_istore_n [(0, .ref (a 0)), (1, .int (0 : Int32))] [1, 0] C dX10_undo_36 rfl (by decide) rfl ?_
    obtain ⟨o_m_37, hc, hf⟩ := bd_some hf
    refine Rk_undo_37 C ?_ _ _ _ hc
    refine v_aload_n 0 C dX10_undo_71 rfl rfl ?_
    refine Rg_savedCount C dX10_undo_72 ?_
    cases hf
    exact v_iret C hret dX10_undo_75
  · refine v_iconst (v := 0) C dX10_undo_23 (by decide) ?_
    cases hf
    exact v_iret C hret dX10_undo_24
def Rf_undo (c_m : Nat → Int64) (c_saved : Nat → Int64) (c_savedCount : Int32) (c_code : Int32) : Option ((Nat → Int64) × Int32 × Int32 × Int32) :=
  if c_savedCount = 0 then
    Rf_undo_13 c_m c_saved c_savedCount c_code (1 : Int32)
  else
    Rf_undo_13 c_m c_saved c_savedCount c_code (0 : Int32)
set_option maxRecDepth 100000 in
set_option maxHeartbeats 4000000 in
theorem Rb_undo (C : Cx X G T cX10_undo RX10 (some .int) 2 0 0)  {o_m : Nat → Int64} {o_savedCount : Int32} {o_code : Int32} {r : Int32} (hret : RetOK X 0 0 (some (.int r)) (wR a T o_m c_saved o_savedCount c_script c_scriptLength o_code c_lineParts c_lengths c_fractions c_pulseMany c_times c_energies c_far c_near c_echoes c_left c_dropped c_merged c_drops c_contributions c_packet c_peelResult c_peelTime c_peelSum c_at c_commands c_draft c_hash)) (hf : Rf_undo c_m c_saved c_savedCount c_code = some (o_m, o_savedCount, o_code, r)) : V X 0 0 (wR a T c_m c_saved c_savedCount c_script c_scriptLength c_code c_lineParts c_lengths c_fractions c_pulseMany c_times c_energies c_far c_near c_echoes c_left c_dropped c_merged c_drops c_contributions c_packet c_peelResult c_peelTime c_peelSum c_at c_commands c_draft c_hash) [(0, .ref (a 0))] 0 [] := by
  unfold Rf_undo at hf
  refine v_aload_n 0 C dX10_undo_0 rfl rfl ?_
  refine v_aload_n 0 C dX10_undo_1 rfl rfl ?_
  refine Rg_savedCount C dX10_undo_2 ?_
  refine v_if_ne 12 C dX10_undo_5 (by decide) hf (fun c hf => ?_) (fun c hf => ?_)
  · refine v_iconst (v := 1) C dX10_undo_8 (by decide) ?_
    refine v_goto 13 C dX10_undo_9 (by decide) ?_
    exact Rb_undo_13 C hret hf
  · refine v_iconst (v := 0) C dX10_undo_12 (by decide) ?_
    exact Rb_undo_13 C hret hf
set_option maxRecDepth 100000 in
set_option maxHeartbeats 4000000 in
theorem Rm_undo {D : va_G}  {o_m : Nat → Int64} {o_savedCount : Int32} {o_code : Int32} {r : Int32} (hf : Rf_undo c_m c_saved c_savedCount c_code = some (o_m, o_savedCount, o_code, r)) : MetM G yX10_undo cX10_undo 2 (some .int) { frames := 0, cells := 0, slots := 0, locals := 0 } D T [.ref (a 0)] (wR a T c_m c_saved c_savedCount c_script c_scriptLength c_code c_lineParts c_lengths c_fractions c_pulseMany c_times c_energies c_far c_near c_echoes c_left c_dropped c_merged c_drops c_contributions c_packet c_peelResult c_peelTime c_peelSum c_at c_commands c_draft c_hash) (some (.int r)) (wR a T o_m c_saved o_savedCount c_script c_scriptLength o_code c_lineParts c_lengths c_fractions c_pulseMany c_times c_energies c_far c_near c_echoes c_left c_dropped c_merged c_drops c_contributions c_packet c_peelResult c_peelTime c_peelSum c_at c_commands c_draft c_hash) :=
  MetM.of [(0, .ref (a 0))] (by decide) (Nat.le_of_ble_eq_true rfl) rfl (fun X C hret => Rb_undo C hret hf)
def Rf_mix (c_hash : Int64) (x1 : Int64) : Option Int64 :=
  nm ((31 : Int64) * c_hash) fun z8 =>
  nm (z8 + x1) fun z10 =>
  some z10
set_option maxRecDepth 100000 in
set_option maxHeartbeats 4000000 in
theorem Rb_mix (C : Cx X G T cX10_mix RX10 none 3 0 0) {x1 : Int64} {o_hash : Int64} (hret : RetOK X 0 0 none (wR a T c_m c_saved c_savedCount c_script c_scriptLength c_code c_lineParts c_lengths c_fractions c_pulseMany c_times c_energies c_far c_near c_echoes c_left c_dropped c_merged c_drops c_contributions c_packet c_peelResult c_peelTime c_peelSum c_at c_commands c_draft o_hash)) (hf : Rf_mix c_hash x1 = some o_hash) : V X 0 0 (wR a T c_m c_saved c_savedCount c_script c_scriptLength c_code c_lineParts c_lengths c_fractions c_pulseMany c_times c_energies c_far c_near c_echoes c_left c_dropped c_merged c_drops c_contributions c_packet c_peelResult c_peelTime c_peelSum c_at c_commands c_draft c_hash) [(0, .ref (a 0)), (1, .long x1)] 0 [] := by
  unfold Rf_mix at hf
  refine v_aload_n 0 C dX10_mix_0 rfl rfl ?_
  refine v_ldc2 (v := 31) C wconstantLong_RX10_322_31 dX10_mix_1 ?_
  refine v_aload_n 0 C dX10_mix_4 rfl rfl ?_
  refine Rg_hash C dX10_mix_5 ?_
  refine v_lmul C dX10_mix_8 hf (fun z8 hf => ?_)
  refine v_lload_n 1 C dX10_mix_9 rfl rfl ?_
  refine v_ladd C dX10_mix_10 hf (fun z10 hf => ?_)
  refine Rp_hash C dX10_mix_11 ?_
  cases hf
  exact v_vret C hret dX10_mix_14
set_option maxRecDepth 100000 in
set_option maxHeartbeats 4000000 in
theorem Rm_mix {D : va_G} {x1 : Int64} {o_hash : Int64} (hf : Rf_mix c_hash x1 = some o_hash) : MetM G yX10_mix cX10_mix 3 none { frames := 0, cells := 0, slots := 0, locals := 0 } D T [.ref (a 0), .long x1] (wR a T c_m c_saved c_savedCount c_script c_scriptLength c_code c_lineParts c_lengths c_fractions c_pulseMany c_times c_energies c_far c_near c_echoes c_left c_dropped c_merged c_drops c_contributions c_packet c_peelResult c_peelTime c_peelSum c_at c_commands c_draft c_hash) none (wR a T c_m c_saved c_savedCount c_script c_scriptLength c_code c_lineParts c_lengths c_fractions c_pulseMany c_times c_energies c_far c_near c_echoes c_left c_dropped c_merged c_drops c_contributions c_packet c_peelResult c_peelTime c_peelSum c_at c_commands c_draft o_hash) :=
  MetM.of [(0, .ref (a 0)), (1, .long x1)] (by decide) (Nat.le_of_ble_eq_true rfl) rfl (fun X C hret => Rb_mix C hret hf)
set_option maxRecDepth 100000 in
theorem Rc_mix {x1 : Int64} {cc : ByteArray} {ret : Option FieldType} {nl fr lo pc : Nat} {lv : List (Nat × Value)} {rest : List Value} {β : Type} {K : Int64 → Option β} {oo : β} (C : Cx X G T cc RX10 ret nl fr lo) (hdg : decode cc pc = .ok (.invokevirtual 327, 3)) (hroom : 0 + 1 ≤ fr ∧ 8 + (3 + 11) + 0 ≤ lo) (hst : (rest.map fun v => v.category).sum ≤ 8) (hf : bd (Rf_mix c_hash x1) K = some oo) (kk : ∀ (o_hash : Int64), K o_hash = some oo → V X 0 0 (wR a T c_m c_saved c_savedCount c_script c_scriptLength c_code c_lineParts c_lengths c_fractions c_pulseMany c_times c_energies c_far c_near c_echoes c_left c_dropped c_merged c_drops c_contributions c_packet c_peelResult c_peelTime c_peelSum c_at c_commands c_draft o_hash) lv (pc + 3) rest) : V X 0 0 (wR a T c_m c_saved c_savedCount c_script c_scriptLength c_code c_lineParts c_lengths c_fractions c_pulseMany c_times c_energies c_far c_near c_echoes c_left c_dropped c_merged c_drops c_contributions c_packet c_peelResult c_peelTime c_peelSum c_at c_commands c_draft c_hash) lv pc (.long x1 :: .ref (a 0) :: rest) := by
  obtain ⟨o_hash, hc, hk⟩ := bd_some hf
  exact v_callV (As := [.long x1]) (rest := rest) (q0 := 0) 1 C (CapOK.z X) (fun D => Rm_mix hc) (goodV wmethodLink_RX10_327_yX10_mix winstanceMethod_yX10_mix wselects_RX10_yX10_mix_yX10_mix winitialized_RX10 wcode_yX10_mix_cX10_mix_3_none) (by decide +kernel) hroom ⟨rfl, rfl⟩ rfl rfl rfl hst hdg (kk o_hash hk)
def Rl_mixEchoes_6 (c_m : Nat → Int64) (c_lineParts : Int32) (c_lengths : Nat → Int32) (c_pulseMany : Int32) (c_times : Nat → Int32) (c_energies : Nat → Int64) (c_far : Nat → Int64) (c_near : Nat → Int64) (c_echoes : Nat → Int64) (c_left : Int64) (c_dropped : Int64) (c_merged : Int32) (c_drops : Int32) : Nat → Int64 → Int32 → Option Int64
  | 0, _, _ => none
  | n + 1, c_hash, x1 =>
    if (9 : Int32) ≤ x1 then
      some c_hash
    else
      bd (Rf_totalOf c_m c_lineParts c_lengths c_pulseMany c_times c_energies c_far c_near c_echoes c_left c_dropped c_merged c_drops x1) fun r15 =>
      bd (Rf_mix c_hash r15) fun hash_18 =>
      nm (x1 + (1 : Int32)) fun x1_21 =>
      Rl_mixEchoes_6 c_m c_lineParts c_lengths c_pulseMany c_times c_energies c_far c_near c_echoes c_left c_dropped c_merged c_drops n hash_18 x1_21
set_option maxRecDepth 100000 in
set_option maxHeartbeats 4000000 in
theorem Rk_mixEchoes_6 (C : Cx X G T cX10_mixEchoes RX10 none 2 5 117)  {o_hash : Int64} (hk : V X 0 0 (wR a T c_m c_saved c_savedCount c_script c_scriptLength c_code c_lineParts c_lengths c_fractions c_pulseMany c_times c_energies c_far c_near c_echoes c_left c_dropped c_merged c_drops c_contributions c_packet c_peelResult c_peelTime c_peelSum c_at c_commands c_draft o_hash) [(0, .ref (a 0))] 27 []) : ∀ (n : Nat) (c_hash : Int64) (x1 : Int32), Rl_mixEchoes_6 c_m c_lineParts c_lengths c_pulseMany c_times c_energies c_far c_near c_echoes c_left c_dropped c_merged c_drops n c_hash x1 = some o_hash → V X 0 0 (wR a T c_m c_saved c_savedCount c_script c_scriptLength c_code c_lineParts c_lengths c_fractions c_pulseMany c_times c_energies c_far c_near c_echoes c_left c_dropped c_merged c_drops c_contributions c_packet c_peelResult c_peelTime c_peelSum c_at c_commands c_draft c_hash) [(0, .ref (a 0)), (1, .int x1)] 6 [] := by
  intro n
  induction n with
  | zero =>
    intro _ _ hf
    cases hf
  | succ n hrec =>
    intro c_hash x1 hf
    rw [Rl_mixEchoes_6] at hf
    refine v_iload_n 1 C dX10_mixEchoes_6 rfl rfl ?_
    refine v_bipush (v := 9) C dX10_mixEchoes_7 (by decide) ?_
    refine v_icmp_ge 27 C dX10_mixEchoes_9 (by decide) hf (fun c hf => ?_) (fun c hf => ?_)
    · refine v_lv [(0, .ref (a 0))] [0] rfl ?_
      cases hf
      exact hk
    · refine v_aload_n 0 C dX10_mixEchoes_12 rfl rfl ?_
      refine v_aload_n 0 C dX10_mixEchoes_13 rfl rfl ?_
      refine v_iload_n 1 C dX10_mixEchoes_14 rfl rfl ?_
      refine Rc_totalOf C dX10_mixEchoes_15 (by decide) (Nat.le_of_ble_eq_true rfl) hf (fun r15 hf => ?_)
      refine Rc_mix C dX10_mixEchoes_18 (by decide) (Nat.le_of_ble_eq_true rfl) hf (fun hash_18 hf => ?_)
      refine v_iinc (fun x1_21 => [(0, .ref (a 0)), (1, .int x1_21)]) [1, 0] C dX10_mixEchoes_21 (j := 1) rfl (dv := 1) (by decide) (by decide) (fun _ => rfl) hf (fun x1_21 hf => ?_)
      refine v_goto 6 C dX10_mixEchoes_24 (by decide) ?_
      exact hrec _ _ hf
def Rl_mixEchoes_64 (c_m : Nat → Int64) (c_pulseMany : Int32) (c_times : Nat → Int32) (c_echoes : Nat → Int64) : Nat → Int64 → Int32 → Option Int64
  | 0, _, _ => none
  | n + 1, c_hash, x1 =>
    if (4 : Int32) ≤ x1 then
      some c_hash
    else
      bd (Rf_faultOf c_m c_pulseMany c_times c_echoes x1) fun r72 =>
      nm (r72.toInt64) fun z75 =>
      bd (Rf_mix c_hash z75) fun hash_76 =>
      nm (x1 + (1 : Int32)) fun x1_79 =>
      Rl_mixEchoes_64 c_m c_pulseMany c_times c_echoes n hash_76 x1_79
set_option maxRecDepth 100000 in
set_option maxHeartbeats 4000000 in
theorem Rk_mixEchoes_64 (C : Cx X G T cX10_mixEchoes RX10 none 2 5 117)  {o_hash : Int64} (hk : V X 0 0 (wR a T c_m c_saved c_savedCount c_script c_scriptLength c_code c_lineParts c_lengths c_fractions c_pulseMany c_times c_energies c_far c_near c_echoes c_left c_dropped c_merged c_drops c_contributions c_packet c_peelResult c_peelTime c_peelSum c_at c_commands c_draft o_hash) [] 85 []) : ∀ (n : Nat) (c_hash : Int64) (x1 : Int32), Rl_mixEchoes_64 c_m c_pulseMany c_times c_echoes n c_hash x1 = some o_hash → V X 0 0 (wR a T c_m c_saved c_savedCount c_script c_scriptLength c_code c_lineParts c_lengths c_fractions c_pulseMany c_times c_energies c_far c_near c_echoes c_left c_dropped c_merged c_drops c_contributions c_packet c_peelResult c_peelTime c_peelSum c_at c_commands c_draft c_hash) [(0, .ref (a 0)), (1, .int x1)] 64 [] := by
  intro n
  induction n with
  | zero =>
    intro _ _ hf
    cases hf
  | succ n hrec =>
    intro c_hash x1 hf
    rw [Rl_mixEchoes_64] at hf
    refine v_iload_n 1 C dX10_mixEchoes_64 rfl rfl ?_
    refine v_iconst (v := 4) C dX10_mixEchoes_65 (by decide) ?_
    refine v_icmp_ge 85 C dX10_mixEchoes_66 (by decide) hf (fun c hf => ?_) (fun c hf => ?_)
    · refine v_lv [] [] rfl ?_
      cases hf
      exact hk
    · refine v_aload_n 0 C dX10_mixEchoes_69 rfl rfl ?_
      refine v_aload_n 0 C dX10_mixEchoes_70 rfl rfl ?_
      refine v_iload_n 1 C dX10_mixEchoes_71 rfl rfl ?_
      refine Rc_faultOf C dX10_mixEchoes_72 (by decide) (Nat.le_of_ble_eq_true rfl) hf (fun r72 hf => ?_)
      refine v_i2l C dX10_mixEchoes_75 hf (fun z75 hf => ?_)
      refine Rc_mix C dX10_mixEchoes_76 (by decide) (Nat.le_of_ble_eq_true rfl) hf (fun hash_76 hf => ?_)
      refine v_iinc (fun x1_79 => [(0, .ref (a 0)), (1, .int x1_79)]) [1, 0] C dX10_mixEchoes_79 (j := 1) rfl (dv := 1) (by decide) (by decide) (fun _ => rfl) hf (fun x1_79 hf => ?_)
      refine v_goto 64 C dX10_mixEchoes_82 (by decide) ?_
      exact hrec _ _ hf
def Rl_mixEchoes_29 (c_m : Nat → Int64) (c_echoes : Nat → Int64) : Nat → Int64 → Int32 → Option Int64
  | 0, _, _ => none
  | n + 1, c_hash, x1 =>
    bd (Rf_window c_m) fun r31 =>
    if r31 < x1 then
      some c_hash
    else
      chk (inb x1 201) <| nm (c_echoes x1.toNatClampNeg) fun z43 =>
      bd (Rf_mix c_hash z43) fun hash_44 =>
      nm (x1 + (1 : Int32)) fun x1_47 =>
      Rl_mixEchoes_29 c_m c_echoes n hash_44 x1_47
set_option maxRecDepth 100000 in
set_option maxHeartbeats 4000000 in
theorem Rk_mixEchoes_29 (C : Cx X G T cX10_mixEchoes RX10 none 2 5 117)  {o_hash : Int64} (hk : V X 0 0 (wR a T c_m c_saved c_savedCount c_script c_scriptLength c_code c_lineParts c_lengths c_fractions c_pulseMany c_times c_energies c_far c_near c_echoes c_left c_dropped c_merged c_drops c_contributions c_packet c_peelResult c_peelTime c_peelSum c_at c_commands c_draft o_hash) [(0, .ref (a 0))] 53 []) : ∀ (n : Nat) (c_hash : Int64) (x1 : Int32), Rl_mixEchoes_29 c_m c_echoes n c_hash x1 = some o_hash → V X 0 0 (wR a T c_m c_saved c_savedCount c_script c_scriptLength c_code c_lineParts c_lengths c_fractions c_pulseMany c_times c_energies c_far c_near c_echoes c_left c_dropped c_merged c_drops c_contributions c_packet c_peelResult c_peelTime c_peelSum c_at c_commands c_draft c_hash) [(0, .ref (a 0)), (1, .int x1)] 29 [] := by
  intro n
  induction n with
  | zero =>
    intro _ _ hf
    cases hf
  | succ n hrec =>
    intro c_hash x1 hf
    rw [Rl_mixEchoes_29] at hf
    refine v_iload_n 1 C dX10_mixEchoes_29 rfl rfl ?_
    refine v_aload_n 0 C dX10_mixEchoes_30 rfl rfl ?_
    refine Rc_window C dX10_mixEchoes_31 (by decide) (Nat.le_of_ble_eq_true rfl) hf (fun r31 hf => ?_)
    refine v_icmp_gt 53 C dX10_mixEchoes_34 (by decide) hf (fun c hf => ?_) (fun c hf => ?_)
    · refine v_lv [(0, .ref (a 0))] [0] rfl ?_
      cases hf
      exact hk
    · refine v_aload_n 0 C dX10_mixEchoes_37 rfl rfl ?_
      refine v_aload_n 0 C dX10_mixEchoes_38 rfl rfl ?_
      refine Rg_echoes C dX10_mixEchoes_39 ?_
      refine v_iload_n 1 C dX10_mixEchoes_42 rfl rfl ?_
      refine Ral_echoes C dX10_mixEchoes_43 hf (fun z43 hf => ?_)
      refine Rc_mix C dX10_mixEchoes_44 (by decide) (Nat.le_of_ble_eq_true rfl) hf (fun hash_44 hf => ?_)
      refine v_iinc (fun x1_47 => [(0, .ref (a 0)), (1, .int x1_47)]) [1, 0] C dX10_mixEchoes_47 (j := 1) rfl (dv := 1) (by decide) (by decide) (fun _ => rfl) hf (fun x1_47 hf => ?_)
      refine v_goto 29 C dX10_mixEchoes_50 (by decide) ?_
      exact hrec _ _ hf
def Rf_mixEchoes (c_m : Nat → Int64) (c_lineParts : Int32) (c_lengths : Nat → Int32) (c_fractions : Nat → Int32) (c_pulseMany : Int32) (c_times : Nat → Int32) (c_energies : Nat → Int64) (c_far : Nat → Int64) (c_near : Nat → Int64) (c_echoes : Nat → Int64) (c_left : Int64) (c_dropped : Int64) (c_merged : Int32) (c_drops : Int32) (c_contributions : Int32) (c_packet : Int64) (c_hash : Int64) : Option (Int32 × (Nat → Int32) × (Nat → Int32) × Int32 × (Nat → Int32) × (Nat → Int64) × (Nat → Int64) × (Nat → Int64) × (Nat → Int64) × Int64 × Int64 × Int32 × Int32 × Int32 × Int64 × Int64) :=
  bd (Rf_runPresent c_m c_lineParts c_lengths c_fractions c_pulseMany c_times c_energies c_far c_near c_echoes c_left c_dropped c_merged c_drops c_contributions c_packet) fun (lineParts_1, lengths_1, fractions_1, pulseMany_1, times_1, energies_1, far_1, near_1, echoes_1, left_1, dropped_1, merged_1, drops_1, contributions_1, packet_1) =>
  bd (Rl_mixEchoes_6 c_m lineParts_1 lengths_1 pulseMany_1 times_1 energies_1 far_1 near_1 echoes_1 left_1 dropped_1 merged_1 drops_1 FUEL c_hash (0 : Int32)) fun o_hash_6 =>
  bd (Rl_mixEchoes_29 c_m echoes_1 FUEL o_hash_6 (0 : Int32)) fun o_hash_29 =>
  bd (Rf_differencesNow c_m echoes_1) fun r55 =>
  nm (r55.toInt64) fun z58 =>
  bd (Rf_mix o_hash_29 z58) fun hash_59 =>
  bd (Rl_mixEchoes_64 c_m pulseMany_1 times_1 echoes_1 FUEL hash_59 (0 : Int32)) fun o_hash_64 =>
  some (lineParts_1, lengths_1, fractions_1, pulseMany_1, times_1, energies_1, far_1, near_1, echoes_1, left_1, dropped_1, merged_1, drops_1, contributions_1, packet_1, o_hash_64)
set_option maxRecDepth 100000 in
set_option maxHeartbeats 4000000 in
theorem Rb_mixEchoes (C : Cx X G T cX10_mixEchoes RX10 none 2 5 117)  {o_lineParts : Int32} {o_lengths : Nat → Int32} {o_fractions : Nat → Int32} {o_pulseMany : Int32} {o_times : Nat → Int32} {o_energies : Nat → Int64} {o_far : Nat → Int64} {o_near : Nat → Int64} {o_echoes : Nat → Int64} {o_left : Int64} {o_dropped : Int64} {o_merged : Int32} {o_drops : Int32} {o_contributions : Int32} {o_packet : Int64} {o_hash : Int64} (hret : RetOK X 0 0 none (wR a T c_m c_saved c_savedCount c_script c_scriptLength c_code o_lineParts o_lengths o_fractions o_pulseMany o_times o_energies o_far o_near o_echoes o_left o_dropped o_merged o_drops o_contributions o_packet c_peelResult c_peelTime c_peelSum c_at c_commands c_draft o_hash)) (hf : Rf_mixEchoes c_m c_lineParts c_lengths c_fractions c_pulseMany c_times c_energies c_far c_near c_echoes c_left c_dropped c_merged c_drops c_contributions c_packet c_hash = some (o_lineParts, o_lengths, o_fractions, o_pulseMany, o_times, o_energies, o_far, o_near, o_echoes, o_left, o_dropped, o_merged, o_drops, o_contributions, o_packet, o_hash)) : V X 0 0 (wR a T c_m c_saved c_savedCount c_script c_scriptLength c_code c_lineParts c_lengths c_fractions c_pulseMany c_times c_energies c_far c_near c_echoes c_left c_dropped c_merged c_drops c_contributions c_packet c_peelResult c_peelTime c_peelSum c_at c_commands c_draft c_hash) [(0, .ref (a 0))] 0 [] := by
  unfold Rf_mixEchoes at hf
  refine v_aload_n 0 C dX10_mixEchoes_0 rfl rfl ?_
  refine Rc_runPresent C dX10_mixEchoes_1 (by decide) (Nat.le_of_ble_eq_true rfl) hf (fun lineParts_1 lengths_1 fractions_1 pulseMany_1 times_1 energies_1 far_1 near_1 echoes_1 left_1 dropped_1 merged_1 drops_1 contributions_1 packet_1 hf => ?_)
  refine v_iconst (v := 0) C dX10_mixEchoes_4 (by decide) ?_
  refine v_istore_n [(0, .ref (a 0)), (1, .int (0 : Int32))] [1, 0] C dX10_mixEchoes_5 rfl (by decide) rfl ?_
  obtain ⟨o_hash_6, hc, hf⟩ := bd_some hf
  refine Rk_mixEchoes_6 C ?_ _ _ _ hc
  refine v_iconst (v := 0) C dX10_mixEchoes_27 (by decide) ?_
  refine v_istore_n [(0, .ref (a 0)), (1, .int (0 : Int32))] [1, 0] C dX10_mixEchoes_28 rfl (by decide) rfl ?_
  obtain ⟨o_hash_29, hc, hf⟩ := bd_some hf
  refine Rk_mixEchoes_29 C ?_ _ _ _ hc
  refine v_aload_n 0 C dX10_mixEchoes_53 rfl rfl ?_
  refine v_aload_n 0 C dX10_mixEchoes_54 rfl rfl ?_
  refine Rc_differencesNow C dX10_mixEchoes_55 (by decide) (Nat.le_of_ble_eq_true rfl) hf (fun r55 hf => ?_)
  refine v_i2l C dX10_mixEchoes_58 hf (fun z58 hf => ?_)
  refine Rc_mix C dX10_mixEchoes_59 (by decide) (Nat.le_of_ble_eq_true rfl) hf (fun hash_59 hf => ?_)
  refine v_iconst (v := 0) C dX10_mixEchoes_62 (by decide) ?_
  refine v_istore_n [(0, .ref (a 0)), (1, .int (0 : Int32))] [1, 0] C dX10_mixEchoes_63 rfl (by decide) rfl ?_
  obtain ⟨o_hash_64, hc, hf⟩ := bd_some hf
  refine Rk_mixEchoes_64 C ?_ _ _ _ hc
  cases hf
  exact v_vret C hret dX10_mixEchoes_85
set_option maxRecDepth 100000 in
set_option maxHeartbeats 4000000 in
theorem Rm_mixEchoes {D : va_G}  {o_lineParts : Int32} {o_lengths : Nat → Int32} {o_fractions : Nat → Int32} {o_pulseMany : Int32} {o_times : Nat → Int32} {o_energies : Nat → Int64} {o_far : Nat → Int64} {o_near : Nat → Int64} {o_echoes : Nat → Int64} {o_left : Int64} {o_dropped : Int64} {o_merged : Int32} {o_drops : Int32} {o_contributions : Int32} {o_packet : Int64} {o_hash : Int64} (hf : Rf_mixEchoes c_m c_lineParts c_lengths c_fractions c_pulseMany c_times c_energies c_far c_near c_echoes c_left c_dropped c_merged c_drops c_contributions c_packet c_hash = some (o_lineParts, o_lengths, o_fractions, o_pulseMany, o_times, o_energies, o_far, o_near, o_echoes, o_left, o_dropped, o_merged, o_drops, o_contributions, o_packet, o_hash)) : MetM G yX10_mixEchoes cX10_mixEchoes 2 none { frames := 5, cells := 0, slots := 0, locals := 117 } D T [.ref (a 0)] (wR a T c_m c_saved c_savedCount c_script c_scriptLength c_code c_lineParts c_lengths c_fractions c_pulseMany c_times c_energies c_far c_near c_echoes c_left c_dropped c_merged c_drops c_contributions c_packet c_peelResult c_peelTime c_peelSum c_at c_commands c_draft c_hash) none (wR a T c_m c_saved c_savedCount c_script c_scriptLength c_code o_lineParts o_lengths o_fractions o_pulseMany o_times o_energies o_far o_near o_echoes o_left o_dropped o_merged o_drops o_contributions o_packet c_peelResult c_peelTime c_peelSum c_at c_commands c_draft o_hash) :=
  MetM.of [(0, .ref (a 0))] (by decide) (Nat.le_of_ble_eq_true rfl) rfl (fun X C hret => Rb_mixEchoes C hret hf)
set_option maxRecDepth 100000 in
theorem Rc_mixEchoes  {cc : ByteArray} {ret : Option FieldType} {nl fr lo pc : Nat} {lv : List (Nat × Value)} {rest : List Value} {β : Type} {K : (Int32 × (Nat → Int32) × (Nat → Int32) × Int32 × (Nat → Int32) × (Nat → Int64) × (Nat → Int64) × (Nat → Int64) × (Nat → Int64) × Int64 × Int64 × Int32 × Int32 × Int32 × Int64 × Int64) → Option β} {oo : β} (C : Cx X G T cc RX10 ret nl fr lo) (hdg : decode cc pc = .ok (.invokevirtual 332, 3)) (hroom : 5 + 1 ≤ fr ∧ 8 + (2 + 11) + 117 ≤ lo) (hst : (rest.map fun v => v.category).sum ≤ 8) (hf : bd (Rf_mixEchoes c_m c_lineParts c_lengths c_fractions c_pulseMany c_times c_energies c_far c_near c_echoes c_left c_dropped c_merged c_drops c_contributions c_packet c_hash) K = some oo) (kk : ∀ (o_lineParts : Int32) (o_lengths : Nat → Int32) (o_fractions : Nat → Int32) (o_pulseMany : Int32) (o_times : Nat → Int32) (o_energies : Nat → Int64) (o_far : Nat → Int64) (o_near : Nat → Int64) (o_echoes : Nat → Int64) (o_left : Int64) (o_dropped : Int64) (o_merged : Int32) (o_drops : Int32) (o_contributions : Int32) (o_packet : Int64) (o_hash : Int64), K (o_lineParts, o_lengths, o_fractions, o_pulseMany, o_times, o_energies, o_far, o_near, o_echoes, o_left, o_dropped, o_merged, o_drops, o_contributions, o_packet, o_hash) = some oo → V X 0 0 (wR a T c_m c_saved c_savedCount c_script c_scriptLength c_code o_lineParts o_lengths o_fractions o_pulseMany o_times o_energies o_far o_near o_echoes o_left o_dropped o_merged o_drops o_contributions o_packet c_peelResult c_peelTime c_peelSum c_at c_commands c_draft o_hash) lv (pc + 3) rest) : V X 0 0 (wR a T c_m c_saved c_savedCount c_script c_scriptLength c_code c_lineParts c_lengths c_fractions c_pulseMany c_times c_energies c_far c_near c_echoes c_left c_dropped c_merged c_drops c_contributions c_packet c_peelResult c_peelTime c_peelSum c_at c_commands c_draft c_hash) lv pc (.ref (a 0) :: rest) := by
  obtain ⟨⟨o_lineParts, o_lengths, o_fractions, o_pulseMany, o_times, o_energies, o_far, o_near, o_echoes, o_left, o_dropped, o_merged, o_drops, o_contributions, o_packet, o_hash⟩, hc, hk⟩ := bd_some hf
  exact v_callV (As := []) (rest := rest) (q0 := 0) 0 C (CapOK.z X) (fun D => Rm_mixEchoes hc) (goodV wmethodLink_RX10_332_yX10_mixEchoes winstanceMethod_yX10_mixEchoes wselects_RX10_yX10_mixEchoes_yX10_mixEchoes winitialized_RX10 wcode_yX10_mixEchoes_cX10_mixEchoes_2_none) (by decide +kernel) hroom ⟨rfl, rfl⟩ rfl rfl rfl hst hdg (kk o_lineParts o_lengths o_fractions o_pulseMany o_times o_energies o_far o_near o_echoes o_left o_dropped o_merged o_drops o_contributions o_packet o_hash hk)
def Rl_digest_32 (c_m : Nat → Int64) : Nat → Int64 → Int32 → Option Int64
  | 0, _, _ => none
  | n + 1, c_hash, x1 =>
    if (6 : Int32) ≤ x1 then
      some c_hash
    else
      bd (Rf_benchOf c_m x1) fun r41 =>
      nm (r41.toInt64) fun z44 =>
      bd (Rf_mix c_hash z44) fun hash_45 =>
      nm (x1 + (1 : Int32)) fun x1_48 =>
      Rl_digest_32 c_m n hash_45 x1_48
set_option maxRecDepth 100000 in
set_option maxHeartbeats 4000000 in
theorem Rk_digest_32 (C : Cx X G T cX10_digest RX10 (some .long) 2 7 163)  {o_hash : Int64} (hk : V X 0 0 (wR a T c_m c_saved c_savedCount c_script c_scriptLength c_code c_lineParts c_lengths c_fractions c_pulseMany c_times c_energies c_far c_near c_echoes c_left c_dropped c_merged c_drops c_contributions c_packet c_peelResult c_peelTime c_peelSum c_at c_commands c_draft o_hash) [(0, .ref (a 0))] 54 []) : ∀ (n : Nat) (c_hash : Int64) (x1 : Int32), Rl_digest_32 c_m n c_hash x1 = some o_hash → V X 0 0 (wR a T c_m c_saved c_savedCount c_script c_scriptLength c_code c_lineParts c_lengths c_fractions c_pulseMany c_times c_energies c_far c_near c_echoes c_left c_dropped c_merged c_drops c_contributions c_packet c_peelResult c_peelTime c_peelSum c_at c_commands c_draft c_hash) [(0, .ref (a 0)), (1, .int x1)] 32 [] := by
  intro n
  induction n with
  | zero =>
    intro _ _ hf
    cases hf
  | succ n hrec =>
    intro c_hash x1 hf
    rw [Rl_digest_32] at hf
    refine v_iload_n 1 C dX10_digest_32 rfl rfl ?_
    refine v_bipush (v := 6) C dX10_digest_33 (by decide) ?_
    refine v_icmp_ge 54 C dX10_digest_35 (by decide) hf (fun c hf => ?_) (fun c hf => ?_)
    · refine v_lv [(0, .ref (a 0))] [0] rfl ?_
      cases hf
      exact hk
    · refine v_aload_n 0 C dX10_digest_38 rfl rfl ?_
      refine v_aload_n 0 C dX10_digest_39 rfl rfl ?_
      refine v_iload_n 1 C dX10_digest_40 rfl rfl ?_
      refine Rc_benchOf C dX10_digest_41 (by decide) (Nat.le_of_ble_eq_true rfl) hf (fun r41 hf => ?_)
      refine v_i2l C dX10_digest_44 hf (fun z44 hf => ?_)
      refine Rc_mix C dX10_digest_45 (by decide) (Nat.le_of_ble_eq_true rfl) hf (fun hash_45 hf => ?_)
      refine v_iinc (fun x1_48 => [(0, .ref (a 0)), (1, .int x1_48)]) [1, 0] C dX10_digest_48 (j := 1) rfl (dv := 1) (by decide) (by decide) (fun _ => rfl) hf (fun x1_48 hf => ?_)
      refine v_goto 32 C dX10_digest_51 (by decide) ?_
      exact hrec _ _ hf
def Rl_digest_172 (c_lineParts : Int32) (c_peelResult : Int32) (c_peelTime : Int32) (c_peelSum : Int32) : Nat → Int64 → Int32 → Option Int64
  | 0, _, _ => none
  | n + 1, c_hash, x1 =>
    if (4 : Int32) ≤ x1 then
      some c_hash
    else
      bd (Rf_peelOf c_lineParts c_peelResult c_peelTime c_peelSum x1) fun r180 =>
      nm (r180.toInt64) fun z183 =>
      bd (Rf_mix c_hash z183) fun hash_184 =>
      nm (x1 + (1 : Int32)) fun x1_187 =>
      Rl_digest_172 c_lineParts c_peelResult c_peelTime c_peelSum n hash_184 x1_187
set_option maxRecDepth 100000 in
set_option maxHeartbeats 4000000 in
theorem Rk_digest_172 (C : Cx X G T cX10_digest RX10 (some .long) 2 7 163)  {o_hash : Int64} (hk : V X 0 0 (wR a T c_m c_saved c_savedCount c_script c_scriptLength c_code c_lineParts c_lengths c_fractions c_pulseMany c_times c_energies c_far c_near c_echoes c_left c_dropped c_merged c_drops c_contributions c_packet c_peelResult c_peelTime c_peelSum c_at c_commands c_draft o_hash) [(0, .ref (a 0))] 193 []) : ∀ (n : Nat) (c_hash : Int64) (x1 : Int32), Rl_digest_172 c_lineParts c_peelResult c_peelTime c_peelSum n c_hash x1 = some o_hash → V X 0 0 (wR a T c_m c_saved c_savedCount c_script c_scriptLength c_code c_lineParts c_lengths c_fractions c_pulseMany c_times c_energies c_far c_near c_echoes c_left c_dropped c_merged c_drops c_contributions c_packet c_peelResult c_peelTime c_peelSum c_at c_commands c_draft c_hash) [(0, .ref (a 0)), (1, .int x1)] 172 [] := by
  intro n
  induction n with
  | zero =>
    intro _ _ hf
    cases hf
  | succ n hrec =>
    intro c_hash x1 hf
    rw [Rl_digest_172] at hf
    refine v_iload_n 1 C dX10_digest_172 rfl rfl ?_
    refine v_iconst (v := 4) C dX10_digest_173 (by decide) ?_
    refine v_icmp_ge 193 C dX10_digest_174 (by decide) hf (fun c hf => ?_) (fun c hf => ?_)
    · refine v_lv [(0, .ref (a 0))] [0] rfl ?_
      cases hf
      exact hk
    · refine v_aload_n 0 C dX10_digest_177 rfl rfl ?_
      refine v_aload_n 0 C dX10_digest_178 rfl rfl ?_
      refine v_iload_n 1 C dX10_digest_179 rfl rfl ?_
      refine Rc_peelOf C dX10_digest_180 (by decide) (Nat.le_of_ble_eq_true rfl) hf (fun r180 hf => ?_)
      refine v_i2l C dX10_digest_183 hf (fun z183 hf => ?_)
      refine Rc_mix C dX10_digest_184 (by decide) (Nat.le_of_ble_eq_true rfl) hf (fun hash_184 hf => ?_)
      refine v_iinc (fun x1_187 => [(0, .ref (a 0)), (1, .int x1_187)]) [1, 0] C dX10_digest_187 (j := 1) rfl (dv := 1) (by decide) (by decide) (fun _ => rfl) hf (fun x1_187 hf => ?_)
      refine v_goto 172 C dX10_digest_190 (by decide) ?_
      exact hrec _ _ hf
def Rl_digest_139 (c_m : Nat → Int64) : Nat → Int64 → Int32 → Option Int64
  | 0, _, _ => none
  | n + 1, c_hash, x1 =>
    if (201 : Int32) ≤ x1 then
      some c_hash
    else
      nm ((230 : Int32) + x1) fun z155 =>
      chk (inb z155 431) <| nm (c_m z155.toNatClampNeg) fun z156 =>
      bd (Rf_mix c_hash z156) fun hash_157 =>
      nm (x1 + (1 : Int32)) fun x1_160 =>
      Rl_digest_139 c_m n hash_157 x1_160
set_option maxRecDepth 100000 in
set_option maxHeartbeats 4000000 in
theorem Rk_digest_139 (C : Cx X G T cX10_digest RX10 (some .long) 2 7 163)  {o_hash : Int64} (hk : V X 0 0 (wR a T c_m c_saved c_savedCount c_script c_scriptLength c_code c_lineParts c_lengths c_fractions c_pulseMany c_times c_energies c_far c_near c_echoes c_left c_dropped c_merged c_drops c_contributions c_packet c_peelResult c_peelTime c_peelSum c_at c_commands c_draft o_hash) [(0, .ref (a 0))] 166 []) : ∀ (n : Nat) (c_hash : Int64) (x1 : Int32), Rl_digest_139 c_m n c_hash x1 = some o_hash → V X 0 0 (wR a T c_m c_saved c_savedCount c_script c_scriptLength c_code c_lineParts c_lengths c_fractions c_pulseMany c_times c_energies c_far c_near c_echoes c_left c_dropped c_merged c_drops c_contributions c_packet c_peelResult c_peelTime c_peelSum c_at c_commands c_draft c_hash) [(0, .ref (a 0)), (1, .int x1)] 139 [] := by
  intro n
  induction n with
  | zero =>
    intro _ _ hf
    cases hf
  | succ n hrec =>
    intro c_hash x1 hf
    rw [Rl_digest_139] at hf
    refine v_iload_n 1 C dX10_digest_139 rfl rfl ?_
    refine v_sipush (v := 201) C dX10_digest_140 (by decide) ?_
    refine v_icmp_ge 166 C dX10_digest_143 (by decide) hf (fun c hf => ?_) (fun c hf => ?_)
    · refine v_lv [(0, .ref (a 0))] [0] rfl ?_
      cases hf
      exact hk
    · refine v_aload_n 0 C dX10_digest_146 rfl rfl ?_
      refine v_aload_n 0 C dX10_digest_147 rfl rfl ?_
      refine Rg_m C dX10_digest_148 ?_
      refine v_sipush (v := 230) C dX10_digest_151 (by decide) ?_
      refine v_iload_n 1 C dX10_digest_154 rfl rfl ?_
      refine v_iadd C dX10_digest_155 hf (fun z155 hf => ?_)
      refine Ral_m C dX10_digest_156 hf (fun z156 hf => ?_)
      refine Rc_mix C dX10_digest_157 (by decide) (Nat.le_of_ble_eq_true rfl) hf (fun hash_157 hf => ?_)
      refine v_iinc (fun x1_160 => [(0, .ref (a 0)), (1, .int x1_160)]) [1, 0] C dX10_digest_160 (j := 1) rfl (dv := 1) (by decide) (by decide) (fun _ => rfl) hf (fun x1_160 hf => ?_)
      refine v_goto 139 C dX10_digest_163 (by decide) ?_
      exact hrec _ _ hf
def Rl_digest_97 (c_m : Nat → Int64) : Nat → Int64 → Int32 → Option Int64
  | 0, _, _ => none
  | n + 1, c_hash, x1 =>
    nm (x1.toInt64) fun z98 =>
    chk (inb (20 : Int32) 431) <| nm (c_m (20 : Int32).toNatClampNeg) fun z108 =>
    nm ((2 : Int64) * z108) fun z109 =>
    if z109 ≤ z98 then
      some c_hash
    else
      nm ((21 : Int32) + x1) fun z122 =>
      chk (inb z122 431) <| nm (c_m z122.toNatClampNeg) fun z123 =>
      bd (Rf_mix c_hash z123) fun hash_124 =>
      nm (x1 + (1 : Int32)) fun x1_127 =>
      Rl_digest_97 c_m n hash_124 x1_127
set_option maxRecDepth 100000 in
set_option maxHeartbeats 4000000 in
theorem Rk_digest_97 (C : Cx X G T cX10_digest RX10 (some .long) 2 7 163)  {o_hash : Int64} (hk : V X 0 0 (wR a T c_m c_saved c_savedCount c_script c_scriptLength c_code c_lineParts c_lengths c_fractions c_pulseMany c_times c_energies c_far c_near c_echoes c_left c_dropped c_merged c_drops c_contributions c_packet c_peelResult c_peelTime c_peelSum c_at c_commands c_draft o_hash) [(0, .ref (a 0))] 133 []) : ∀ (n : Nat) (c_hash : Int64) (x1 : Int32), Rl_digest_97 c_m n c_hash x1 = some o_hash → V X 0 0 (wR a T c_m c_saved c_savedCount c_script c_scriptLength c_code c_lineParts c_lengths c_fractions c_pulseMany c_times c_energies c_far c_near c_echoes c_left c_dropped c_merged c_drops c_contributions c_packet c_peelResult c_peelTime c_peelSum c_at c_commands c_draft c_hash) [(0, .ref (a 0)), (1, .int x1)] 97 [] := by
  intro n
  induction n with
  | zero =>
    intro _ _ hf
    cases hf
  | succ n hrec =>
    intro c_hash x1 hf
    rw [Rl_digest_97] at hf
    refine v_iload_n 1 C dX10_digest_97 rfl rfl ?_
    refine v_i2l C dX10_digest_98 hf (fun z98 hf => ?_)
    refine v_ldc2 (v := 2) C wconstantLong_RX10_183_2 dX10_digest_99 ?_
    refine v_aload_n 0 C dX10_digest_102 rfl rfl ?_
    refine Rg_m C dX10_digest_103 ?_
    refine v_bipush (v := 20) C dX10_digest_106 (by decide) ?_
    refine Ral_m C dX10_digest_108 hf (fun z108 hf => ?_)
    refine v_lmul C dX10_digest_109 hf (fun z109 hf => ?_)
    refine v_lcmp_ge 133 C dX10_digest_110 dX10_digest_111 (by decide) hf (fun c hf => ?_) (fun c hf => ?_)
    · refine v_lv [(0, .ref (a 0))] [0] rfl ?_
      cases hf
      exact hk
    · refine v_aload_n 0 C dX10_digest_114 rfl rfl ?_
      refine v_aload_n 0 C dX10_digest_115 rfl rfl ?_
      refine Rg_m C dX10_digest_116 ?_
      refine v_bipush (v := 21) C dX10_digest_119 (by decide) ?_
      refine v_iload_n 1 C dX10_digest_121 rfl rfl ?_
      refine v_iadd C dX10_digest_122 hf (fun z122 hf => ?_)
      refine Ral_m C dX10_digest_123 hf (fun z123 hf => ?_)
      refine Rc_mix C dX10_digest_124 (by decide) (Nat.le_of_ble_eq_true rfl) hf (fun hash_124 hf => ?_)
      refine v_iinc (fun x1_127 => [(0, .ref (a 0)), (1, .int x1_127)]) [1, 0] C dX10_digest_127 (j := 1) rfl (dv := 1) (by decide) (by decide) (fun _ => rfl) hf (fun x1_127 hf => ?_)
      refine v_goto 97 C dX10_digest_130 (by decide) ?_
      exact hrec _ _ hf
def Rl_digest_56 (c_m : Nat → Int64) : Nat → Int64 → Int32 → Option Int64
  | 0, _, _ => none
  | n + 1, c_hash, x1 =>
    bd (Rf_parts c_m) fun r58 =>
    if r58 ≤ x1 then
      some c_hash
    else
      nm ((1 : Int32) + x1) fun z71 =>
      chk (inb z71 431) <| nm (c_m z71.toNatClampNeg) fun z72 =>
      bd (Rf_mix c_hash z72) fun hash_73 =>
      nm ((9 : Int32) + x1) fun z84 =>
      chk (inb z84 431) <| nm (c_m z84.toNatClampNeg) fun z85 =>
      bd (Rf_mix hash_73 z85) fun hash_86 =>
      nm (x1 + (1 : Int32)) fun x1_89 =>
      Rl_digest_56 c_m n hash_86 x1_89
set_option maxRecDepth 100000 in
set_option maxHeartbeats 4000000 in
theorem Rk_digest_56 (C : Cx X G T cX10_digest RX10 (some .long) 2 7 163)  {o_hash : Int64} (hk : V X 0 0 (wR a T c_m c_saved c_savedCount c_script c_scriptLength c_code c_lineParts c_lengths c_fractions c_pulseMany c_times c_energies c_far c_near c_echoes c_left c_dropped c_merged c_drops c_contributions c_packet c_peelResult c_peelTime c_peelSum c_at c_commands c_draft o_hash) [(0, .ref (a 0))] 95 []) : ∀ (n : Nat) (c_hash : Int64) (x1 : Int32), Rl_digest_56 c_m n c_hash x1 = some o_hash → V X 0 0 (wR a T c_m c_saved c_savedCount c_script c_scriptLength c_code c_lineParts c_lengths c_fractions c_pulseMany c_times c_energies c_far c_near c_echoes c_left c_dropped c_merged c_drops c_contributions c_packet c_peelResult c_peelTime c_peelSum c_at c_commands c_draft c_hash) [(0, .ref (a 0)), (1, .int x1)] 56 [] := by
  intro n
  induction n with
  | zero =>
    intro _ _ hf
    cases hf
  | succ n hrec =>
    intro c_hash x1 hf
    rw [Rl_digest_56] at hf
    refine v_iload_n 1 C dX10_digest_56 rfl rfl ?_
    refine v_aload_n 0 C dX10_digest_57 rfl rfl ?_
    refine Rc_parts C dX10_digest_58 (by decide) (Nat.le_of_ble_eq_true rfl) hf (fun r58 hf => ?_)
    refine v_icmp_ge 95 C dX10_digest_61 (by decide) hf (fun c hf => ?_) (fun c hf => ?_)
    · refine v_lv [(0, .ref (a 0))] [0] rfl ?_
      cases hf
      exact hk
    · refine v_aload_n 0 C dX10_digest_64 rfl rfl ?_
      refine v_aload_n 0 C dX10_digest_65 rfl rfl ?_
      refine Rg_m C dX10_digest_66 ?_
      refine v_iconst (v := 1) C dX10_digest_69 (by decide) ?_
      refine v_iload_n 1 C dX10_digest_70 rfl rfl ?_
      refine v_iadd C dX10_digest_71 hf (fun z71 hf => ?_)
      refine Ral_m C dX10_digest_72 hf (fun z72 hf => ?_)
      refine Rc_mix C dX10_digest_73 (by decide) (Nat.le_of_ble_eq_true rfl) hf (fun hash_73 hf => ?_)
      refine v_aload_n 0 C dX10_digest_76 rfl rfl ?_
      refine v_aload_n 0 C dX10_digest_77 rfl rfl ?_
      refine Rg_m C dX10_digest_78 ?_
      refine v_bipush (v := 9) C dX10_digest_81 (by decide) ?_
      refine v_iload_n 1 C dX10_digest_83 rfl rfl ?_
      refine v_iadd C dX10_digest_84 hf (fun z84 hf => ?_)
      refine Ral_m C dX10_digest_85 hf (fun z85 hf => ?_)
      refine Rc_mix C dX10_digest_86 (by decide) (Nat.le_of_ble_eq_true rfl) hf (fun hash_86 hf => ?_)
      refine v_iinc (fun x1_89 => [(0, .ref (a 0)), (1, .int x1_89)]) [1, 0] C dX10_digest_89 (j := 1) rfl (dv := 1) (by decide) (by decide) (fun _ => rfl) hf (fun x1_89 hf => ?_)
      refine v_goto 56 C dX10_digest_92 (by decide) ?_
      exact hrec _ _ hf
def Rl_digest_195 (c_lineParts : Int32) (c_lengths : Nat → Int32) (c_fractions : Nat → Int32) : Nat → Int64 → Int32 → Option Int64
  | 0, _, _ => none
  | n + 1, c_hash, x1 =>
    if c_lineParts ≤ x1 then
      some c_hash
    else
      chk (inb x1 8) <| nm (c_lengths x1.toNatClampNeg) fun z209 =>
      nm (z209.toInt64) fun z210 =>
      bd (Rf_mix c_hash z210) fun hash_211 =>
      nm (x1 + (1 : Int32)) fun z221 =>
      chk (inb z221 9) <| nm (c_fractions z221.toNatClampNeg) fun z222 =>
      nm (z222.toInt64) fun z223 =>
      bd (Rf_mix hash_211 z223) fun hash_224 =>
      nm (x1 + (1 : Int32)) fun x1_227 =>
      Rl_digest_195 c_lineParts c_lengths c_fractions n hash_224 x1_227
set_option maxRecDepth 100000 in
set_option maxHeartbeats 4000000 in
theorem Rk_digest_195 (C : Cx X G T cX10_digest RX10 (some .long) 2 7 163)  {o_hash : Int64} (hk : V X 0 0 (wR a T c_m c_saved c_savedCount c_script c_scriptLength c_code c_lineParts c_lengths c_fractions c_pulseMany c_times c_energies c_far c_near c_echoes c_left c_dropped c_merged c_drops c_contributions c_packet c_peelResult c_peelTime c_peelSum c_at c_commands c_draft o_hash) [(0, .ref (a 0))] 233 []) : ∀ (n : Nat) (c_hash : Int64) (x1 : Int32), Rl_digest_195 c_lineParts c_lengths c_fractions n c_hash x1 = some o_hash → V X 0 0 (wR a T c_m c_saved c_savedCount c_script c_scriptLength c_code c_lineParts c_lengths c_fractions c_pulseMany c_times c_energies c_far c_near c_echoes c_left c_dropped c_merged c_drops c_contributions c_packet c_peelResult c_peelTime c_peelSum c_at c_commands c_draft c_hash) [(0, .ref (a 0)), (1, .int x1)] 195 [] := by
  intro n
  induction n with
  | zero =>
    intro _ _ hf
    cases hf
  | succ n hrec =>
    intro c_hash x1 hf
    rw [Rl_digest_195] at hf
    refine v_iload_n 1 C dX10_digest_195 rfl rfl ?_
    refine v_aload_n 0 C dX10_digest_196 rfl rfl ?_
    refine Rg_lineParts C dX10_digest_197 ?_
    refine v_icmp_ge 233 C dX10_digest_200 (by decide) hf (fun c hf => ?_) (fun c hf => ?_)
    · refine v_lv [(0, .ref (a 0))] [0] rfl ?_
      cases hf
      exact hk
    · refine v_aload_n 0 C dX10_digest_203 rfl rfl ?_
      refine v_aload_n 0 C dX10_digest_204 rfl rfl ?_
      refine Rg_lengths C dX10_digest_205 ?_
      refine v_iload_n 1 C dX10_digest_208 rfl rfl ?_
      refine Ral_lengths C dX10_digest_209 hf (fun z209 hf => ?_)
      refine v_i2l C dX10_digest_210 hf (fun z210 hf => ?_)
      refine Rc_mix C dX10_digest_211 (by decide) (Nat.le_of_ble_eq_true rfl) hf (fun hash_211 hf => ?_)
      refine v_aload_n 0 C dX10_digest_214 rfl rfl ?_
      refine v_aload_n 0 C dX10_digest_215 rfl rfl ?_
      refine Rg_fractions C dX10_digest_216 ?_
      refine v_iload_n 1 C dX10_digest_219 rfl rfl ?_
      refine v_iconst (v := 1) C dX10_digest_220 (by decide) ?_
      refine v_iadd C dX10_digest_221 hf (fun z221 hf => ?_)
      refine Ral_fractions C dX10_digest_222 hf (fun z222 hf => ?_)
      refine v_i2l C dX10_digest_223 hf (fun z223 hf => ?_)
      refine Rc_mix C dX10_digest_224 (by decide) (Nat.le_of_ble_eq_true rfl) hf (fun hash_224 hf => ?_)
      refine v_iinc (fun x1_227 => [(0, .ref (a 0)), (1, .int x1_227)]) [1, 0] C dX10_digest_227 (j := 1) rfl (dv := 1) (by decide) (by decide) (fun _ => rfl) hf (fun x1_227 hf => ?_)
      refine v_goto 195 C dX10_digest_230 (by decide) ?_
      exact hrec _ _ hf
def Rf_digest (c_m : Nat → Int64) (c_savedCount : Int32) (c_scriptLength : Int32) (c_code : Int32) (c_lineParts : Int32) (c_lengths : Nat → Int32) (c_fractions : Nat → Int32) (c_pulseMany : Int32) (c_times : Nat → Int32) (c_energies : Nat → Int64) (c_far : Nat → Int64) (c_near : Nat → Int64) (c_echoes : Nat → Int64) (c_left : Int64) (c_dropped : Int64) (c_merged : Int32) (c_drops : Int32) (c_contributions : Int32) (c_packet : Int64) (c_peelResult : Int32) (c_peelTime : Int32) (c_peelSum : Int32) (c_hash : Int64) : Option (Int32 × Int32 × (Nat → Int32) × (Nat → Int32) × Int32 × (Nat → Int32) × (Nat → Int64) × (Nat → Int64) × (Nat → Int64) × (Nat → Int64) × Int64 × Int64 × Int32 × Int32 × Int32 × Int64 × Int32 × Int32 × Int32 × Int64 × Int64) :=
  nm (c_savedCount.toInt64) fun z17 =>
  bd (Rf_mix (11908 : Int64) z17) fun hash_18 =>
  nm (c_scriptLength.toInt64) fun z26 =>
  bd (Rf_mix hash_18 z26) fun hash_27 =>
  bd (Rl_digest_32 c_m FUEL hash_27 (0 : Int32)) fun o_hash_32 =>
  bd (Rl_digest_56 c_m FUEL o_hash_32 (0 : Int32)) fun o_hash_56 =>
  bd (Rl_digest_97 c_m FUEL o_hash_56 (0 : Int32)) fun o_hash_97 =>
  bd (Rf_mixEchoes c_m c_lineParts c_lengths c_fractions c_pulseMany c_times c_energies c_far c_near c_echoes c_left c_dropped c_merged c_drops c_contributions c_packet o_hash_97) fun (lineParts_134, lengths_134, fractions_134, pulseMany_134, times_134, energies_134, far_134, near_134, echoes_134, left_134, dropped_134, merged_134, drops_134, contributions_134, packet_134, hash_134) =>
  bd (Rl_digest_139 c_m FUEL hash_134 (0 : Int32)) fun o_hash_139 =>
  bd (Rf_peelAll c_m lineParts_134 lengths_134 fractions_134 pulseMany_134 times_134 energies_134 far_134 near_134 echoes_134 left_134 dropped_134 merged_134 drops_134 contributions_134 packet_134 c_peelResult c_peelTime c_peelSum) fun (lineParts_167, lengths_167, fractions_167, pulseMany_167, times_167, energies_167, far_167, near_167, echoes_167, left_167, dropped_167, merged_167, drops_167, contributions_167, packet_167, peelResult_167, peelTime_167, peelSum_167) =>
  bd (Rl_digest_172 lineParts_167 peelResult_167 peelTime_167 peelSum_167 FUEL o_hash_139 (0 : Int32)) fun o_hash_172 =>
  bd (Rl_digest_195 lineParts_167 lengths_167 fractions_167 FUEL o_hash_172 (0 : Int32)) fun o_hash_195 =>
  some ((0 : Int32), lineParts_167, lengths_167, fractions_167, pulseMany_167, times_167, energies_167, far_167, near_167, echoes_167, left_167, dropped_167, merged_167, drops_167, contributions_167, packet_167, peelResult_167, peelTime_167, peelSum_167, o_hash_195, o_hash_195)
set_option maxRecDepth 100000 in
set_option maxHeartbeats 4000000 in
theorem Rb_digest (C : Cx X G T cX10_digest RX10 (some .long) 2 7 163)  {o_code : Int32} {o_lineParts : Int32} {o_lengths : Nat → Int32} {o_fractions : Nat → Int32} {o_pulseMany : Int32} {o_times : Nat → Int32} {o_energies : Nat → Int64} {o_far : Nat → Int64} {o_near : Nat → Int64} {o_echoes : Nat → Int64} {o_left : Int64} {o_dropped : Int64} {o_merged : Int32} {o_drops : Int32} {o_contributions : Int32} {o_packet : Int64} {o_peelResult : Int32} {o_peelTime : Int32} {o_peelSum : Int32} {o_hash : Int64} {r : Int64} (hret : RetOK X 0 0 (some (.long r)) (wR a T c_m c_saved c_savedCount c_script c_scriptLength o_code o_lineParts o_lengths o_fractions o_pulseMany o_times o_energies o_far o_near o_echoes o_left o_dropped o_merged o_drops o_contributions o_packet o_peelResult o_peelTime o_peelSum c_at c_commands c_draft o_hash)) (hf : Rf_digest c_m c_savedCount c_scriptLength c_code c_lineParts c_lengths c_fractions c_pulseMany c_times c_energies c_far c_near c_echoes c_left c_dropped c_merged c_drops c_contributions c_packet c_peelResult c_peelTime c_peelSum c_hash = some (o_code, o_lineParts, o_lengths, o_fractions, o_pulseMany, o_times, o_energies, o_far, o_near, o_echoes, o_left, o_dropped, o_merged, o_drops, o_contributions, o_packet, o_peelResult, o_peelTime, o_peelSum, o_hash, r)) : V X 0 0 (wR a T c_m c_saved c_savedCount c_script c_scriptLength c_code c_lineParts c_lengths c_fractions c_pulseMany c_times c_energies c_far c_near c_echoes c_left c_dropped c_merged c_drops c_contributions c_packet c_peelResult c_peelTime c_peelSum c_at c_commands c_draft c_hash) [(0, .ref (a 0))] 0 [] := by
  unfold Rf_digest at hf
  refine v_aload_n 0 C dX10_digest_0 rfl rfl ?_
  refine v_iconst (v := 0) C dX10_digest_1 (by decide) ?_
  refine Rp_code C dX10_digest_2 ?_
  refine v_aload_n 0 C dX10_digest_5 rfl rfl ?_
  refine v_ldc2 (v := 11908) C wconstantLong_RX10_330_11908 dX10_digest_6 ?_
  refine Rp_hash C dX10_digest_9 ?_
  refine v_aload_n 0 C dX10_digest_12 rfl rfl ?_
  refine v_aload_n 0 C dX10_digest_13 rfl rfl ?_
  refine Rg_savedCount C dX10_digest_14 ?_
  refine v_i2l C dX10_digest_17 hf (fun z17 hf => ?_)
  refine Rc_mix C dX10_digest_18 (by decide) (Nat.le_of_ble_eq_true rfl) hf (fun hash_18 hf => ?_)
  refine v_aload_n 0 C dX10_digest_21 rfl rfl ?_
  refine v_aload_n 0 C dX10_digest_22 rfl rfl ?_
  refine Rg_scriptLength C dX10_digest_23 ?_
  refine v_i2l C dX10_digest_26 hf (fun z26 hf => ?_)
  refine Rc_mix C dX10_digest_27 (by decide) (Nat.le_of_ble_eq_true rfl) hf (fun hash_27 hf => ?_)
  refine v_iconst (v := 0) C dX10_digest_30 (by decide) ?_
  refine v_istore_n [(0, .ref (a 0)), (1, .int (0 : Int32))] [1, 0] C dX10_digest_31 rfl (by decide) rfl ?_
  obtain ⟨o_hash_32, hc, hf⟩ := bd_some hf
  refine Rk_digest_32 C ?_ _ _ _ hc
  refine v_iconst (v := 0) C dX10_digest_54 (by decide) ?_
  refine v_istore_n [(0, .ref (a 0)), (1, .int (0 : Int32))] [1, 0] C dX10_digest_55 rfl (by decide) rfl ?_
  obtain ⟨o_hash_56, hc, hf⟩ := bd_some hf
  refine Rk_digest_56 C ?_ _ _ _ hc
  refine v_iconst (v := 0) C dX10_digest_95 (by decide) ?_
  refine v_istore_n [(0, .ref (a 0)), (1, .int (0 : Int32))] [1, 0] C dX10_digest_96 rfl (by decide) rfl ?_
  obtain ⟨o_hash_97, hc, hf⟩ := bd_some hf
  refine Rk_digest_97 C ?_ _ _ _ hc
  refine v_aload_n 0 C dX10_digest_133 rfl rfl ?_
  refine Rc_mixEchoes C dX10_digest_134 (by decide) (Nat.le_of_ble_eq_true rfl) hf (fun lineParts_134 lengths_134 fractions_134 pulseMany_134 times_134 energies_134 far_134 near_134 echoes_134 left_134 dropped_134 merged_134 drops_134 contributions_134 packet_134 hash_134 hf => ?_)
  refine v_iconst (v := 0) C dX10_digest_137 (by decide) ?_
  refine v_istore_n [(0, .ref (a 0)), (1, .int (0 : Int32))] [1, 0] C dX10_digest_138 rfl (by decide) rfl ?_
  obtain ⟨o_hash_139, hc, hf⟩ := bd_some hf
  refine Rk_digest_139 C ?_ _ _ _ hc
  refine v_aload_n 0 C dX10_digest_166 rfl rfl ?_
  refine Rc_peelAll C dX10_digest_167 (by decide) (Nat.le_of_ble_eq_true rfl) hf (fun lineParts_167 lengths_167 fractions_167 pulseMany_167 times_167 energies_167 far_167 near_167 echoes_167 left_167 dropped_167 merged_167 drops_167 contributions_167 packet_167 peelResult_167 peelTime_167 peelSum_167 hf => ?_)
  refine v_iconst (v := 0) C dX10_digest_170 (by decide) ?_
  refine v_istore_n [(0, .ref (a 0)), (1, .int (0 : Int32))] [1, 0] C dX10_digest_171 rfl (by decide) rfl ?_
  obtain ⟨o_hash_172, hc, hf⟩ := bd_some hf
  refine Rk_digest_172 C ?_ _ _ _ hc
  refine v_iconst (v := 0) C dX10_digest_193 (by decide) ?_
  refine v_istore_n [(0, .ref (a 0)), (1, .int (0 : Int32))] [1, 0] C dX10_digest_194 rfl (by decide) rfl ?_
  obtain ⟨o_hash_195, hc, hf⟩ := bd_some hf
  refine Rk_digest_195 C ?_ _ _ _ hc
  refine v_aload_n 0 C dX10_digest_233 rfl rfl ?_
  refine Rg_hash C dX10_digest_234 ?_
  cases hf
  exact v_lret C hret dX10_digest_237
set_option maxRecDepth 100000 in
set_option maxHeartbeats 4000000 in
theorem Rm_digest {D : va_G}  {o_code : Int32} {o_lineParts : Int32} {o_lengths : Nat → Int32} {o_fractions : Nat → Int32} {o_pulseMany : Int32} {o_times : Nat → Int32} {o_energies : Nat → Int64} {o_far : Nat → Int64} {o_near : Nat → Int64} {o_echoes : Nat → Int64} {o_left : Int64} {o_dropped : Int64} {o_merged : Int32} {o_drops : Int32} {o_contributions : Int32} {o_packet : Int64} {o_peelResult : Int32} {o_peelTime : Int32} {o_peelSum : Int32} {o_hash : Int64} {r : Int64} (hf : Rf_digest c_m c_savedCount c_scriptLength c_code c_lineParts c_lengths c_fractions c_pulseMany c_times c_energies c_far c_near c_echoes c_left c_dropped c_merged c_drops c_contributions c_packet c_peelResult c_peelTime c_peelSum c_hash = some (o_code, o_lineParts, o_lengths, o_fractions, o_pulseMany, o_times, o_energies, o_far, o_near, o_echoes, o_left, o_dropped, o_merged, o_drops, o_contributions, o_packet, o_peelResult, o_peelTime, o_peelSum, o_hash, r)) : MetM G yX10_digest cX10_digest 2 (some .long) { frames := 7, cells := 0, slots := 0, locals := 163 } D T [.ref (a 0)] (wR a T c_m c_saved c_savedCount c_script c_scriptLength c_code c_lineParts c_lengths c_fractions c_pulseMany c_times c_energies c_far c_near c_echoes c_left c_dropped c_merged c_drops c_contributions c_packet c_peelResult c_peelTime c_peelSum c_at c_commands c_draft c_hash) (some (.long r)) (wR a T c_m c_saved c_savedCount c_script c_scriptLength o_code o_lineParts o_lengths o_fractions o_pulseMany o_times o_energies o_far o_near o_echoes o_left o_dropped o_merged o_drops o_contributions o_packet o_peelResult o_peelTime o_peelSum c_at c_commands c_draft o_hash) :=
  MetM.of [(0, .ref (a 0))] (by decide) (Nat.le_of_ble_eq_true rfl) rfl (fun X C hret => Rb_digest C hret hf)
end RM6
