section RM0
variable {X : CxT} {G : SG} {T : Nat → ClassId} {a : Nat → Nat} {w : va_W} {c_m : Nat → Int64} {c_saved : Nat → Int64} {c_savedCount : Int32} {c_script : Nat → Int32} {c_scriptLength : Int32} {c_code : Int32} {c_lineParts : Int32} {c_lengths : Nat → Int32} {c_fractions : Nat → Int32} {c_pulseMany : Int32} {c_times : Nat → Int32} {c_energies : Nat → Int64} {c_far : Nat → Int64} {c_near : Nat → Int64} {c_echoes : Nat → Int64} {c_left : Int64} {c_dropped : Int64} {c_merged : Int32} {c_drops : Int32} {c_contributions : Int32} {c_packet : Int64} {c_peelResult : Int32} {c_peelTime : Int32} {c_peelSum : Int32} {c_at : Int32} {c_commands : Int32} {c_draft : Nat → Int32} {c_hash : Int64}
def Rf_thrown (c_code : Int32) : Option Int32 :=
  some c_code
set_option maxRecDepth 100000 in
set_option maxHeartbeats 4000000 in
theorem Rb_thrown (C : Cx X G T cX10_thrown RX10 (some .int) 1 0 0)  {r : Int32} (hret : RetOK X 0 0 (some (.int r)) (wR a T c_m c_saved c_savedCount c_script c_scriptLength c_code c_lineParts c_lengths c_fractions c_pulseMany c_times c_energies c_far c_near c_echoes c_left c_dropped c_merged c_drops c_contributions c_packet c_peelResult c_peelTime c_peelSum c_at c_commands c_draft c_hash)) (hf : Rf_thrown c_code = some r) : V X 0 0 (wR a T c_m c_saved c_savedCount c_script c_scriptLength c_code c_lineParts c_lengths c_fractions c_pulseMany c_times c_energies c_far c_near c_echoes c_left c_dropped c_merged c_drops c_contributions c_packet c_peelResult c_peelTime c_peelSum c_at c_commands c_draft c_hash) [(0, .ref (a 0))] 0 [] := by
  unfold Rf_thrown at hf
  refine v_aload_n 0 C dX10_thrown_0 rfl rfl ?_
  refine Rg_code C dX10_thrown_1 ?_
  cases hf
  exact v_iret C hret dX10_thrown_4
set_option maxRecDepth 100000 in
set_option maxHeartbeats 4000000 in
theorem Rm_thrown {D : va_G}  {r : Int32} (hf : Rf_thrown c_code = some r) : MetM G yX10_thrown cX10_thrown 1 (some .int) { frames := 0, cells := 0, slots := 0, locals := 0 } D T [.ref (a 0)] (wR a T c_m c_saved c_savedCount c_script c_scriptLength c_code c_lineParts c_lengths c_fractions c_pulseMany c_times c_energies c_far c_near c_echoes c_left c_dropped c_merged c_drops c_contributions c_packet c_peelResult c_peelTime c_peelSum c_at c_commands c_draft c_hash) (some (.int r)) (wR a T c_m c_saved c_savedCount c_script c_scriptLength c_code c_lineParts c_lengths c_fractions c_pulseMany c_times c_energies c_far c_near c_echoes c_left c_dropped c_merged c_drops c_contributions c_packet c_peelResult c_peelTime c_peelSum c_at c_commands c_draft c_hash) :=
  MetM.of [(0, .ref (a 0))] (by decide) (Nat.le_of_ble_eq_true rfl) rfl (fun X C hret => Rb_thrown C hret hf)
def Rf_in_18 (s0 : Int32) : Option Int32 :=
  chk (s0 = 0 ∨ s0 = 1) <| some s0
set_option maxRecDepth 100000 in
set_option maxHeartbeats 4000000 in
theorem Rb_in_18 (C : Cx X G T cX10_in RX10 (some .boolean) 6 0 0) {s0 : Int32} {r : Int32} (hret : RetOK X 0 0 (some (.int r)) w) (hf : Rf_in_18 s0 = some r) : V X 0 0 w [] 18 [.int s0] := by
  unfold Rf_in_18 at hf
  obtain ⟨hv, hf⟩ := chk_some hf
  cases hf
  exact v_zret hv C hret dX10_in_18
def Rf_in_17  : Option Int32 :=
  Rf_in_18 (0 : Int32)
set_option maxRecDepth 100000 in
set_option maxHeartbeats 4000000 in
theorem Rb_in_17 (C : Cx X G T cX10_in RX10 (some .boolean) 6 0 0)  {r : Int32} (hret : RetOK X 0 0 (some (.int r)) w) (hf : Rf_in_17  = some r) : V X 0 0 w [] 17 [] := by
  unfold Rf_in_17 at hf
  refine v_iconst (v := 0) C dX10_in_17 (by decide) ?_
  exact Rb_in_18 C hret hf
def Rf_in (x0 : Int64) (x2 : Int64) (x4 : Int64) : Option Int32 :=
  if x0 < x2 then
    Rf_in_17 
  else
    if x4 < x0 then
      Rf_in_17 
    else
      Rf_in_18 (1 : Int32)
set_option maxRecDepth 100000 in
set_option maxHeartbeats 4000000 in
theorem Rb_in (C : Cx X G T cX10_in RX10 (some .boolean) 6 0 0) {x0 : Int64} {x2 : Int64} {x4 : Int64} {r : Int32} (hret : RetOK X 0 0 (some (.int r)) w) (hf : Rf_in x0 x2 x4 = some r) : V X 0 0 w [(0, .long x0), (2, .long x2), (4, .long x4)] 0 [] := by
  unfold Rf_in at hf
  refine v_lload_n 0 C dX10_in_0 rfl rfl ?_
  refine v_lload_n 1 C dX10_in_1 rfl rfl ?_
  refine v_lcmp_lt 17 C dX10_in_2 dX10_in_3 (by decide) hf (fun c hf => ?_) (fun c hf => ?_)
  · refine v_lv [] [] rfl ?_
    exact Rb_in_17 C hret hf
  · refine v_lload_n 0 C dX10_in_6 rfl rfl ?_
    refine v_lload 2 C dX10_in_7 rfl ?_
    refine v_lcmp_gt 17 C dX10_in_9 dX10_in_10 (by decide) hf (fun c hf => ?_) (fun c hf => ?_)
    · refine v_lv [] [] rfl ?_
      exact Rb_in_17 C hret hf
    · refine v_iconst (v := 1) C dX10_in_13 (by decide) ?_
      refine v_goto 18 C dX10_in_14 (by decide) ?_
      refine v_lv [] [] rfl ?_
      exact Rb_in_18 C hret hf
set_option maxRecDepth 100000 in
set_option maxHeartbeats 4000000 in
theorem Rm_in {D : va_G} {x0 : Int64} {x2 : Int64} {x4 : Int64} {r : Int32} (hf : Rf_in x0 x2 x4 = some r) : MetM G yX10_in cX10_in 6 (some .boolean) { frames := 0, cells := 0, slots := 0, locals := 0 } D T [.long x0, .long x2, .long x4] w (some (.int r)) w :=
  MetM.of [(0, .long x0), (2, .long x2), (4, .long x4)] (by decide) (Nat.le_of_ble_eq_true rfl) rfl (fun X C hret => Rb_in C hret hf)
set_option maxRecDepth 100000 in
theorem Rc_in {x0 : Int64} {x2 : Int64} {x4 : Int64} {cc : ByteArray} {ret : Option FieldType} {nl fr lo pc : Nat} {lv : List (Nat × Value)} {rest : List Value} {β : Type} {K : Int32 → Option β} {oo : β} (C : Cx X G T cc RX10 ret nl fr lo) (hdg : decode cc pc = .ok (.invokestatic 59, 3)) (hroom : 0 + 1 ≤ fr ∧ 8 + (6 + 11) + 0 ≤ lo) (hst : (rest.map fun v => v.category).sum ≤ 8) (hf : bd (Rf_in x0 x2 x4) K = some oo) (kk : ∀ (r : Int32), K r = some oo → V X 0 0 w lv (pc + 3) (.int r :: rest)) : V X 0 0 w lv pc (.long x4 :: .long x2 :: .long x0 :: rest) := by
  obtain ⟨r, hc, hk⟩ := bd_some hf
  exact v_callS (As := [.long x0, .long x2, .long x4]) (rest := rest) 3 C (CapOK.z X) (fun D => Rm_in hc) (goodS wmethodLink_RX10_59_yX10_in wstatic_yX10_in winitialized_RX10 wcode_yX10_in_cX10_in_6_some_boolean) (by decide +kernel) hroom ⟨rfl, rfl⟩ rfl hst hdg (kk r hk)
def Rl_keep_10  : Nat → (Nat → Int64) → Int32 → Option (Nat → Int64)
  | 0, _, _ => none
  | n + 1, c_saved, x1 =>
    if (862 : Int32) ≤ x1 then
      some c_saved
    else
      nm (x1 + (431 : Int32)) fun z30 =>
      chk (inb z30 1293) <| nm (c_saved z30.toNatClampNeg) fun z31 =>
      chk (inb x1 1293) <| nm (vp_updL c_saved x1.toNatClampNeg z31) fun saved_32 =>
      nm (x1 + (1 : Int32)) fun x1_33 =>
      Rl_keep_10 n saved_32 x1_33
set_option maxRecDepth 100000 in
set_option maxHeartbeats 4000000 in
theorem Rk_keep_10 (C : Cx X G T cX10_keep RX10 none 2 0 0)  {o_saved : Nat → Int64} (hk : V X 0 0 (wR a T c_m o_saved c_savedCount c_script c_scriptLength c_code c_lineParts c_lengths c_fractions c_pulseMany c_times c_energies c_far c_near c_echoes c_left c_dropped c_merged c_drops c_contributions c_packet c_peelResult c_peelTime c_peelSum c_at c_commands c_draft c_hash) [(0, .ref (a 0))] 39 []) : ∀ (n : Nat) (c_saved : Nat → Int64) (x1 : Int32), Rl_keep_10  n c_saved x1 = some o_saved → V X 0 0 (wR a T c_m c_saved c_savedCount c_script c_scriptLength c_code c_lineParts c_lengths c_fractions c_pulseMany c_times c_energies c_far c_near c_echoes c_left c_dropped c_merged c_drops c_contributions c_packet c_peelResult c_peelTime c_peelSum c_at c_commands c_draft c_hash) [(0, .ref (a 0)), (1, .int x1)] 10 [] := by
  intro n
  induction n with
  | zero =>
    intro _ _ hf
    cases hf
  | succ n hrec =>
    intro c_saved x1 hf
    rw [Rl_keep_10] at hf
    refine v_iload_n 1 C dX10_keep_10 rfl rfl ?_
    refine v_sipush (v := 862) C dX10_keep_11 (by decide) ?_
    refine v_icmp_ge 39 C dX10_keep_14 (by decide) hf (fun c hf => ?_) (fun c hf => ?_)
    · refine v_lv [(0, .ref (a 0))] [0] rfl ?_
      cases hf
      exact hk
    · refine v_aload_n 0 C dX10_keep_17 rfl rfl ?_
      refine Rg_saved C dX10_keep_18 ?_
      refine v_iload_n 1 C dX10_keep_21 rfl rfl ?_
      refine v_aload_n 0 C dX10_keep_22 rfl rfl ?_
      refine Rg_saved C dX10_keep_23 ?_
      refine v_iload_n 1 C dX10_keep_26 rfl rfl ?_
      refine v_sipush (v := 431) C dX10_keep_27 (by decide) ?_
      refine v_iadd C dX10_keep_30 hf (fun z30 hf => ?_)
      refine Ral_saved C dX10_keep_31 hf (fun z31 hf => ?_)
      refine Ras_saved C dX10_keep_32 hf (fun saved_32 hf => ?_)
      refine v_iinc (fun x1_33 => [(0, .ref (a 0)), (1, .int x1_33)]) [1, 0] C dX10_keep_33 (j := 1) rfl (dv := 1) (by decide) (by decide) (fun _ => rfl) hf (fun x1_33 hf => ?_)
      refine v_goto 10 C dX10_keep_36 (by decide) ?_
      exact hrec _ _ hf
def Rl_keep_51 (c_m : Nat → Int64) (c_savedCount : Int32) : Nat → (Nat → Int64) → Int32 → Option (Nat → Int64)
  | 0, _, _ => none
  | n + 1, c_saved, x1 =>
    if (431 : Int32) ≤ x1 then
      some c_saved
    else
      nm ((431 : Int32) * c_savedCount) fun z69 =>
      nm (z69 + x1) fun z71 =>
      chk (inb x1 431) <| nm (c_m x1.toNatClampNeg) fun z77 =>
      chk (inb z71 1293) <| nm (vp_updL c_saved z71.toNatClampNeg z77) fun saved_78 =>
      nm (x1 + (1 : Int32)) fun x1_79 =>
      Rl_keep_51 c_m c_savedCount n saved_78 x1_79
set_option maxRecDepth 100000 in
set_option maxHeartbeats 4000000 in
theorem Rk_keep_51 (C : Cx X G T cX10_keep RX10 none 2 0 0)  {o_saved : Nat → Int64} (hk : V X 0 0 (wR a T c_m o_saved c_savedCount c_script c_scriptLength c_code c_lineParts c_lengths c_fractions c_pulseMany c_times c_energies c_far c_near c_echoes c_left c_dropped c_merged c_drops c_contributions c_packet c_peelResult c_peelTime c_peelSum c_at c_commands c_draft c_hash) [(0, .ref (a 0))] 85 []) : ∀ (n : Nat) (c_saved : Nat → Int64) (x1 : Int32), Rl_keep_51 c_m c_savedCount n c_saved x1 = some o_saved → V X 0 0 (wR a T c_m c_saved c_savedCount c_script c_scriptLength c_code c_lineParts c_lengths c_fractions c_pulseMany c_times c_energies c_far c_near c_echoes c_left c_dropped c_merged c_drops c_contributions c_packet c_peelResult c_peelTime c_peelSum c_at c_commands c_draft c_hash) [(0, .ref (a 0)), (1, .int x1)] 51 [] := by
  intro n
  induction n with
  | zero =>
    intro _ _ hf
    cases hf
  | succ n hrec =>
    intro c_saved x1 hf
    rw [Rl_keep_51] at hf
    refine v_iload_n 1 C dX10_keep_51 rfl rfl ?_
    refine v_sipush (v := 431) C dX10_keep_52 (by decide) ?_
    refine v_icmp_ge 85 C dX10_keep_55 (by decide) hf (fun c hf => ?_) (fun c hf => ?_)
    · refine v_lv [(0, .ref (a 0))] [0] rfl ?_
      cases hf
      exact hk
    · refine v_aload_n 0 C dX10_keep_58 rfl rfl ?_
      refine Rg_saved C dX10_keep_59 ?_
      refine v_sipush (v := 431) C dX10_keep_62 (by decide) ?_
      refine v_aload_n 0 C dX10_keep_65 rfl rfl ?_
      refine Rg_savedCount C dX10_keep_66 ?_
      refine v_imul C dX10_keep_69 hf (fun z69 hf => ?_)
      refine v_iload_n 1 C dX10_keep_70 rfl rfl ?_
      refine v_iadd C dX10_keep_71 hf (fun z71 hf => ?_)
      refine v_aload_n 0 C dX10_keep_72 rfl rfl ?_
      refine Rg_m C dX10_keep_73 ?_
      refine v_iload_n 1 C dX10_keep_76 rfl rfl ?_
      refine Ral_m C dX10_keep_77 hf (fun z77 hf => ?_)
      refine Ras_saved C dX10_keep_78 hf (fun saved_78 hf => ?_)
      refine v_iinc (fun x1_79 => [(0, .ref (a 0)), (1, .int x1_79)]) [1, 0] C dX10_keep_79 (j := 1) rfl (dv := 1) (by decide) (by decide) (fun _ => rfl) hf (fun x1_79 hf => ?_)
      refine v_goto 51 C dX10_keep_82 (by decide) ?_
      exact hrec _ _ hf
def Rf_keep_49 (c_m : Nat → Int64) (c_saved : Nat → Int64) (c_savedCount : Int32) : Option ((Nat → Int64) × Int32) :=
  bd (Rl_keep_51 c_m c_savedCount FUEL c_saved (0 : Int32)) fun o_saved_51 =>
  nm (c_savedCount + (1 : Int32)) fun z91 =>
  some (o_saved_51, z91)
set_option maxRecDepth 100000 in
set_option maxHeartbeats 4000000 in
theorem Rb_keep_49 (C : Cx X G T cX10_keep RX10 none 2 0 0)  {o_saved : Nat → Int64} {o_savedCount : Int32} (hret : RetOK X 0 0 none (wR a T c_m o_saved o_savedCount c_script c_scriptLength c_code c_lineParts c_lengths c_fractions c_pulseMany c_times c_energies c_far c_near c_echoes c_left c_dropped c_merged c_drops c_contributions c_packet c_peelResult c_peelTime c_peelSum c_at c_commands c_draft c_hash)) (hf : Rf_keep_49 c_m c_saved c_savedCount = some (o_saved, o_savedCount)) : V X 0 0 (wR a T c_m c_saved c_savedCount c_script c_scriptLength c_code c_lineParts c_lengths c_fractions c_pulseMany c_times c_energies c_far c_near c_echoes c_left c_dropped c_merged c_drops c_contributions c_packet c_peelResult c_peelTime c_peelSum c_at c_commands c_draft c_hash) [(0, .ref (a 0))] 49 [] := by
  unfold Rf_keep_49 at hf
  refine v_iconst (v := 0) C dX10_keep_49 (by decide) ?_
  refine v_istore_n [(0, .ref (a 0)), (1, .int (0 : Int32))] [1, 0] C dX10_keep_50 rfl (by decide) rfl ?_
  obtain ⟨o_saved_51, hc, hf⟩ := bd_some hf
  refine Rk_keep_51 C ?_ _ _ _ hc
  refine v_aload_n 0 C dX10_keep_85 rfl rfl ?_
  refine v_dup C dX10_keep_86 rfl ?_
  refine Rg_savedCount C dX10_keep_87 ?_
  refine v_iconst (v := 1) C dX10_keep_90 (by decide) ?_
  refine v_iadd C dX10_keep_91 hf (fun z91 hf => ?_)
  refine Rp_savedCount C dX10_keep_92 ?_
  cases hf
  exact v_vret C hret dX10_keep_95
def Rf_keep (c_m : Nat → Int64) (c_saved : Nat → Int64) (c_savedCount : Int32) : Option ((Nat → Int64) × Int32) :=
  if c_savedCount = (3 : Int32) then
    bd (Rl_keep_10 FUEL c_saved (0 : Int32)) fun o_saved_10 =>
    nm (c_savedCount - (1 : Int32)) fun z45 =>
    Rf_keep_49 c_m o_saved_10 z45
  else
    Rf_keep_49 c_m c_saved c_savedCount
set_option maxRecDepth 100000 in
set_option maxHeartbeats 4000000 in
theorem Rb_keep (C : Cx X G T cX10_keep RX10 none 2 0 0)  {o_saved : Nat → Int64} {o_savedCount : Int32} (hret : RetOK X 0 0 none (wR a T c_m o_saved o_savedCount c_script c_scriptLength c_code c_lineParts c_lengths c_fractions c_pulseMany c_times c_energies c_far c_near c_echoes c_left c_dropped c_merged c_drops c_contributions c_packet c_peelResult c_peelTime c_peelSum c_at c_commands c_draft c_hash)) (hf : Rf_keep c_m c_saved c_savedCount = some (o_saved, o_savedCount)) : V X 0 0 (wR a T c_m c_saved c_savedCount c_script c_scriptLength c_code c_lineParts c_lengths c_fractions c_pulseMany c_times c_energies c_far c_near c_echoes c_left c_dropped c_merged c_drops c_contributions c_packet c_peelResult c_peelTime c_peelSum c_at c_commands c_draft c_hash) [(0, .ref (a 0))] 0 [] := by
  unfold Rf_keep at hf
  refine v_aload_n 0 C dX10_keep_0 rfl rfl ?_
  refine Rg_savedCount C dX10_keep_1 ?_
  refine v_iconst (v := 3) C dX10_keep_4 (by decide) ?_
  refine v_icmp_ne 49 C dX10_keep_5 (by decide) hf (fun c hf => ?_) (fun c hf => ?_)
  · refine v_iconst (v := 0) C dX10_keep_8 (by decide) ?_
    refine v_istore_n [(0, .ref (a 0)), (1, .int (0 : Int32))] [1, 0] C dX10_keep_9 rfl (by decide) rfl ?_
    obtain ⟨o_saved_10, hc, hf⟩ := bd_some hf
    refine Rk_keep_10 C ?_ _ _ _ hc
    refine v_aload_n 0 C dX10_keep_39 rfl rfl ?_
    refine v_dup C dX10_keep_40 rfl ?_
    refine Rg_savedCount C dX10_keep_41 ?_
    refine v_iconst (v := 1) C dX10_keep_44 (by decide) ?_
    refine v_isub C dX10_keep_45 hf (fun z45 hf => ?_)
    refine Rp_savedCount C dX10_keep_46 ?_
    exact Rb_keep_49 C hret hf
  · exact Rb_keep_49 C hret hf
set_option maxRecDepth 100000 in
set_option maxHeartbeats 4000000 in
theorem Rm_keep {D : va_G}  {o_saved : Nat → Int64} {o_savedCount : Int32} (hf : Rf_keep c_m c_saved c_savedCount = some (o_saved, o_savedCount)) : MetM G yX10_keep cX10_keep 2 none { frames := 0, cells := 0, slots := 0, locals := 0 } D T [.ref (a 0)] (wR a T c_m c_saved c_savedCount c_script c_scriptLength c_code c_lineParts c_lengths c_fractions c_pulseMany c_times c_energies c_far c_near c_echoes c_left c_dropped c_merged c_drops c_contributions c_packet c_peelResult c_peelTime c_peelSum c_at c_commands c_draft c_hash) none (wR a T c_m o_saved o_savedCount c_script c_scriptLength c_code c_lineParts c_lengths c_fractions c_pulseMany c_times c_energies c_far c_near c_echoes c_left c_dropped c_merged c_drops c_contributions c_packet c_peelResult c_peelTime c_peelSum c_at c_commands c_draft c_hash) :=
  MetM.of [(0, .ref (a 0))] (by decide) (Nat.le_of_ble_eq_true rfl) rfl (fun X C hret => Rb_keep C hret hf)
set_option maxRecDepth 100000 in
theorem Rc_keep  {cc : ByteArray} {ret : Option FieldType} {nl fr lo pc : Nat} {lv : List (Nat × Value)} {rest : List Value} {β : Type} {K : ((Nat → Int64) × Int32) → Option β} {oo : β} (C : Cx X G T cc RX10 ret nl fr lo) (hdg : decode cc pc = .ok (.invokevirtual 134, 3)) (hroom : 0 + 1 ≤ fr ∧ 8 + (2 + 11) + 0 ≤ lo) (hst : (rest.map fun v => v.category).sum ≤ 8) (hf : bd (Rf_keep c_m c_saved c_savedCount) K = some oo) (kk : ∀ (o_saved : Nat → Int64) (o_savedCount : Int32), K (o_saved, o_savedCount) = some oo → V X 0 0 (wR a T c_m o_saved o_savedCount c_script c_scriptLength c_code c_lineParts c_lengths c_fractions c_pulseMany c_times c_energies c_far c_near c_echoes c_left c_dropped c_merged c_drops c_contributions c_packet c_peelResult c_peelTime c_peelSum c_at c_commands c_draft c_hash) lv (pc + 3) rest) : V X 0 0 (wR a T c_m c_saved c_savedCount c_script c_scriptLength c_code c_lineParts c_lengths c_fractions c_pulseMany c_times c_energies c_far c_near c_echoes c_left c_dropped c_merged c_drops c_contributions c_packet c_peelResult c_peelTime c_peelSum c_at c_commands c_draft c_hash) lv pc (.ref (a 0) :: rest) := by
  obtain ⟨⟨o_saved, o_savedCount⟩, hc, hk⟩ := bd_some hf
  exact v_callV (As := []) (rest := rest) (q0 := 0) 0 C (CapOK.z X) (fun D => Rm_keep hc) (goodV wmethodLink_RX10_134_yX10_keep winstanceMethod_yX10_keep wselects_RX10_yX10_keep_yX10_keep winitialized_RX10 wcode_yX10_keep_cX10_keep_2_none) (by decide +kernel) hroom ⟨rfl, rfl⟩ rfl rfl rfl hst hdg (kk o_saved o_savedCount hk)
def Rf_parts (c_m : Nat → Int64) : Option Int32 :=
  chk (inb (0 : Int32) 431) <| nm (c_m (0 : Int32).toNatClampNeg) fun z5 =>
  nm (z5.toInt32) fun z6 =>
  some z6
set_option maxRecDepth 100000 in
set_option maxHeartbeats 4000000 in
theorem Rb_parts (C : Cx X G T cX10_parts RX10 (some .int) 1 0 0)  {r : Int32} (hret : RetOK X 0 0 (some (.int r)) (wR a T c_m c_saved c_savedCount c_script c_scriptLength c_code c_lineParts c_lengths c_fractions c_pulseMany c_times c_energies c_far c_near c_echoes c_left c_dropped c_merged c_drops c_contributions c_packet c_peelResult c_peelTime c_peelSum c_at c_commands c_draft c_hash)) (hf : Rf_parts c_m = some r) : V X 0 0 (wR a T c_m c_saved c_savedCount c_script c_scriptLength c_code c_lineParts c_lengths c_fractions c_pulseMany c_times c_energies c_far c_near c_echoes c_left c_dropped c_merged c_drops c_contributions c_packet c_peelResult c_peelTime c_peelSum c_at c_commands c_draft c_hash) [(0, .ref (a 0))] 0 [] := by
  unfold Rf_parts at hf
  refine v_aload_n 0 C dX10_parts_0 rfl rfl ?_
  refine Rg_m C dX10_parts_1 ?_
  refine v_iconst (v := 0) C dX10_parts_4 (by decide) ?_
  refine Ral_m C dX10_parts_5 hf (fun z5 hf => ?_)
  refine v_l2i C dX10_parts_6 hf (fun z6 hf => ?_)
  cases hf
  exact v_iret C hret dX10_parts_7
set_option maxRecDepth 100000 in
set_option maxHeartbeats 4000000 in
theorem Rm_parts {D : va_G}  {r : Int32} (hf : Rf_parts c_m = some r) : MetM G yX10_parts cX10_parts 1 (some .int) { frames := 0, cells := 0, slots := 0, locals := 0 } D T [.ref (a 0)] (wR a T c_m c_saved c_savedCount c_script c_scriptLength c_code c_lineParts c_lengths c_fractions c_pulseMany c_times c_energies c_far c_near c_echoes c_left c_dropped c_merged c_drops c_contributions c_packet c_peelResult c_peelTime c_peelSum c_at c_commands c_draft c_hash) (some (.int r)) (wR a T c_m c_saved c_savedCount c_script c_scriptLength c_code c_lineParts c_lengths c_fractions c_pulseMany c_times c_energies c_far c_near c_echoes c_left c_dropped c_merged c_drops c_contributions c_packet c_peelResult c_peelTime c_peelSum c_at c_commands c_draft c_hash) :=
  MetM.of [(0, .ref (a 0))] (by decide) (Nat.le_of_ble_eq_true rfl) rfl (fun X C hret => Rb_parts C hret hf)
set_option maxRecDepth 100000 in
theorem Rc_parts  {cc : ByteArray} {ret : Option FieldType} {nl fr lo pc : Nat} {lv : List (Nat × Value)} {rest : List Value} {β : Type} {K : Int32 → Option β} {oo : β} (C : Cx X G T cc RX10 ret nl fr lo) (hdg : decode cc pc = .ok (.invokevirtual 55, 3)) (hroom : 0 + 1 ≤ fr ∧ 8 + (1 + 11) + 0 ≤ lo) (hst : (rest.map fun v => v.category).sum ≤ 8) (hf : bd (Rf_parts c_m) K = some oo) (kk : ∀ (r : Int32), K r = some oo → V X 0 0 (wR a T c_m c_saved c_savedCount c_script c_scriptLength c_code c_lineParts c_lengths c_fractions c_pulseMany c_times c_energies c_far c_near c_echoes c_left c_dropped c_merged c_drops c_contributions c_packet c_peelResult c_peelTime c_peelSum c_at c_commands c_draft c_hash) lv (pc + 3) (.int r :: rest)) : V X 0 0 (wR a T c_m c_saved c_savedCount c_script c_scriptLength c_code c_lineParts c_lengths c_fractions c_pulseMany c_times c_energies c_far c_near c_echoes c_left c_dropped c_merged c_drops c_contributions c_packet c_peelResult c_peelTime c_peelSum c_at c_commands c_draft c_hash) lv pc (.ref (a 0) :: rest) := by
  obtain ⟨r, hc, hk⟩ := bd_some hf
  exact v_callV (As := []) (rest := rest) (q0 := 0) 0 C (CapOK.z X) (fun D => Rm_parts hc) (goodV wmethodLink_RX10_55_yX10_parts winstanceMethod_yX10_parts wselects_RX10_yX10_parts_yX10_parts winitialized_RX10 wcode_yX10_parts_cX10_parts_1_some_int) (by decide +kernel) hroom ⟨rfl, rfl⟩ rfl rfl rfl hst hdg (kk r hk)
def Rf_isPart (c_m : Nat → Int64) (x1 : Int32) : Option Int32 :=
  nm (x1.toInt64) fun z1 =>
  bd (Rf_parts c_m) fun r4 =>
  nm (r4 - (1 : Int32)) fun z8 =>
  nm (z8.toInt64) fun z9 =>
  bd (Rf_in z1 (0 : Int64) z9) fun r10 =>
  chk (r10 = 0 ∨ r10 = 1) <| some r10
set_option maxRecDepth 100000 in
set_option maxHeartbeats 4000000 in
theorem Rb_isPart (C : Cx X G T cX10_isPart RX10 (some .boolean) 2 1 25) {x1 : Int32} {r : Int32} (hret : RetOK X 0 0 (some (.int r)) (wR a T c_m c_saved c_savedCount c_script c_scriptLength c_code c_lineParts c_lengths c_fractions c_pulseMany c_times c_energies c_far c_near c_echoes c_left c_dropped c_merged c_drops c_contributions c_packet c_peelResult c_peelTime c_peelSum c_at c_commands c_draft c_hash)) (hf : Rf_isPart c_m x1 = some r) : V X 0 0 (wR a T c_m c_saved c_savedCount c_script c_scriptLength c_code c_lineParts c_lengths c_fractions c_pulseMany c_times c_energies c_far c_near c_echoes c_left c_dropped c_merged c_drops c_contributions c_packet c_peelResult c_peelTime c_peelSum c_at c_commands c_draft c_hash) [(0, .ref (a 0)), (1, .int x1)] 0 [] := by
  unfold Rf_isPart at hf
  refine v_iload_n 1 C dX10_isPart_0 rfl rfl ?_
  refine v_i2l C dX10_isPart_1 hf (fun z1 hf => ?_)
  refine v_lconst (v := 0) C dX10_isPart_2 (by decide) ?_
  refine v_aload_n 0 C dX10_isPart_3 rfl rfl ?_
  refine Rc_parts C dX10_isPart_4 (by decide) (Nat.le_of_ble_eq_true rfl) hf (fun r4 hf => ?_)
  refine v_iconst (v := 1) C dX10_isPart_7 (by decide) ?_
  refine v_isub C dX10_isPart_8 hf (fun z8 hf => ?_)
  refine v_i2l C dX10_isPart_9 hf (fun z9 hf => ?_)
  refine Rc_in C dX10_isPart_10 (by decide) (Nat.le_of_ble_eq_true rfl) hf (fun r10 hf => ?_)
  obtain ⟨hv, hf⟩ := chk_some hf
  cases hf
  exact v_zret hv C hret dX10_isPart_13
set_option maxRecDepth 100000 in
set_option maxHeartbeats 4000000 in
theorem Rm_isPart {D : va_G} {x1 : Int32} {r : Int32} (hf : Rf_isPart c_m x1 = some r) : MetM G yX10_isPart cX10_isPart 2 (some .boolean) { frames := 1, cells := 0, slots := 0, locals := 25 } D T [.ref (a 0), .int x1] (wR a T c_m c_saved c_savedCount c_script c_scriptLength c_code c_lineParts c_lengths c_fractions c_pulseMany c_times c_energies c_far c_near c_echoes c_left c_dropped c_merged c_drops c_contributions c_packet c_peelResult c_peelTime c_peelSum c_at c_commands c_draft c_hash) (some (.int r)) (wR a T c_m c_saved c_savedCount c_script c_scriptLength c_code c_lineParts c_lengths c_fractions c_pulseMany c_times c_energies c_far c_near c_echoes c_left c_dropped c_merged c_drops c_contributions c_packet c_peelResult c_peelTime c_peelSum c_at c_commands c_draft c_hash) :=
  MetM.of [(0, .ref (a 0)), (1, .int x1)] (by decide) (Nat.le_of_ble_eq_true rfl) rfl (fun X C hret => Rb_isPart C hret hf)
set_option maxRecDepth 100000 in
theorem Rc_isPart {x1 : Int32} {cc : ByteArray} {ret : Option FieldType} {nl fr lo pc : Nat} {lv : List (Nat × Value)} {rest : List Value} {β : Type} {K : Int32 → Option β} {oo : β} (C : Cx X G T cc RX10 ret nl fr lo) (hdg : decode cc pc = .ok (.invokevirtual 140, 3)) (hroom : 1 + 1 ≤ fr ∧ 8 + (2 + 11) + 25 ≤ lo) (hst : (rest.map fun v => v.category).sum ≤ 8) (hf : bd (Rf_isPart c_m x1) K = some oo) (kk : ∀ (r : Int32), K r = some oo → V X 0 0 (wR a T c_m c_saved c_savedCount c_script c_scriptLength c_code c_lineParts c_lengths c_fractions c_pulseMany c_times c_energies c_far c_near c_echoes c_left c_dropped c_merged c_drops c_contributions c_packet c_peelResult c_peelTime c_peelSum c_at c_commands c_draft c_hash) lv (pc + 3) (.int r :: rest)) : V X 0 0 (wR a T c_m c_saved c_savedCount c_script c_scriptLength c_code c_lineParts c_lengths c_fractions c_pulseMany c_times c_energies c_far c_near c_echoes c_left c_dropped c_merged c_drops c_contributions c_packet c_peelResult c_peelTime c_peelSum c_at c_commands c_draft c_hash) lv pc (.int x1 :: .ref (a 0) :: rest) := by
  obtain ⟨r, hc, hk⟩ := bd_some hf
  exact v_callV (As := [.int x1]) (rest := rest) (q0 := 0) 1 C (CapOK.z X) (fun D => Rm_isPart hc) (goodV wmethodLink_RX10_140_yX10_isPart winstanceMethod_yX10_isPart wselects_RX10_yX10_isPart_yX10_isPart winitialized_RX10 wcode_yX10_isPart_cX10_isPart_2_some_boolean) (by decide +kernel) hroom ⟨rfl, rfl⟩ rfl rfl rfl hst hdg (kk r hk)
def Rf_window (c_m : Nat → Int64) : Option Int32 :=
  chk (inb (19 : Int32) 431) <| nm (c_m (19 : Int32).toNatClampNeg) fun z6 =>
  nm (z6.toInt32) fun z7 =>
  some z7
set_option maxRecDepth 100000 in
set_option maxHeartbeats 4000000 in
theorem Rb_window (C : Cx X G T cX10_window RX10 (some .int) 1 0 0)  {r : Int32} (hret : RetOK X 0 0 (some (.int r)) (wR a T c_m c_saved c_savedCount c_script c_scriptLength c_code c_lineParts c_lengths c_fractions c_pulseMany c_times c_energies c_far c_near c_echoes c_left c_dropped c_merged c_drops c_contributions c_packet c_peelResult c_peelTime c_peelSum c_at c_commands c_draft c_hash)) (hf : Rf_window c_m = some r) : V X 0 0 (wR a T c_m c_saved c_savedCount c_script c_scriptLength c_code c_lineParts c_lengths c_fractions c_pulseMany c_times c_energies c_far c_near c_echoes c_left c_dropped c_merged c_drops c_contributions c_packet c_peelResult c_peelTime c_peelSum c_at c_commands c_draft c_hash) [(0, .ref (a 0))] 0 [] := by
  unfold Rf_window at hf
  refine v_aload_n 0 C dX10_window_0 rfl rfl ?_
  refine Rg_m C dX10_window_1 ?_
  refine v_bipush (v := 19) C dX10_window_4 (by decide) ?_
  refine Ral_m C dX10_window_6 hf (fun z6 hf => ?_)
  refine v_l2i C dX10_window_7 hf (fun z7 hf => ?_)
  cases hf
  exact v_iret C hret dX10_window_8
set_option maxRecDepth 100000 in
set_option maxHeartbeats 4000000 in
theorem Rm_window {D : va_G}  {r : Int32} (hf : Rf_window c_m = some r) : MetM G yX10_window cX10_window 1 (some .int) { frames := 0, cells := 0, slots := 0, locals := 0 } D T [.ref (a 0)] (wR a T c_m c_saved c_savedCount c_script c_scriptLength c_code c_lineParts c_lengths c_fractions c_pulseMany c_times c_energies c_far c_near c_echoes c_left c_dropped c_merged c_drops c_contributions c_packet c_peelResult c_peelTime c_peelSum c_at c_commands c_draft c_hash) (some (.int r)) (wR a T c_m c_saved c_savedCount c_script c_scriptLength c_code c_lineParts c_lengths c_fractions c_pulseMany c_times c_energies c_far c_near c_echoes c_left c_dropped c_merged c_drops c_contributions c_packet c_peelResult c_peelTime c_peelSum c_at c_commands c_draft c_hash) :=
  MetM.of [(0, .ref (a 0))] (by decide) (Nat.le_of_ble_eq_true rfl) rfl (fun X C hret => Rb_window C hret hf)
set_option maxRecDepth 100000 in
theorem Rc_window  {cc : ByteArray} {ret : Option FieldType} {nl fr lo pc : Nat} {lv : List (Nat × Value)} {rest : List Value} {β : Type} {K : Int32 → Option β} {oo : β} (C : Cx X G T cc RX10 ret nl fr lo) (hdg : decode cc pc = .ok (.invokevirtual 110, 3)) (hroom : 0 + 1 ≤ fr ∧ 8 + (1 + 11) + 0 ≤ lo) (hst : (rest.map fun v => v.category).sum ≤ 8) (hf : bd (Rf_window c_m) K = some oo) (kk : ∀ (r : Int32), K r = some oo → V X 0 0 (wR a T c_m c_saved c_savedCount c_script c_scriptLength c_code c_lineParts c_lengths c_fractions c_pulseMany c_times c_energies c_far c_near c_echoes c_left c_dropped c_merged c_drops c_contributions c_packet c_peelResult c_peelTime c_peelSum c_at c_commands c_draft c_hash) lv (pc + 3) (.int r :: rest)) : V X 0 0 (wR a T c_m c_saved c_savedCount c_script c_scriptLength c_code c_lineParts c_lengths c_fractions c_pulseMany c_times c_energies c_far c_near c_echoes c_left c_dropped c_merged c_drops c_contributions c_packet c_peelResult c_peelTime c_peelSum c_at c_commands c_draft c_hash) lv pc (.ref (a 0) :: rest) := by
  obtain ⟨r, hc, hk⟩ := bd_some hf
  exact v_callV (As := []) (rest := rest) (q0 := 0) 0 C (CapOK.z X) (fun D => Rm_window hc) (goodV wmethodLink_RX10_110_yX10_window winstanceMethod_yX10_window wselects_RX10_yX10_window_yX10_window winitialized_RX10 wcode_yX10_window_cX10_window_1_some_int) (by decide +kernel) hroom ⟨rfl, rfl⟩ rfl rfl rfl hst hdg (kk r hk)
def Rf_contribute_16 (c_contributions : Int32) (c_packet : Int64) (x1 : Int64) (s1 : Int32) (s2 : Int32) : Option (Int32 × Int64) :=
  nm (s1 + s2) fun z16 =>
  nm (c_packet + x1) fun z26 =>
  some (z16, z26)
set_option maxRecDepth 100000 in
set_option maxHeartbeats 4000000 in
theorem Rb_contribute_16 (C : Cx X G T cX10_contribute RX10 none 3 0 0) {x1 : Int64} {s1 : Int32} {s2 : Int32} {o_contributions : Int32} {o_packet : Int64} (hret : RetOK X 0 0 none (wR a T c_m c_saved c_savedCount c_script c_scriptLength c_code c_lineParts c_lengths c_fractions c_pulseMany c_times c_energies c_far c_near c_echoes c_left c_dropped c_merged c_drops o_contributions o_packet c_peelResult c_peelTime c_peelSum c_at c_commands c_draft c_hash)) (hf : Rf_contribute_16 c_contributions c_packet x1 s1 s2 = some (o_contributions, o_packet)) : V X 0 0 (wR a T c_m c_saved c_savedCount c_script c_scriptLength c_code c_lineParts c_lengths c_fractions c_pulseMany c_times c_energies c_far c_near c_echoes c_left c_dropped c_merged c_drops c_contributions c_packet c_peelResult c_peelTime c_peelSum c_at c_commands c_draft c_hash) [(0, .ref (a 0)), (1, .long x1)] 16 [.int s2, .int s1, .ref (a 0)] := by
  unfold Rf_contribute_16 at hf
  refine v_iadd C dX10_contribute_16 hf (fun z16 hf => ?_)
  refine Rp_contributions C dX10_contribute_17 ?_
  refine v_aload_n 0 C dX10_contribute_20 rfl rfl ?_
  refine v_dup C dX10_contribute_21 rfl ?_
  refine Rg_packet C dX10_contribute_22 ?_
  refine v_lload_n 1 C dX10_contribute_25 rfl rfl ?_
  refine v_ladd C dX10_contribute_26 hf (fun z26 hf => ?_)
  refine Rp_packet C dX10_contribute_27 ?_
  cases hf
  exact v_vret C hret dX10_contribute_30
def Rf_contribute (c_contributions : Int32) (c_packet : Int64) (x1 : Int64) : Option (Int32 × Int64) :=
  if x1 ≤ (0 : Int64) then
    Rf_contribute_16 c_contributions c_packet x1 c_contributions (0 : Int32)
  else
    Rf_contribute_16 c_contributions c_packet x1 c_contributions (1 : Int32)
set_option maxRecDepth 100000 in
set_option maxHeartbeats 4000000 in
theorem Rb_contribute (C : Cx X G T cX10_contribute RX10 none 3 0 0) {x1 : Int64} {o_contributions : Int32} {o_packet : Int64} (hret : RetOK X 0 0 none (wR a T c_m c_saved c_savedCount c_script c_scriptLength c_code c_lineParts c_lengths c_fractions c_pulseMany c_times c_energies c_far c_near c_echoes c_left c_dropped c_merged c_drops o_contributions o_packet c_peelResult c_peelTime c_peelSum c_at c_commands c_draft c_hash)) (hf : Rf_contribute c_contributions c_packet x1 = some (o_contributions, o_packet)) : V X 0 0 (wR a T c_m c_saved c_savedCount c_script c_scriptLength c_code c_lineParts c_lengths c_fractions c_pulseMany c_times c_energies c_far c_near c_echoes c_left c_dropped c_merged c_drops c_contributions c_packet c_peelResult c_peelTime c_peelSum c_at c_commands c_draft c_hash) [(0, .ref (a 0)), (1, .long x1)] 0 [] := by
  unfold Rf_contribute at hf
  refine v_aload_n 0 C dX10_contribute_0 rfl rfl ?_
  refine v_dup C dX10_contribute_1 rfl ?_
  refine Rg_contributions C dX10_contribute_2 ?_
  refine v_lload_n 1 C dX10_contribute_5 rfl rfl ?_
  refine v_lconst (v := 0) C dX10_contribute_6 (by decide) ?_
  refine v_lcmp_le 15 C dX10_contribute_7 dX10_contribute_8 (by decide) hf (fun c hf => ?_) (fun c hf => ?_)
  · refine v_iconst (v := 0) C dX10_contribute_15 (by decide) ?_
    exact Rb_contribute_16 C hret hf
  · refine v_iconst (v := 1) C dX10_contribute_11 (by decide) ?_
    refine v_goto 16 C dX10_contribute_12 (by decide) ?_
    exact Rb_contribute_16 C hret hf
set_option maxRecDepth 100000 in
set_option maxHeartbeats 4000000 in
theorem Rm_contribute {D : va_G} {x1 : Int64} {o_contributions : Int32} {o_packet : Int64} (hf : Rf_contribute c_contributions c_packet x1 = some (o_contributions, o_packet)) : MetM G yX10_contribute cX10_contribute 3 none { frames := 0, cells := 0, slots := 0, locals := 0 } D T [.ref (a 0), .long x1] (wR a T c_m c_saved c_savedCount c_script c_scriptLength c_code c_lineParts c_lengths c_fractions c_pulseMany c_times c_energies c_far c_near c_echoes c_left c_dropped c_merged c_drops c_contributions c_packet c_peelResult c_peelTime c_peelSum c_at c_commands c_draft c_hash) none (wR a T c_m c_saved c_savedCount c_script c_scriptLength c_code c_lineParts c_lengths c_fractions c_pulseMany c_times c_energies c_far c_near c_echoes c_left c_dropped c_merged c_drops o_contributions o_packet c_peelResult c_peelTime c_peelSum c_at c_commands c_draft c_hash) :=
  MetM.of [(0, .ref (a 0)), (1, .long x1)] (by decide) (Nat.le_of_ble_eq_true rfl) rfl (fun X C hret => Rb_contribute C hret hf)
set_option maxRecDepth 100000 in
theorem Rc_contribute {x1 : Int64} {cc : ByteArray} {ret : Option FieldType} {nl fr lo pc : Nat} {lv : List (Nat × Value)} {rest : List Value} {β : Type} {K : (Int32 × Int64) → Option β} {oo : β} (C : Cx X G T cc RX10 ret nl fr lo) (hdg : decode cc pc = .ok (.invokevirtual 87, 3)) (hroom : 0 + 1 ≤ fr ∧ 8 + (3 + 11) + 0 ≤ lo) (hst : (rest.map fun v => v.category).sum ≤ 8) (hf : bd (Rf_contribute c_contributions c_packet x1) K = some oo) (kk : ∀ (o_contributions : Int32) (o_packet : Int64), K (o_contributions, o_packet) = some oo → V X 0 0 (wR a T c_m c_saved c_savedCount c_script c_scriptLength c_code c_lineParts c_lengths c_fractions c_pulseMany c_times c_energies c_far c_near c_echoes c_left c_dropped c_merged c_drops o_contributions o_packet c_peelResult c_peelTime c_peelSum c_at c_commands c_draft c_hash) lv (pc + 3) rest) : V X 0 0 (wR a T c_m c_saved c_savedCount c_script c_scriptLength c_code c_lineParts c_lengths c_fractions c_pulseMany c_times c_energies c_far c_near c_echoes c_left c_dropped c_merged c_drops c_contributions c_packet c_peelResult c_peelTime c_peelSum c_at c_commands c_draft c_hash) lv pc (.long x1 :: .ref (a 0) :: rest) := by
  obtain ⟨⟨o_contributions, o_packet⟩, hc, hk⟩ := bd_some hf
  exact v_callV (As := [.long x1]) (rest := rest) (q0 := 0) 1 C (CapOK.z X) (fun D => Rm_contribute hc) (goodV wmethodLink_RX10_87_yX10_contribute winstanceMethod_yX10_contribute wselects_RX10_yX10_contribute_yX10_contribute winitialized_RX10 wcode_yX10_contribute_cX10_contribute_3_none) (by decide +kernel) hroom ⟨rfl, rfl⟩ rfl rfl rfl hst hdg (kk o_contributions o_packet hk)
def Rf_setsOut_67 (c_dropped : Int64) (c_merged : Int32) (c_drops : Int32) (c_contributions : Int32) (c_packet : Int64) (x1 : Int64) : Option (Int64 × Int32 × Int32 × Int32 × Int64 × Int64) :=
  some (c_dropped, c_merged, c_drops, (0 : Int32), (0 : Int64), x1)
set_option maxRecDepth 100000 in
set_option maxHeartbeats 4000000 in
theorem Rb_setsOut_67 (C : Cx X G T cX10_setsOut RX10 (some .long) 3 0 0) {x1 : Int64} {o_dropped : Int64} {o_merged : Int32} {o_drops : Int32} {o_contributions : Int32} {o_packet : Int64} {r : Int64} (hret : RetOK X 0 0 (some (.long r)) (wR a T c_m c_saved c_savedCount c_script c_scriptLength c_code c_lineParts c_lengths c_fractions c_pulseMany c_times c_energies c_far c_near c_echoes c_left o_dropped o_merged o_drops o_contributions o_packet c_peelResult c_peelTime c_peelSum c_at c_commands c_draft c_hash)) (hf : Rf_setsOut_67 c_dropped c_merged c_drops c_contributions c_packet x1 = some (o_dropped, o_merged, o_drops, o_contributions, o_packet, r)) : V X 0 0 (wR a T c_m c_saved c_savedCount c_script c_scriptLength c_code c_lineParts c_lengths c_fractions c_pulseMany c_times c_energies c_far c_near c_echoes c_left c_dropped c_merged c_drops c_contributions c_packet c_peelResult c_peelTime c_peelSum c_at c_commands c_draft c_hash) [(0, .ref (a 0)), (1, .long x1)] 67 [] := by
  unfold Rf_setsOut_67 at hf
  refine v_aload_n 0 C dX10_setsOut_67 rfl rfl ?_
  refine v_iconst (v := 0) C dX10_setsOut_68 (by decide) ?_
  refine Rp_contributions C dX10_setsOut_69 ?_
  refine v_aload_n 0 C dX10_setsOut_72 rfl rfl ?_
  refine v_lconst (v := 0) C dX10_setsOut_73 (by decide) ?_
  refine Rp_packet C dX10_setsOut_74 ?_
  refine v_lload_n 1 C dX10_setsOut_77 rfl rfl ?_
  cases hf
  exact v_lret C hret dX10_setsOut_78
def Rf_setsOut_18 (c_m : Nat → Int64) (c_dropped : Int64) (c_merged : Int32) (c_drops : Int32) (c_contributions : Int32) (c_packet : Int64) (s1 : Int32) (s2 : Int32) : Option (Int64 × Int32 × Int32 × Int32 × Int64 × Int64) :=
  nm (s1 + s2) fun z18 =>
  if c_packet ≤ (0 : Int64) then
    Rf_setsOut_67 c_dropped z18 c_drops c_contributions c_packet c_packet
  else
    chk (inb (18 : Int32) 431) <| nm (c_m (18 : Int32).toNatClampNeg) fun z40 =>
    if z40 ≤ c_packet then
      Rf_setsOut_67 c_dropped z18 c_drops c_contributions c_packet c_packet
    else
      nm (c_drops + (1 : Int32)) fun z51 =>
      nm (c_dropped + c_packet) fun z61 =>
      Rf_setsOut_67 z61 z18 z51 c_contributions c_packet (0 : Int64)
set_option maxRecDepth 100000 in
set_option maxHeartbeats 4000000 in
theorem Rb_setsOut_18 (C : Cx X G T cX10_setsOut RX10 (some .long) 3 0 0) {s1 : Int32} {s2 : Int32} {o_dropped : Int64} {o_merged : Int32} {o_drops : Int32} {o_contributions : Int32} {o_packet : Int64} {r : Int64} (hret : RetOK X 0 0 (some (.long r)) (wR a T c_m c_saved c_savedCount c_script c_scriptLength c_code c_lineParts c_lengths c_fractions c_pulseMany c_times c_energies c_far c_near c_echoes c_left o_dropped o_merged o_drops o_contributions o_packet c_peelResult c_peelTime c_peelSum c_at c_commands c_draft c_hash)) (hf : Rf_setsOut_18 c_m c_dropped c_merged c_drops c_contributions c_packet s1 s2 = some (o_dropped, o_merged, o_drops, o_contributions, o_packet, r)) : V X 0 0 (wR a T c_m c_saved c_savedCount c_script c_scriptLength c_code c_lineParts c_lengths c_fractions c_pulseMany c_times c_energies c_far c_near c_echoes c_left c_dropped c_merged c_drops c_contributions c_packet c_peelResult c_peelTime c_peelSum c_at c_commands c_draft c_hash) [(0, .ref (a 0))] 18 [.int s2, .int s1, .ref (a 0)] := by
  unfold Rf_setsOut_18 at hf
  refine v_iadd C dX10_setsOut_18 hf (fun z18 hf => ?_)
  refine Rp_merged C dX10_setsOut_19 ?_
  refine v_aload_n 0 C dX10_setsOut_22 rfl rfl ?_
  refine Rg_packet C dX10_setsOut_23 ?_
  refine v_lstore_n [(0, .ref (a 0)), (1, .long c_packet)] [1, 0] C dX10_setsOut_26 rfl (by decide) rfl ?_
  refine v_lload_n 1 C dX10_setsOut_27 rfl rfl ?_
  refine v_lconst (v := 0) C dX10_setsOut_28 (by decide) ?_
  refine v_lcmp_le 67 C dX10_setsOut_29 dX10_setsOut_30 (by decide) hf (fun c hf => ?_) (fun c hf => ?_)
  · exact Rb_setsOut_67 C hret hf
  · refine v_lload_n 1 C dX10_setsOut_33 rfl rfl ?_
    refine v_aload_n 0 C dX10_setsOut_34 rfl rfl ?_
    refine Rg_m C dX10_setsOut_35 ?_
    refine v_bipush (v := 18) C dX10_setsOut_38 (by decide) ?_
    refine Ral_m C dX10_setsOut_40 hf (fun z40 hf => ?_)
    refine v_lcmp_ge 67 C dX10_setsOut_41 dX10_setsOut_42 (by decide) hf (fun c hf => ?_) (fun c hf => ?_)
    · exact Rb_setsOut_67 C hret hf
    · refine v_aload_n 0 C dX10_setsOut_45 rfl rfl ?_
      refine v_dup C dX10_setsOut_46 rfl ?_
      refine Rg_drops C dX10_setsOut_47 ?_
      refine v_iconst (v := 1) C dX10_setsOut_50 (by decide) ?_
      refine v_iadd C dX10_setsOut_51 hf (fun z51 hf => ?_)
      refine Rp_drops C dX10_setsOut_52 ?_
      refine v_aload_n 0 C dX10_setsOut_55 rfl rfl ?_
      refine v_dup C dX10_setsOut_56 rfl ?_
      refine Rg_dropped C dX10_setsOut_57 ?_
      refine v_lload_n 1 C dX10_setsOut_60 rfl rfl ?_
      refine v_ladd C dX10_setsOut_61 hf (fun z61 hf => ?_)
      refine Rp_dropped C dX10_setsOut_62 ?_
      refine v_lconst (v := 0) C dX10_setsOut_65 (by decide) ?_
      refine v_lstore_n [(0, .ref (a 0)), (1, .long (0 : Int64))] [1, 0] C dX10_setsOut_66 rfl (by decide) rfl ?_
      exact Rb_setsOut_67 C hret hf
def Rf_setsOut (c_m : Nat → Int64) (c_dropped : Int64) (c_merged : Int32) (c_drops : Int32) (c_contributions : Int32) (c_packet : Int64) : Option (Int64 × Int32 × Int32 × Int32 × Int64 × Int64) :=
  if c_contributions ≤ (1 : Int32) then
    Rf_setsOut_18 c_m c_dropped c_merged c_drops c_contributions c_packet c_merged (0 : Int32)
  else
    Rf_setsOut_18 c_m c_dropped c_merged c_drops c_contributions c_packet c_merged (1 : Int32)
set_option maxRecDepth 100000 in
set_option maxHeartbeats 4000000 in
theorem Rb_setsOut (C : Cx X G T cX10_setsOut RX10 (some .long) 3 0 0)  {o_dropped : Int64} {o_merged : Int32} {o_drops : Int32} {o_contributions : Int32} {o_packet : Int64} {r : Int64} (hret : RetOK X 0 0 (some (.long r)) (wR a T c_m c_saved c_savedCount c_script c_scriptLength c_code c_lineParts c_lengths c_fractions c_pulseMany c_times c_energies c_far c_near c_echoes c_left o_dropped o_merged o_drops o_contributions o_packet c_peelResult c_peelTime c_peelSum c_at c_commands c_draft c_hash)) (hf : Rf_setsOut c_m c_dropped c_merged c_drops c_contributions c_packet = some (o_dropped, o_merged, o_drops, o_contributions, o_packet, r)) : V X 0 0 (wR a T c_m c_saved c_savedCount c_script c_scriptLength c_code c_lineParts c_lengths c_fractions c_pulseMany c_times c_energies c_far c_near c_echoes c_left c_dropped c_merged c_drops c_contributions c_packet c_peelResult c_peelTime c_peelSum c_at c_commands c_draft c_hash) [(0, .ref (a 0))] 0 [] := by
  unfold Rf_setsOut at hf
  refine v_aload_n 0 C dX10_setsOut_0 rfl rfl ?_
  refine v_dup C dX10_setsOut_1 rfl ?_
  refine Rg_merged C dX10_setsOut_2 ?_
  refine v_aload_n 0 C dX10_setsOut_5 rfl rfl ?_
  refine Rg_contributions C dX10_setsOut_6 ?_
  refine v_iconst (v := 1) C dX10_setsOut_9 (by decide) ?_
  refine v_icmp_le 17 C dX10_setsOut_10 (by decide) hf (fun c hf => ?_) (fun c hf => ?_)
  · refine v_iconst (v := 0) C dX10_setsOut_17 (by decide) ?_
    exact Rb_setsOut_18 C hret hf
  · refine v_iconst (v := 1) C dX10_setsOut_13 (by decide) ?_
    refine v_goto 18 C dX10_setsOut_14 (by decide) ?_
    exact Rb_setsOut_18 C hret hf
set_option maxRecDepth 100000 in
set_option maxHeartbeats 4000000 in
theorem Rm_setsOut {D : va_G}  {o_dropped : Int64} {o_merged : Int32} {o_drops : Int32} {o_contributions : Int32} {o_packet : Int64} {r : Int64} (hf : Rf_setsOut c_m c_dropped c_merged c_drops c_contributions c_packet = some (o_dropped, o_merged, o_drops, o_contributions, o_packet, r)) : MetM G yX10_setsOut cX10_setsOut 3 (some .long) { frames := 0, cells := 0, slots := 0, locals := 0 } D T [.ref (a 0)] (wR a T c_m c_saved c_savedCount c_script c_scriptLength c_code c_lineParts c_lengths c_fractions c_pulseMany c_times c_energies c_far c_near c_echoes c_left c_dropped c_merged c_drops c_contributions c_packet c_peelResult c_peelTime c_peelSum c_at c_commands c_draft c_hash) (some (.long r)) (wR a T c_m c_saved c_savedCount c_script c_scriptLength c_code c_lineParts c_lengths c_fractions c_pulseMany c_times c_energies c_far c_near c_echoes c_left o_dropped o_merged o_drops o_contributions o_packet c_peelResult c_peelTime c_peelSum c_at c_commands c_draft c_hash) :=
  MetM.of [(0, .ref (a 0))] (by decide) (Nat.le_of_ble_eq_true rfl) rfl (fun X C hret => Rb_setsOut C hret hf)
set_option maxRecDepth 100000 in
theorem Rc_setsOut  {cc : ByteArray} {ret : Option FieldType} {nl fr lo pc : Nat} {lv : List (Nat × Value)} {rest : List Value} {β : Type} {K : (Int64 × Int32 × Int32 × Int32 × Int64 × Int64) → Option β} {oo : β} (C : Cx X G T cc RX10 ret nl fr lo) (hdg : decode cc pc = .ok (.invokevirtual 103, 3)) (hroom : 0 + 1 ≤ fr ∧ 8 + (3 + 11) + 0 ≤ lo) (hst : (rest.map fun v => v.category).sum ≤ 8) (hf : bd (Rf_setsOut c_m c_dropped c_merged c_drops c_contributions c_packet) K = some oo) (kk : ∀ (o_dropped : Int64) (o_merged : Int32) (o_drops : Int32) (o_contributions : Int32) (o_packet : Int64) (r : Int64), K (o_dropped, o_merged, o_drops, o_contributions, o_packet, r) = some oo → V X 0 0 (wR a T c_m c_saved c_savedCount c_script c_scriptLength c_code c_lineParts c_lengths c_fractions c_pulseMany c_times c_energies c_far c_near c_echoes c_left o_dropped o_merged o_drops o_contributions o_packet c_peelResult c_peelTime c_peelSum c_at c_commands c_draft c_hash) lv (pc + 3) (.long r :: rest)) : V X 0 0 (wR a T c_m c_saved c_savedCount c_script c_scriptLength c_code c_lineParts c_lengths c_fractions c_pulseMany c_times c_energies c_far c_near c_echoes c_left c_dropped c_merged c_drops c_contributions c_packet c_peelResult c_peelTime c_peelSum c_at c_commands c_draft c_hash) lv pc (.ref (a 0) :: rest) := by
  obtain ⟨⟨o_dropped, o_merged, o_drops, o_contributions, o_packet, r⟩, hc, hk⟩ := bd_some hf
  exact v_callV (As := []) (rest := rest) (q0 := 0) 0 C (CapOK.z X) (fun D => Rm_setsOut hc) (goodV wmethodLink_RX10_103_yX10_setsOut winstanceMethod_yX10_setsOut wselects_RX10_yX10_setsOut_yX10_setsOut winitialized_RX10 wcode_yX10_setsOut_cX10_setsOut_3_some_long) (by decide +kernel) hroom ⟨rfl, rfl⟩ rfl rfl rfl hst hdg (kk o_dropped o_merged o_drops o_contributions o_packet r hk)
def Rf_arrives_38  : Option Int64 :=
  some (0 : Int64)
set_option maxRecDepth 100000 in
set_option maxHeartbeats 4000000 in
theorem Rb_arrives_38 (C : Cx X G T cX10_arrives RX10 (some .long) 6 0 0)  {r : Int64} (hret : RetOK X 0 0 (some (.long r)) (wR a T c_m c_saved c_savedCount c_script c_scriptLength c_code c_lineParts c_lengths c_fractions c_pulseMany c_times c_energies c_far c_near c_echoes c_left c_dropped c_merged c_drops c_contributions c_packet c_peelResult c_peelTime c_peelSum c_at c_commands c_draft c_hash)) (hf : Rf_arrives_38  = some r) : V X 0 0 (wR a T c_m c_saved c_savedCount c_script c_scriptLength c_code c_lineParts c_lengths c_fractions c_pulseMany c_times c_energies c_far c_near c_echoes c_left c_dropped c_merged c_drops c_contributions c_packet c_peelResult c_peelTime c_peelSum c_at c_commands c_draft c_hash) [] 38 [] := by
  unfold Rf_arrives_38 at hf
  refine v_lconst (v := 0) C dX10_arrives_38 (by decide) ?_
  cases hf
  exact v_lret C hret dX10_arrives_39
def Rf_arrives_88 (s0 : Int64) : Option Int64 :=
  some s0
set_option maxRecDepth 100000 in
set_option maxHeartbeats 4000000 in
theorem Rb_arrives_88 (C : Cx X G T cX10_arrives RX10 (some .long) 6 0 0) {s0 : Int64} {r : Int64} (hret : RetOK X 0 0 (some (.long r)) (wR a T c_m c_saved c_savedCount c_script c_scriptLength c_code c_lineParts c_lengths c_fractions c_pulseMany c_times c_energies c_far c_near c_echoes c_left c_dropped c_merged c_drops c_contributions c_packet c_peelResult c_peelTime c_peelSum c_at c_commands c_draft c_hash)) (hf : Rf_arrives_88 s0 = some r) : V X 0 0 (wR a T c_m c_saved c_savedCount c_script c_scriptLength c_code c_lineParts c_lengths c_fractions c_pulseMany c_times c_energies c_far c_near c_echoes c_left c_dropped c_merged c_drops c_contributions c_packet c_peelResult c_peelTime c_peelSum c_at c_commands c_draft c_hash) [] 88 [.long s0] := by
  unfold Rf_arrives_88 at hf
  cases hf
  exact v_lret C hret dX10_arrives_88
def Rf_arrives_11 (c_lineParts : Int32) (c_lengths : Nat → Int32) (c_far : Nat → Int64) (c_near : Nat → Int64) (x1 : Int32) (x2 : Int32) (x3 : Int32) (s0 : Int32) : Option Int64 :=
  if s0 < 0 then
    Rf_arrives_38 
  else
    if c_lineParts ≤ s0 then
      Rf_arrives_38 
    else
      chk (inb s0 8) <| nm (c_lengths s0.toNatClampNeg) fun z34 =>
      if z34 ≤ x2 then
        chk (inb s0 8) <| nm (c_lengths s0.toNatClampNeg) fun z47 =>
        nm (x2 - z47) fun z48 =>
        if x3 = 0 then
          nm (x1 - (1 : Int32)) fun z82 =>
          nm ((201 : Int32) * z82) fun z83 =>
          nm (z83 + z48) fun z86 =>
          chk (inb z86 1809) <| nm (c_far z86.toNatClampNeg) fun z87 =>
          Rf_arrives_88 z87
        else
          nm (x1 + (1 : Int32)) fun z64 =>
          nm ((201 : Int32) * z64) fun z65 =>
          nm (z65 + z48) fun z68 =>
          chk (inb z68 1809) <| nm (c_near z68.toNatClampNeg) fun z69 =>
          Rf_arrives_88 z69
      else
        Rf_arrives_38 
set_option maxRecDepth 100000 in
set_option maxHeartbeats 4000000 in
theorem Rb_arrives_11 (C : Cx X G T cX10_arrives RX10 (some .long) 6 0 0) {x1 : Int32} {x2 : Int32} {x3 : Int32} {s0 : Int32} {r : Int64} (hret : RetOK X 0 0 (some (.long r)) (wR a T c_m c_saved c_savedCount c_script c_scriptLength c_code c_lineParts c_lengths c_fractions c_pulseMany c_times c_energies c_far c_near c_echoes c_left c_dropped c_merged c_drops c_contributions c_packet c_peelResult c_peelTime c_peelSum c_at c_commands c_draft c_hash)) (hf : Rf_arrives_11 c_lineParts c_lengths c_far c_near x1 x2 x3 s0 = some r) : V X 0 0 (wR a T c_m c_saved c_savedCount c_script c_scriptLength c_code c_lineParts c_lengths c_fractions c_pulseMany c_times c_energies c_far c_near c_echoes c_left c_dropped c_merged c_drops c_contributions c_packet c_peelResult c_peelTime c_peelSum c_at c_commands c_draft c_hash) [(0, .ref (a 0)), (1, .int x1), (2, .int x2), (3, .int x3)] 11 [.int s0] := by
  unfold Rf_arrives_11 at hf
  refine v_istore [(0, .ref (a 0)), (1, .int x1), (2, .int x2), (3, .int x3), (4, .int s0)] [1, 2, 3, 4, 0] C dX10_arrives_11 (by decide) rfl ?_
  refine v_iload 4 C dX10_arrives_13 rfl ?_
  refine v_if_lt 38 C dX10_arrives_15 (by decide) hf (fun c hf => ?_) (fun c hf => ?_)
  · refine v_lv [] [] rfl ?_
    exact Rb_arrives_38 C hret hf
  · refine v_iload 4 C dX10_arrives_18 rfl ?_
    refine v_aload_n 0 C dX10_arrives_20 rfl rfl ?_
    refine Rg_lineParts C dX10_arrives_21 ?_
    refine v_icmp_ge 38 C dX10_arrives_24 (by decide) hf (fun c hf => ?_) (fun c hf => ?_)
    · refine v_lv [] [] rfl ?_
      exact Rb_arrives_38 C hret hf
    · refine v_iload_n 2 C dX10_arrives_27 rfl rfl ?_
      refine v_aload_n 0 C dX10_arrives_28 rfl rfl ?_
      refine Rg_lengths C dX10_arrives_29 ?_
      refine v_iload 4 C dX10_arrives_32 rfl ?_
      refine Ral_lengths C dX10_arrives_34 hf (fun z34 hf => ?_)
      refine v_icmp_ge 40 C dX10_arrives_35 (by decide) hf (fun c hf => ?_) (fun c hf => ?_)
      · refine v_iload_n 2 C dX10_arrives_40 rfl rfl ?_
        refine v_aload_n 0 C dX10_arrives_41 rfl rfl ?_
        refine Rg_lengths C dX10_arrives_42 ?_
        refine v_iload 4 C dX10_arrives_45 rfl ?_
        refine Ral_lengths C dX10_arrives_47 hf (fun z47 hf => ?_)
        refine v_isub C dX10_arrives_48 hf (fun z48 hf => ?_)
        refine v_istore [(0, .ref (a 0)), (1, .int x1), (3, .int x3), (5, .int z48)] [1, 2, 4, 0] C dX10_arrives_49 (by decide) rfl ?_
        refine v_iload_n 2 C dX10_arrives_51 rfl rfl ?_
        refine v_if_eq 73 C dX10_arrives_52 (by decide) hf (fun c hf => ?_) (fun c hf => ?_)
        · refine v_aload_n 0 C dX10_arrives_73 rfl rfl ?_
          refine Rg_far C dX10_arrives_74 ?_
          refine v_sipush (v := 201) C dX10_arrives_77 (by decide) ?_
          refine v_iload_n 1 C dX10_arrives_80 rfl rfl ?_
          refine v_iconst (v := 1) C dX10_arrives_81 (by decide) ?_
          refine v_isub C dX10_arrives_82 hf (fun z82 hf => ?_)
          refine v_imul C dX10_arrives_83 hf (fun z83 hf => ?_)
          refine v_iload 3 C dX10_arrives_84 rfl ?_
          refine v_iadd C dX10_arrives_86 hf (fun z86 hf => ?_)
          refine Ral_far C dX10_arrives_87 hf (fun z87 hf => ?_)
          refine v_lv [] [] rfl ?_
          exact Rb_arrives_88 C hret hf
        · refine v_aload_n 0 C dX10_arrives_55 rfl rfl ?_
          refine Rg_near C dX10_arrives_56 ?_
          refine v_sipush (v := 201) C dX10_arrives_59 (by decide) ?_
          refine v_iload_n 1 C dX10_arrives_62 rfl rfl ?_
          refine v_iconst (v := 1) C dX10_arrives_63 (by decide) ?_
          refine v_iadd C dX10_arrives_64 hf (fun z64 hf => ?_)
          refine v_imul C dX10_arrives_65 hf (fun z65 hf => ?_)
          refine v_iload 3 C dX10_arrives_66 rfl ?_
          refine v_iadd C dX10_arrives_68 hf (fun z68 hf => ?_)
          refine Ral_near C dX10_arrives_69 hf (fun z69 hf => ?_)
          refine v_goto 88 C dX10_arrives_70 (by decide) ?_
          refine v_lv [] [] rfl ?_
          exact Rb_arrives_88 C hret hf
      · refine v_lv [] [] rfl ?_
        exact Rb_arrives_38 C hret hf
def Rf_arrives (c_lineParts : Int32) (c_lengths : Nat → Int32) (c_far : Nat → Int64) (c_near : Nat → Int64) (x1 : Int32) (x2 : Int32) (x3 : Int32) : Option Int64 :=
  if x3 = 0 then
    nm (x1 - (1 : Int32)) fun z10 =>
    Rf_arrives_11 c_lineParts c_lengths c_far c_near x1 x2 x3 z10
  else
    Rf_arrives_11 c_lineParts c_lengths c_far c_near x1 x2 x3 x1
set_option maxRecDepth 100000 in
set_option maxHeartbeats 4000000 in
theorem Rb_arrives (C : Cx X G T cX10_arrives RX10 (some .long) 6 0 0) {x1 : Int32} {x2 : Int32} {x3 : Int32} {r : Int64} (hret : RetOK X 0 0 (some (.long r)) (wR a T c_m c_saved c_savedCount c_script c_scriptLength c_code c_lineParts c_lengths c_fractions c_pulseMany c_times c_energies c_far c_near c_echoes c_left c_dropped c_merged c_drops c_contributions c_packet c_peelResult c_peelTime c_peelSum c_at c_commands c_draft c_hash)) (hf : Rf_arrives c_lineParts c_lengths c_far c_near x1 x2 x3 = some r) : V X 0 0 (wR a T c_m c_saved c_savedCount c_script c_scriptLength c_code c_lineParts c_lengths c_fractions c_pulseMany c_times c_energies c_far c_near c_echoes c_left c_dropped c_merged c_drops c_contributions c_packet c_peelResult c_peelTime c_peelSum c_at c_commands c_draft c_hash) [(0, .ref (a 0)), (1, .int x1), (2, .int x2), (3, .int x3)] 0 [] := by
  unfold Rf_arrives at hf
  refine v_iload_n 3 C dX10_arrives_0 rfl rfl ?_
  refine v_if_eq 8 C dX10_arrives_1 (by decide) hf (fun c hf => ?_) (fun c hf => ?_)
  · refine v_iload_n 1 C dX10_arrives_8 rfl rfl ?_
    refine v_iconst (v := 1) C dX10_arrives_9 (by decide) ?_
    refine v_isub C dX10_arrives_10 hf (fun z10 hf => ?_)
    exact Rb_arrives_11 C hret hf
  · refine v_iload_n 1 C dX10_arrives_4 rfl rfl ?_
    refine v_goto 11 C dX10_arrives_5 (by decide) ?_
    exact Rb_arrives_11 C hret hf
set_option maxRecDepth 100000 in
set_option maxHeartbeats 4000000 in
theorem Rm_arrives {D : va_G} {x1 : Int32} {x2 : Int32} {x3 : Int32} {r : Int64} (hf : Rf_arrives c_lineParts c_lengths c_far c_near x1 x2 x3 = some r) : MetM G yX10_arrives cX10_arrives 6 (some .long) { frames := 0, cells := 0, slots := 0, locals := 0 } D T [.ref (a 0), .int x1, .int x2, .int x3] (wR a T c_m c_saved c_savedCount c_script c_scriptLength c_code c_lineParts c_lengths c_fractions c_pulseMany c_times c_energies c_far c_near c_echoes c_left c_dropped c_merged c_drops c_contributions c_packet c_peelResult c_peelTime c_peelSum c_at c_commands c_draft c_hash) (some (.long r)) (wR a T c_m c_saved c_savedCount c_script c_scriptLength c_code c_lineParts c_lengths c_fractions c_pulseMany c_times c_energies c_far c_near c_echoes c_left c_dropped c_merged c_drops c_contributions c_packet c_peelResult c_peelTime c_peelSum c_at c_commands c_draft c_hash) :=
  MetM.of [(0, .ref (a 0)), (1, .int x1), (2, .int x2), (3, .int x3)] (by decide) (Nat.le_of_ble_eq_true rfl) rfl (fun X C hret => Rb_arrives C hret hf)
set_option maxRecDepth 100000 in
theorem Rc_arrives {x1 : Int32} {x2 : Int32} {x3 : Int32} {cc : ByteArray} {ret : Option FieldType} {nl fr lo pc : Nat} {lv : List (Nat × Value)} {rest : List Value} {β : Type} {K : Int64 → Option β} {oo : β} (C : Cx X G T cc RX10 ret nl fr lo) (hdg : decode cc pc = .ok (.invokevirtual 91, 3)) (hroom : 0 + 1 ≤ fr ∧ 8 + (6 + 11) + 0 ≤ lo) (hst : (rest.map fun v => v.category).sum ≤ 8) (hf : bd (Rf_arrives c_lineParts c_lengths c_far c_near x1 x2 x3) K = some oo) (kk : ∀ (r : Int64), K r = some oo → V X 0 0 (wR a T c_m c_saved c_savedCount c_script c_scriptLength c_code c_lineParts c_lengths c_fractions c_pulseMany c_times c_energies c_far c_near c_echoes c_left c_dropped c_merged c_drops c_contributions c_packet c_peelResult c_peelTime c_peelSum c_at c_commands c_draft c_hash) lv (pc + 3) (.long r :: rest)) : V X 0 0 (wR a T c_m c_saved c_savedCount c_script c_scriptLength c_code c_lineParts c_lengths c_fractions c_pulseMany c_times c_energies c_far c_near c_echoes c_left c_dropped c_merged c_drops c_contributions c_packet c_peelResult c_peelTime c_peelSum c_at c_commands c_draft c_hash) lv pc (.int x3 :: .int x2 :: .int x1 :: .ref (a 0) :: rest) := by
  obtain ⟨r, hc, hk⟩ := bd_some hf
  exact v_callV (As := [.int x1, .int x2, .int x3]) (rest := rest) (q0 := 0) 3 C (CapOK.z X) (fun D => Rm_arrives hc) (goodV wmethodLink_RX10_91_yX10_arrives winstanceMethod_yX10_arrives wselects_RX10_yX10_arrives_yX10_arrives winitialized_RX10 wcode_yX10_arrives_cX10_arrives_6_some_long) (by decide +kernel) hroom ⟨rfl, rfl⟩ rfl rfl rfl hst hdg (kk r hk)
def Rf_back (c_fractions : Nat → Int32) (x1 : Int64) (x3 : Int32) : Option Int64 :=
  chk (inb x3 9) <| nm (c_fractions x3.toNatClampNeg) fun z6 =>
  nm (z6.toInt64) fun z7 =>
  nm (x1 * z7) fun z8 =>
  chk (¬ (1000 : Int64) = 0) <| nm (z8 / (1000 : Int64)) fun z12 =>
  some z12
set_option maxRecDepth 100000 in
set_option maxHeartbeats 4000000 in
theorem Rb_back (C : Cx X G T cX10_back RX10 (some .long) 4 0 0) {x1 : Int64} {x3 : Int32} {r : Int64} (hret : RetOK X 0 0 (some (.long r)) (wR a T c_m c_saved c_savedCount c_script c_scriptLength c_code c_lineParts c_lengths c_fractions c_pulseMany c_times c_energies c_far c_near c_echoes c_left c_dropped c_merged c_drops c_contributions c_packet c_peelResult c_peelTime c_peelSum c_at c_commands c_draft c_hash)) (hf : Rf_back c_fractions x1 x3 = some r) : V X 0 0 (wR a T c_m c_saved c_savedCount c_script c_scriptLength c_code c_lineParts c_lengths c_fractions c_pulseMany c_times c_energies c_far c_near c_echoes c_left c_dropped c_merged c_drops c_contributions c_packet c_peelResult c_peelTime c_peelSum c_at c_commands c_draft c_hash) [(0, .ref (a 0)), (1, .long x1), (3, .int x3)] 0 [] := by
  unfold Rf_back at hf
  refine v_lload_n 1 C dX10_back_0 rfl rfl ?_
  refine v_aload_n 0 C dX10_back_1 rfl rfl ?_
  refine Rg_fractions C dX10_back_2 ?_
  refine v_iload_n 2 C dX10_back_5 rfl rfl ?_
  refine Ral_fractions C dX10_back_6 hf (fun z6 hf => ?_)
  refine v_i2l C dX10_back_7 hf (fun z7 hf => ?_)
  refine v_lmul C dX10_back_8 hf (fun z8 hf => ?_)
  refine v_ldc2 (v := 1000) C wconstantLong_RX10_82_1000 dX10_back_9 ?_
  refine v_ldiv C dX10_back_12 hf (fun z12 hf => ?_)
  cases hf
  exact v_lret C hret dX10_back_13
set_option maxRecDepth 100000 in
set_option maxHeartbeats 4000000 in
theorem Rm_back {D : va_G} {x1 : Int64} {x3 : Int32} {r : Int64} (hf : Rf_back c_fractions x1 x3 = some r) : MetM G yX10_back cX10_back 4 (some .long) { frames := 0, cells := 0, slots := 0, locals := 0 } D T [.ref (a 0), .long x1, .int x3] (wR a T c_m c_saved c_savedCount c_script c_scriptLength c_code c_lineParts c_lengths c_fractions c_pulseMany c_times c_energies c_far c_near c_echoes c_left c_dropped c_merged c_drops c_contributions c_packet c_peelResult c_peelTime c_peelSum c_at c_commands c_draft c_hash) (some (.long r)) (wR a T c_m c_saved c_savedCount c_script c_scriptLength c_code c_lineParts c_lengths c_fractions c_pulseMany c_times c_energies c_far c_near c_echoes c_left c_dropped c_merged c_drops c_contributions c_packet c_peelResult c_peelTime c_peelSum c_at c_commands c_draft c_hash) :=
  MetM.of [(0, .ref (a 0)), (1, .long x1), (3, .int x3)] (by decide) (Nat.le_of_ble_eq_true rfl) rfl (fun X C hret => Rb_back C hret hf)
set_option maxRecDepth 100000 in
theorem Rc_back {x1 : Int64} {x3 : Int32} {cc : ByteArray} {ret : Option FieldType} {nl fr lo pc : Nat} {lv : List (Nat × Value)} {rest : List Value} {β : Type} {K : Int64 → Option β} {oo : β} (C : Cx X G T cc RX10 ret nl fr lo) (hdg : decode cc pc = .ok (.invokevirtual 95, 3)) (hroom : 0 + 1 ≤ fr ∧ 8 + (4 + 11) + 0 ≤ lo) (hst : (rest.map fun v => v.category).sum ≤ 8) (hf : bd (Rf_back c_fractions x1 x3) K = some oo) (kk : ∀ (r : Int64), K r = some oo → V X 0 0 (wR a T c_m c_saved c_savedCount c_script c_scriptLength c_code c_lineParts c_lengths c_fractions c_pulseMany c_times c_energies c_far c_near c_echoes c_left c_dropped c_merged c_drops c_contributions c_packet c_peelResult c_peelTime c_peelSum c_at c_commands c_draft c_hash) lv (pc + 3) (.long r :: rest)) : V X 0 0 (wR a T c_m c_saved c_savedCount c_script c_scriptLength c_code c_lineParts c_lengths c_fractions c_pulseMany c_times c_energies c_far c_near c_echoes c_left c_dropped c_merged c_drops c_contributions c_packet c_peelResult c_peelTime c_peelSum c_at c_commands c_draft c_hash) lv pc (.int x3 :: .long x1 :: .ref (a 0) :: rest) := by
  obtain ⟨r, hc, hk⟩ := bd_some hf
  exact v_callV (As := [.long x1, .int x3]) (rest := rest) (q0 := 0) 2 C (CapOK.z X) (fun D => Rm_back hc) (goodV wmethodLink_RX10_95_yX10_back winstanceMethod_yX10_back wselects_RX10_yX10_back_yX10_back winitialized_RX10 wcode_yX10_back_cX10_back_4_some_long) (by decide +kernel) hroom ⟨rfl, rfl⟩ rfl rfl rfl hst hdg (kk r hk)
def Rf_passPulses_31 (rec : Int32 → Int64 → Int32 → Option (Int32 × Int64)) (c_contributions : Int32) (c_packet : Int64) (x1 : Int32) (x2 : Int32) (s1 : Int64) : Option (Int32 × Int64) :=
  bd (Rf_contribute c_contributions c_packet s1) fun (contributions_31, packet_31) =>
  nm (x2 + (1 : Int32)) fun x2_34 =>
  rec contributions_31 packet_31 x2_34
set_option maxRecDepth 100000 in
set_option maxHeartbeats 4000000 in
theorem Rb_passPulses_31 (C : Cx X G T cX10_passPulses RX10 none 3 1 22) {rec : Int32 → Int64 → Int32 → Option (Int32 × Int64)} {x1 : Int32} {x2 : Int32} {s1 : Int64} {o_contributions : Int32} {o_packet : Int64} (hrec : ∀ (c_contributions : Int32) (c_packet : Int64) (x2 : Int32), rec c_contributions c_packet x2 = some (o_contributions, o_packet) → V X 0 0 (wR a T c_m c_saved c_savedCount c_script c_scriptLength c_code c_lineParts c_lengths c_fractions c_pulseMany c_times c_energies c_far c_near c_echoes c_left c_dropped c_merged c_drops c_contributions c_packet c_peelResult c_peelTime c_peelSum c_at c_commands c_draft c_hash) [(0, .ref (a 0)), (1, .int x1), (2, .int x2)] 2 []) (hk : V X 0 0 (wR a T c_m c_saved c_savedCount c_script c_scriptLength c_code c_lineParts c_lengths c_fractions c_pulseMany c_times c_energies c_far c_near c_echoes c_left c_dropped c_merged c_drops o_contributions o_packet c_peelResult c_peelTime c_peelSum c_at c_commands c_draft c_hash) [] 40 []) (hf : Rf_passPulses_31 rec c_contributions c_packet x1 x2 s1 = some (o_contributions, o_packet)) : V X 0 0 (wR a T c_m c_saved c_savedCount c_script c_scriptLength c_code c_lineParts c_lengths c_fractions c_pulseMany c_times c_energies c_far c_near c_echoes c_left c_dropped c_merged c_drops c_contributions c_packet c_peelResult c_peelTime c_peelSum c_at c_commands c_draft c_hash) [(0, .ref (a 0)), (1, .int x1), (2, .int x2)] 31 [.long s1, .ref (a 0)] := by
  unfold Rf_passPulses_31 at hf
  refine Rc_contribute C dX10_passPulses_31 (by decide) (Nat.le_of_ble_eq_true rfl) hf (fun contributions_31 packet_31 hf => ?_)
  refine v_iinc (fun x2_34 => [(0, .ref (a 0)), (1, .int x1), (2, .int x2_34)]) [1, 2, 0] C dX10_passPulses_34 (j := 2) rfl (dv := 1) (by decide) (by decide) (fun _ => rfl) hf (fun x2_34 hf => ?_)
  refine v_goto 2 C dX10_passPulses_37 (by decide) ?_
  exact hrec _ _ _ hf
def Rl_passPulses_2 (c_pulseMany : Int32) (c_times : Nat → Int32) (c_energies : Nat → Int64) (x1 : Int32) : Nat → Int32 → Int64 → Int32 → Option (Int32 × Int64)
  | 0, _, _, _ => none
  | n + 1, c_contributions, c_packet, x2 =>
    if c_pulseMany ≤ x2 then
      some (c_contributions, c_packet)
    else
      chk (inb x2 4) <| nm (c_times x2.toNatClampNeg) fun z16 =>
      if z16 = x1 then
        chk (inb x2 4) <| nm (c_energies x2.toNatClampNeg) fun z26 =>
        Rf_passPulses_31 (Rl_passPulses_2 c_pulseMany c_times c_energies x1 n) c_contributions c_packet x1 x2 z26
      else
        Rf_passPulses_31 (Rl_passPulses_2 c_pulseMany c_times c_energies x1 n) c_contributions c_packet x1 x2 (0 : Int64)
set_option maxRecDepth 100000 in
set_option maxHeartbeats 4000000 in
theorem Rk_passPulses_2 (C : Cx X G T cX10_passPulses RX10 none 3 1 22) {x1 : Int32} {o_contributions : Int32} {o_packet : Int64} (hk : V X 0 0 (wR a T c_m c_saved c_savedCount c_script c_scriptLength c_code c_lineParts c_lengths c_fractions c_pulseMany c_times c_energies c_far c_near c_echoes c_left c_dropped c_merged c_drops o_contributions o_packet c_peelResult c_peelTime c_peelSum c_at c_commands c_draft c_hash) [] 40 []) : ∀ (n : Nat) (c_contributions : Int32) (c_packet : Int64) (x2 : Int32), Rl_passPulses_2 c_pulseMany c_times c_energies x1 n c_contributions c_packet x2 = some (o_contributions, o_packet) → V X 0 0 (wR a T c_m c_saved c_savedCount c_script c_scriptLength c_code c_lineParts c_lengths c_fractions c_pulseMany c_times c_energies c_far c_near c_echoes c_left c_dropped c_merged c_drops c_contributions c_packet c_peelResult c_peelTime c_peelSum c_at c_commands c_draft c_hash) [(0, .ref (a 0)), (1, .int x1), (2, .int x2)] 2 [] := by
  intro n
  induction n with
  | zero =>
    intro _ _ _ hf
    cases hf
  | succ n hrec =>
    intro c_contributions c_packet x2 hf
    rw [Rl_passPulses_2] at hf
    refine v_iload_n 2 C dX10_passPulses_2 rfl rfl ?_
    refine v_aload_n 0 C dX10_passPulses_3 rfl rfl ?_
    refine Rg_pulseMany C dX10_passPulses_4 ?_
    refine v_icmp_ge 40 C dX10_passPulses_7 (by decide) hf (fun c hf => ?_) (fun c hf => ?_)
    · refine v_lv [] [] rfl ?_
      cases hf
      exact hk
    · refine v_aload_n 0 C dX10_passPulses_10 rfl rfl ?_
      refine v_aload_n 0 C dX10_passPulses_11 rfl rfl ?_
      refine Rg_times C dX10_passPulses_12 ?_
      refine v_iload_n 2 C dX10_passPulses_15 rfl rfl ?_
      refine Ral_times C dX10_passPulses_16 hf (fun z16 hf => ?_)
      refine v_iload_n 1 C dX10_passPulses_17 rfl rfl ?_
      refine v_icmp_ne 30 C dX10_passPulses_18 (by decide) hf (fun c hf => ?_) (fun c hf => ?_)
      · refine v_aload_n 0 C dX10_passPulses_21 rfl rfl ?_
        refine Rg_energies C dX10_passPulses_22 ?_
        refine v_iload_n 2 C dX10_passPulses_25 rfl rfl ?_
        refine Ral_energies C dX10_passPulses_26 hf (fun z26 hf => ?_)
        refine v_goto 31 C dX10_passPulses_27 (by decide) ?_
        exact Rb_passPulses_31 C hrec hk hf
      · refine v_lconst (v := 0) C dX10_passPulses_30 (by decide) ?_
        exact Rb_passPulses_31 C hrec hk hf
def Rf_passPulses (c_pulseMany : Int32) (c_times : Nat → Int32) (c_energies : Nat → Int64) (c_contributions : Int32) (c_packet : Int64) (x1 : Int32) : Option (Int32 × Int64) :=
  bd (Rl_passPulses_2 c_pulseMany c_times c_energies x1 FUEL c_contributions c_packet (0 : Int32)) fun (o_contributions_2, o_packet_2) =>
  some (o_contributions_2, o_packet_2)
set_option maxRecDepth 100000 in
set_option maxHeartbeats 4000000 in
theorem Rb_passPulses (C : Cx X G T cX10_passPulses RX10 none 3 1 22) {x1 : Int32} {o_contributions : Int32} {o_packet : Int64} (hret : RetOK X 0 0 none (wR a T c_m c_saved c_savedCount c_script c_scriptLength c_code c_lineParts c_lengths c_fractions c_pulseMany c_times c_energies c_far c_near c_echoes c_left c_dropped c_merged c_drops o_contributions o_packet c_peelResult c_peelTime c_peelSum c_at c_commands c_draft c_hash)) (hf : Rf_passPulses c_pulseMany c_times c_energies c_contributions c_packet x1 = some (o_contributions, o_packet)) : V X 0 0 (wR a T c_m c_saved c_savedCount c_script c_scriptLength c_code c_lineParts c_lengths c_fractions c_pulseMany c_times c_energies c_far c_near c_echoes c_left c_dropped c_merged c_drops c_contributions c_packet c_peelResult c_peelTime c_peelSum c_at c_commands c_draft c_hash) [(0, .ref (a 0)), (1, .int x1)] 0 [] := by
  unfold Rf_passPulses at hf
  refine v_iconst (v := 0) C dX10_passPulses_0 (by decide) ?_
  refine v_istore_n [(0, .ref (a 0)), (1, .int x1), (2, .int (0 : Int32))] [1, 2, 0] C dX10_passPulses_1 rfl (by decide) rfl ?_
  obtain ⟨⟨o_contributions_2, o_packet_2⟩, hc, hf⟩ := bd_some hf
  refine Rk_passPulses_2 C ?_ _ _ _ _ hc
  cases hf
  exact v_vret C hret dX10_passPulses_40
set_option maxRecDepth 100000 in
set_option maxHeartbeats 4000000 in
theorem Rm_passPulses {D : va_G} {x1 : Int32} {o_contributions : Int32} {o_packet : Int64} (hf : Rf_passPulses c_pulseMany c_times c_energies c_contributions c_packet x1 = some (o_contributions, o_packet)) : MetM G yX10_passPulses cX10_passPulses 3 none { frames := 1, cells := 0, slots := 0, locals := 22 } D T [.ref (a 0), .int x1] (wR a T c_m c_saved c_savedCount c_script c_scriptLength c_code c_lineParts c_lengths c_fractions c_pulseMany c_times c_energies c_far c_near c_echoes c_left c_dropped c_merged c_drops c_contributions c_packet c_peelResult c_peelTime c_peelSum c_at c_commands c_draft c_hash) none (wR a T c_m c_saved c_savedCount c_script c_scriptLength c_code c_lineParts c_lengths c_fractions c_pulseMany c_times c_energies c_far c_near c_echoes c_left c_dropped c_merged c_drops o_contributions o_packet c_peelResult c_peelTime c_peelSum c_at c_commands c_draft c_hash) :=
  MetM.of [(0, .ref (a 0)), (1, .int x1)] (by decide) (Nat.le_of_ble_eq_true rfl) rfl (fun X C hret => Rb_passPulses C hret hf)
set_option maxRecDepth 100000 in
theorem Rc_passPulses {x1 : Int32} {cc : ByteArray} {ret : Option FieldType} {nl fr lo pc : Nat} {lv : List (Nat × Value)} {rest : List Value} {β : Type} {K : (Int32 × Int64) → Option β} {oo : β} (C : Cx X G T cc RX10 ret nl fr lo) (hdg : decode cc pc = .ok (.invokevirtual 99, 3)) (hroom : 1 + 1 ≤ fr ∧ 8 + (3 + 11) + 22 ≤ lo) (hst : (rest.map fun v => v.category).sum ≤ 8) (hf : bd (Rf_passPulses c_pulseMany c_times c_energies c_contributions c_packet x1) K = some oo) (kk : ∀ (o_contributions : Int32) (o_packet : Int64), K (o_contributions, o_packet) = some oo → V X 0 0 (wR a T c_m c_saved c_savedCount c_script c_scriptLength c_code c_lineParts c_lengths c_fractions c_pulseMany c_times c_energies c_far c_near c_echoes c_left c_dropped c_merged c_drops o_contributions o_packet c_peelResult c_peelTime c_peelSum c_at c_commands c_draft c_hash) lv (pc + 3) rest) : V X 0 0 (wR a T c_m c_saved c_savedCount c_script c_scriptLength c_code c_lineParts c_lengths c_fractions c_pulseMany c_times c_energies c_far c_near c_echoes c_left c_dropped c_merged c_drops c_contributions c_packet c_peelResult c_peelTime c_peelSum c_at c_commands c_draft c_hash) lv pc (.int x1 :: .ref (a 0) :: rest) := by
  obtain ⟨⟨o_contributions, o_packet⟩, hc, hk⟩ := bd_some hf
  exact v_callV (As := [.int x1]) (rest := rest) (q0 := 0) 1 C (CapOK.z X) (fun D => Rm_passPulses hc) (goodV wmethodLink_RX10_99_yX10_passPulses winstanceMethod_yX10_passPulses wselects_RX10_yX10_passPulses_yX10_passPulses winitialized_RX10 wcode_yX10_passPulses_cX10_passPulses_3_none) (by decide +kernel) hroom ⟨rfl, rfl⟩ rfl rfl rfl hst hdg (kk o_contributions o_packet hk)
def Rf_runAt_146 (c_far : Nat → Int64) (c_near : Nat → Int64) (c_echoes : Nat → Int64) (c_left : Int64) (c_dropped : Int64) (c_merged : Int32) (c_drops : Int32) (c_contributions : Int32) (c_packet : Int64) : Option ((Nat → Int64) × (Nat → Int64) × (Nat → Int64) × Int64 × Int64 × Int32 × Int32 × Int32 × Int64) :=
  some (c_far, c_near, c_echoes, c_left, c_dropped, c_merged, c_drops, c_contributions, c_packet)
set_option maxRecDepth 100000 in
set_option maxHeartbeats 4000000 in
theorem Rb_runAt_146 (C : Cx X G T cX10_runAt RX10 none 11 2 44)  {o_far : Nat → Int64} {o_near : Nat → Int64} {o_echoes : Nat → Int64} {o_left : Int64} {o_dropped : Int64} {o_merged : Int32} {o_drops : Int32} {o_contributions : Int32} {o_packet : Int64} (hret : RetOK X 0 0 none (wR a T c_m c_saved c_savedCount c_script c_scriptLength c_code c_lineParts c_lengths c_fractions c_pulseMany c_times c_energies o_far o_near o_echoes o_left o_dropped o_merged o_drops o_contributions o_packet c_peelResult c_peelTime c_peelSum c_at c_commands c_draft c_hash)) (hf : Rf_runAt_146 c_far c_near c_echoes c_left c_dropped c_merged c_drops c_contributions c_packet = some (o_far, o_near, o_echoes, o_left, o_dropped, o_merged, o_drops, o_contributions, o_packet)) : V X 0 0 (wR a T c_m c_saved c_savedCount c_script c_scriptLength c_code c_lineParts c_lengths c_fractions c_pulseMany c_times c_energies c_far c_near c_echoes c_left c_dropped c_merged c_drops c_contributions c_packet c_peelResult c_peelTime c_peelSum c_at c_commands c_draft c_hash) [] 146 [] := by
  unfold Rf_runAt_146 at hf
  cases hf
  exact v_vret C hret dX10_runAt_146
def Rf_runAt_97 (c_m : Nat → Int64) (c_far : Nat → Int64) (c_near : Nat → Int64) (c_echoes : Nat → Int64) (c_left : Int64) (c_dropped : Int64) (c_merged : Int32) (c_drops : Int32) (c_contributions : Int32) (c_packet : Int64) (x1 : Int32) (x2 : Int32) (x5 : Int64) (x7 : Int64) (x9 : Int64) : Option ((Nat → Int64) × (Nat → Int64) × (Nat → Int64) × Int64 × Int64 × Int32 × Int32 × Int32 × Int64) :=
  if x1 ≤ 0 then
    nm (x5 - x9) fun z144 =>
    chk (inb x2 201) <| nm (vp_updL c_echoes x2.toNatClampNeg z144) fun echoes_145 =>
    Rf_runAt_146 c_far c_near echoes_145 c_left c_dropped c_merged c_drops c_contributions c_packet
  else
    bd (Rf_contribute c_contributions c_packet x7) fun (contributions_104, packet_104) =>
    nm (x5 - x9) fun z112 =>
    bd (Rf_contribute contributions_104 packet_104 z112) fun (contributions_113, packet_113) =>
    nm ((201 : Int32) * x1) fun z124 =>
    nm (z124 + x2) fun z126 =>
    bd (Rf_setsOut c_m c_dropped c_merged c_drops contributions_113 packet_113) fun (dropped_128, merged_128, drops_128, contributions_128, packet_128, r128) =>
    chk (inb z126 1809) <| nm (vp_updL c_near z126.toNatClampNeg r128) fun near_131 =>
    Rf_runAt_146 c_far near_131 c_echoes c_left dropped_128 merged_128 drops_128 contributions_128 packet_128
set_option maxRecDepth 100000 in
set_option maxHeartbeats 4000000 in
theorem Rb_runAt_97 (C : Cx X G T cX10_runAt RX10 none 11 2 44) {x1 : Int32} {x2 : Int32} {x5 : Int64} {x7 : Int64} {x9 : Int64} {o_far : Nat → Int64} {o_near : Nat → Int64} {o_echoes : Nat → Int64} {o_left : Int64} {o_dropped : Int64} {o_merged : Int32} {o_drops : Int32} {o_contributions : Int32} {o_packet : Int64} (hret : RetOK X 0 0 none (wR a T c_m c_saved c_savedCount c_script c_scriptLength c_code c_lineParts c_lengths c_fractions c_pulseMany c_times c_energies o_far o_near o_echoes o_left o_dropped o_merged o_drops o_contributions o_packet c_peelResult c_peelTime c_peelSum c_at c_commands c_draft c_hash)) (hf : Rf_runAt_97 c_m c_far c_near c_echoes c_left c_dropped c_merged c_drops c_contributions c_packet x1 x2 x5 x7 x9 = some (o_far, o_near, o_echoes, o_left, o_dropped, o_merged, o_drops, o_contributions, o_packet)) : V X 0 0 (wR a T c_m c_saved c_savedCount c_script c_scriptLength c_code c_lineParts c_lengths c_fractions c_pulseMany c_times c_energies c_far c_near c_echoes c_left c_dropped c_merged c_drops c_contributions c_packet c_peelResult c_peelTime c_peelSum c_at c_commands c_draft c_hash) [(0, .ref (a 0)), (1, .int x1), (2, .int x2), (5, .long x5), (7, .long x7), (9, .long x9)] 97 [] := by
  unfold Rf_runAt_97 at hf
  refine v_iload_n 1 C dX10_runAt_97 rfl rfl ?_
  refine v_if_le 135 C dX10_runAt_98 (by decide) hf (fun c hf => ?_) (fun c hf => ?_)
  · refine v_aload_n 0 C dX10_runAt_135 rfl rfl ?_
    refine Rg_echoes C dX10_runAt_136 ?_
    refine v_iload_n 2 C dX10_runAt_139 rfl rfl ?_
    refine v_lload 3 C dX10_runAt_140 rfl ?_
    refine v_lload 5 C dX10_runAt_142 rfl ?_
    refine v_lsub C dX10_runAt_144 hf (fun z144 hf => ?_)
    refine Ras_echoes C dX10_runAt_145 hf (fun echoes_145 hf => ?_)
    refine v_lv [] [] rfl ?_
    exact Rb_runAt_146 C hret hf
  · refine v_aload_n 0 C dX10_runAt_101 rfl rfl ?_
    refine v_lload 4 C dX10_runAt_102 rfl ?_
    refine Rc_contribute C dX10_runAt_104 (by decide) (Nat.le_of_ble_eq_true rfl) hf (fun contributions_104 packet_104 hf => ?_)
    refine v_aload_n 0 C dX10_runAt_107 rfl rfl ?_
    refine v_lload 3 C dX10_runAt_108 rfl ?_
    refine v_lload 5 C dX10_runAt_110 rfl ?_
    refine v_lsub C dX10_runAt_112 hf (fun z112 hf => ?_)
    refine Rc_contribute C dX10_runAt_113 (by decide) (Nat.le_of_ble_eq_true rfl) hf (fun contributions_113 packet_113 hf => ?_)
    refine v_aload_n 0 C dX10_runAt_116 rfl rfl ?_
    refine Rg_near C dX10_runAt_117 ?_
    refine v_sipush (v := 201) C dX10_runAt_120 (by decide) ?_
    refine v_iload_n 1 C dX10_runAt_123 rfl rfl ?_
    refine v_imul C dX10_runAt_124 hf (fun z124 hf => ?_)
    refine v_iload_n 2 C dX10_runAt_125 rfl rfl ?_
    refine v_iadd C dX10_runAt_126 hf (fun z126 hf => ?_)
    refine v_aload_n 0 C dX10_runAt_127 rfl rfl ?_
    refine Rc_setsOut C dX10_runAt_128 (by decide) (Nat.le_of_ble_eq_true rfl) hf (fun dropped_128 merged_128 drops_128 contributions_128 packet_128 r128 hf => ?_)
    refine Ras_near C dX10_runAt_131 hf (fun near_131 hf => ?_)
    refine v_goto 146 C dX10_runAt_132 (by decide) ?_
    refine v_lv [] [] rfl ?_
    exact Rb_runAt_146 C hret hf
def Rf_runAt_65 (c_m : Nat → Int64) (c_far : Nat → Int64) (c_near : Nat → Int64) (c_echoes : Nat → Int64) (c_left : Int64) (c_dropped : Int64) (c_merged : Int32) (c_drops : Int32) (c_contributions : Int32) (c_packet : Int64) (x1 : Int32) (x2 : Int32) (x5 : Int64) (x7 : Int64) (x9 : Int64) : Option ((Nat → Int64) × (Nat → Int64) × (Nat → Int64) × Int64 × Int64 × Int32 × Int32 × Int32 × Int64) :=
  nm ((201 : Int32) * x1) fun z73 =>
  nm (z73 + x2) fun z75 =>
  bd (Rf_setsOut c_m c_dropped c_merged c_drops c_contributions c_packet) fun (dropped_77, merged_77, drops_77, contributions_77, packet_77, r77) =>
  chk (inb z75 1809) <| nm (vp_updL c_far z75.toNatClampNeg r77) fun far_80 =>
  Rf_runAt_97 c_m far_80 c_near c_echoes c_left dropped_77 merged_77 drops_77 contributions_77 packet_77 x1 x2 x5 x7 x9
set_option maxRecDepth 100000 in
set_option maxHeartbeats 4000000 in
theorem Rb_runAt_65 (C : Cx X G T cX10_runAt RX10 none 11 2 44) {x1 : Int32} {x2 : Int32} {x5 : Int64} {x7 : Int64} {x9 : Int64} {o_far : Nat → Int64} {o_near : Nat → Int64} {o_echoes : Nat → Int64} {o_left : Int64} {o_dropped : Int64} {o_merged : Int32} {o_drops : Int32} {o_contributions : Int32} {o_packet : Int64} (hret : RetOK X 0 0 none (wR a T c_m c_saved c_savedCount c_script c_scriptLength c_code c_lineParts c_lengths c_fractions c_pulseMany c_times c_energies o_far o_near o_echoes o_left o_dropped o_merged o_drops o_contributions o_packet c_peelResult c_peelTime c_peelSum c_at c_commands c_draft c_hash)) (hf : Rf_runAt_65 c_m c_far c_near c_echoes c_left c_dropped c_merged c_drops c_contributions c_packet x1 x2 x5 x7 x9 = some (o_far, o_near, o_echoes, o_left, o_dropped, o_merged, o_drops, o_contributions, o_packet)) : V X 0 0 (wR a T c_m c_saved c_savedCount c_script c_scriptLength c_code c_lineParts c_lengths c_fractions c_pulseMany c_times c_energies c_far c_near c_echoes c_left c_dropped c_merged c_drops c_contributions c_packet c_peelResult c_peelTime c_peelSum c_at c_commands c_draft c_hash) [(0, .ref (a 0)), (1, .int x1), (2, .int x2), (5, .long x5), (7, .long x7), (9, .long x9)] 65 [] := by
  unfold Rf_runAt_65 at hf
  refine v_aload_n 0 C dX10_runAt_65 rfl rfl ?_
  refine Rg_far C dX10_runAt_66 ?_
  refine v_sipush (v := 201) C dX10_runAt_69 (by decide) ?_
  refine v_iload_n 1 C dX10_runAt_72 rfl rfl ?_
  refine v_imul C dX10_runAt_73 hf (fun z73 hf => ?_)
  refine v_iload_n 2 C dX10_runAt_74 rfl rfl ?_
  refine v_iadd C dX10_runAt_75 hf (fun z75 hf => ?_)
  refine v_aload_n 0 C dX10_runAt_76 rfl rfl ?_
  refine Rc_setsOut C dX10_runAt_77 (by decide) (Nat.le_of_ble_eq_true rfl) hf (fun dropped_77 merged_77 drops_77 contributions_77 packet_77 r77 hf => ?_)
  refine Ras_far C dX10_runAt_80 hf (fun far_80 hf => ?_)
  refine v_goto 97 C dX10_runAt_81 (by decide) ?_
  exact Rb_runAt_97 C hret hf
def Rf_runAt (c_m : Nat → Int64) (c_lineParts : Int32) (c_lengths : Nat → Int32) (c_fractions : Nat → Int32) (c_pulseMany : Int32) (c_times : Nat → Int32) (c_energies : Nat → Int64) (c_far : Nat → Int64) (c_near : Nat → Int64) (c_echoes : Nat → Int64) (c_left : Int64) (c_dropped : Int64) (c_merged : Int32) (c_drops : Int32) (c_contributions : Int32) (c_packet : Int64) (x1 : Int32) (x2 : Int32) : Option ((Nat → Int64) × (Nat → Int64) × (Nat → Int64) × Int64 × Int64 × Int32 × Int32 × Int32 × Int64) :=
  bd (Rf_arrives c_lineParts c_lengths c_far c_near x1 x2 (0 : Int32)) fun r4 =>
  bd (Rf_arrives c_lineParts c_lengths c_far c_near x1 x2 (1 : Int32)) fun r12 =>
  bd (Rf_back c_fractions r4 x1) fun r20 =>
  bd (Rf_back c_fractions r12 x1) fun r29 =>
  if c_lineParts ≤ x1 then
    nm (r4 - r20) fun z92 =>
    nm (c_left + z92) fun z93 =>
    Rf_runAt_97 c_m c_far c_near c_echoes z93 c_dropped c_merged c_drops c_contributions c_packet x1 x2 r12 r20 r29
  else
    bd (Rf_contribute c_contributions c_packet r29) fun (contributions_45, packet_45) =>
    nm (r4 - r20) fun z52 =>
    bd (Rf_contribute contributions_45 packet_45 z52) fun (contributions_53, packet_53) =>
    if x1 = 0 then
      bd (Rf_passPulses c_pulseMany c_times c_energies contributions_53 packet_53 x2) fun (contributions_62, packet_62) =>
      Rf_runAt_65 c_m c_far c_near c_echoes c_left c_dropped c_merged c_drops contributions_62 packet_62 x1 x2 r12 r20 r29
    else
      Rf_runAt_65 c_m c_far c_near c_echoes c_left c_dropped c_merged c_drops contributions_53 packet_53 x1 x2 r12 r20 r29
set_option maxRecDepth 100000 in
set_option maxHeartbeats 4000000 in
theorem Rb_runAt (C : Cx X G T cX10_runAt RX10 none 11 2 44) {x1 : Int32} {x2 : Int32} {o_far : Nat → Int64} {o_near : Nat → Int64} {o_echoes : Nat → Int64} {o_left : Int64} {o_dropped : Int64} {o_merged : Int32} {o_drops : Int32} {o_contributions : Int32} {o_packet : Int64} (hret : RetOK X 0 0 none (wR a T c_m c_saved c_savedCount c_script c_scriptLength c_code c_lineParts c_lengths c_fractions c_pulseMany c_times c_energies o_far o_near o_echoes o_left o_dropped o_merged o_drops o_contributions o_packet c_peelResult c_peelTime c_peelSum c_at c_commands c_draft c_hash)) (hf : Rf_runAt c_m c_lineParts c_lengths c_fractions c_pulseMany c_times c_energies c_far c_near c_echoes c_left c_dropped c_merged c_drops c_contributions c_packet x1 x2 = some (o_far, o_near, o_echoes, o_left, o_dropped, o_merged, o_drops, o_contributions, o_packet)) : V X 0 0 (wR a T c_m c_saved c_savedCount c_script c_scriptLength c_code c_lineParts c_lengths c_fractions c_pulseMany c_times c_energies c_far c_near c_echoes c_left c_dropped c_merged c_drops c_contributions c_packet c_peelResult c_peelTime c_peelSum c_at c_commands c_draft c_hash) [(0, .ref (a 0)), (1, .int x1), (2, .int x2)] 0 [] := by
  unfold Rf_runAt at hf
  refine v_aload_n 0 C dX10_runAt_0 rfl rfl ?_
  refine v_iload_n 1 C dX10_runAt_1 rfl rfl ?_
  refine v_iload_n 2 C dX10_runAt_2 rfl rfl ?_
  refine v_iconst (v := 0) C dX10_runAt_3 (by decide) ?_
  refine Rc_arrives C dX10_runAt_4 (by decide) (Nat.le_of_ble_eq_true rfl) hf (fun r4 hf => ?_)
  refine v_lstore_n [(0, .ref (a 0)), (1, .int x1), (2, .int x2), (3, .long r4)] [1, 2, 3, 0] C dX10_runAt_7 rfl (by decide) rfl ?_
  refine v_aload_n 0 C dX10_runAt_8 rfl rfl ?_
  refine v_iload_n 1 C dX10_runAt_9 rfl rfl ?_
  refine v_iload_n 2 C dX10_runAt_10 rfl rfl ?_
  refine v_iconst (v := 1) C dX10_runAt_11 (by decide) ?_
  refine Rc_arrives C dX10_runAt_12 (by decide) (Nat.le_of_ble_eq_true rfl) hf (fun r12 hf => ?_)
  refine v_lstore [(0, .ref (a 0)), (1, .int x1), (2, .int x2), (3, .long r4), (5, .long r12)] [1, 2, 3, 4, 0] C dX10_runAt_15 (by decide) rfl ?_
  refine v_aload_n 0 C dX10_runAt_17 rfl rfl ?_
  refine v_lload_n 3 C dX10_runAt_18 rfl rfl ?_
  refine v_iload_n 1 C dX10_runAt_19 rfl rfl ?_
  refine Rc_back C dX10_runAt_20 (by decide) (Nat.le_of_ble_eq_true rfl) hf (fun r20 hf => ?_)
  refine v_lstore [(0, .ref (a 0)), (1, .int x1), (2, .int x2), (3, .long r4), (5, .long r12), (7, .long r20)] [1, 2, 3, 4, 5, 0] C dX10_runAt_23 (by decide) rfl ?_
  refine v_aload_n 0 C dX10_runAt_25 rfl rfl ?_
  refine v_lload 4 C dX10_runAt_26 rfl ?_
  refine v_iload_n 1 C dX10_runAt_28 rfl rfl ?_
  refine Rc_back C dX10_runAt_29 (by decide) (Nat.le_of_ble_eq_true rfl) hf (fun r29 hf => ?_)
  refine v_lstore [(0, .ref (a 0)), (1, .int x1), (2, .int x2), (3, .long r4), (5, .long r12), (7, .long r20), (9, .long r29)] [1, 2, 3, 4, 5, 6, 0] C dX10_runAt_32 (by decide) rfl ?_
  refine v_iload_n 1 C dX10_runAt_34 rfl rfl ?_
  refine v_aload_n 0 C dX10_runAt_35 rfl rfl ?_
  refine Rg_lineParts C dX10_runAt_36 ?_
  refine v_icmp_ge 84 C dX10_runAt_39 (by decide) hf (fun c hf => ?_) (fun c hf => ?_)
  · refine v_aload_n 0 C dX10_runAt_84 rfl rfl ?_
    refine v_dup C dX10_runAt_85 rfl ?_
    refine Rg_left C dX10_runAt_86 ?_
    refine v_lload_n 3 C dX10_runAt_89 rfl rfl ?_
    refine v_lload 5 C dX10_runAt_90 rfl ?_
    refine v_lsub C dX10_runAt_92 hf (fun z92 hf => ?_)
    refine v_ladd C dX10_runAt_93 hf (fun z93 hf => ?_)
    refine Rp_left C dX10_runAt_94 ?_
    refine v_lv [(0, .ref (a 0)), (1, .int x1), (2, .int x2), (5, .long r12), (7, .long r20), (9, .long r29)] [0, 1, 2, 4, 5, 6] rfl ?_
    exact Rb_runAt_97 C hret hf
  · refine v_aload_n 0 C dX10_runAt_42 rfl rfl ?_
    refine v_lload 6 C dX10_runAt_43 rfl ?_
    refine Rc_contribute C dX10_runAt_45 (by decide) (Nat.le_of_ble_eq_true rfl) hf (fun contributions_45 packet_45 hf => ?_)
    refine v_aload_n 0 C dX10_runAt_48 rfl rfl ?_
    refine v_lload_n 3 C dX10_runAt_49 rfl rfl ?_
    refine v_lload 5 C dX10_runAt_50 rfl ?_
    refine v_lsub C dX10_runAt_52 hf (fun z52 hf => ?_)
    refine Rc_contribute C dX10_runAt_53 (by decide) (Nat.le_of_ble_eq_true rfl) hf (fun contributions_53 packet_53 hf => ?_)
    refine v_iload_n 1 C dX10_runAt_56 rfl rfl ?_
    refine v_if_ne 65 C dX10_runAt_57 (by decide) hf (fun c hf => ?_) (fun c hf => ?_)
    · refine v_aload_n 0 C dX10_runAt_60 rfl rfl ?_
      refine v_iload_n 2 C dX10_runAt_61 rfl rfl ?_
      refine Rc_passPulses C dX10_runAt_62 (by decide) (Nat.le_of_ble_eq_true rfl) hf (fun contributions_62 packet_62 hf => ?_)
      refine v_lv [(0, .ref (a 0)), (1, .int x1), (2, .int x2), (5, .long r12), (7, .long r20), (9, .long r29)] [0, 1, 2, 4, 5, 6] rfl ?_
      exact Rb_runAt_65 C hret hf
    · refine v_lv [(0, .ref (a 0)), (1, .int x1), (2, .int x2), (5, .long r12), (7, .long r20), (9, .long r29)] [0, 1, 2, 4, 5, 6] rfl ?_
      exact Rb_runAt_65 C hret hf
set_option maxRecDepth 100000 in
set_option maxHeartbeats 4000000 in
theorem Rm_runAt {D : va_G} {x1 : Int32} {x2 : Int32} {o_far : Nat → Int64} {o_near : Nat → Int64} {o_echoes : Nat → Int64} {o_left : Int64} {o_dropped : Int64} {o_merged : Int32} {o_drops : Int32} {o_contributions : Int32} {o_packet : Int64} (hf : Rf_runAt c_m c_lineParts c_lengths c_fractions c_pulseMany c_times c_energies c_far c_near c_echoes c_left c_dropped c_merged c_drops c_contributions c_packet x1 x2 = some (o_far, o_near, o_echoes, o_left, o_dropped, o_merged, o_drops, o_contributions, o_packet)) : MetM G yX10_runAt cX10_runAt 11 none { frames := 2, cells := 0, slots := 0, locals := 44 } D T [.ref (a 0), .int x1, .int x2] (wR a T c_m c_saved c_savedCount c_script c_scriptLength c_code c_lineParts c_lengths c_fractions c_pulseMany c_times c_energies c_far c_near c_echoes c_left c_dropped c_merged c_drops c_contributions c_packet c_peelResult c_peelTime c_peelSum c_at c_commands c_draft c_hash) none (wR a T c_m c_saved c_savedCount c_script c_scriptLength c_code c_lineParts c_lengths c_fractions c_pulseMany c_times c_energies o_far o_near o_echoes o_left o_dropped o_merged o_drops o_contributions o_packet c_peelResult c_peelTime c_peelSum c_at c_commands c_draft c_hash) :=
  MetM.of [(0, .ref (a 0)), (1, .int x1), (2, .int x2)] (by decide) (Nat.le_of_ble_eq_true rfl) rfl (fun X C hret => Rb_runAt C hret hf)
set_option maxRecDepth 100000 in
theorem Rc_runAt {x1 : Int32} {x2 : Int32} {cc : ByteArray} {ret : Option FieldType} {nl fr lo pc : Nat} {lv : List (Nat × Value)} {rest : List Value} {β : Type} {K : ((Nat → Int64) × (Nat → Int64) × (Nat → Int64) × Int64 × Int64 × Int32 × Int32 × Int32 × Int64) → Option β} {oo : β} (C : Cx X G T cc RX10 ret nl fr lo) (hdg : decode cc pc = .ok (.invokevirtual 113, 3)) (hroom : 2 + 1 ≤ fr ∧ 8 + (11 + 11) + 44 ≤ lo) (hst : (rest.map fun v => v.category).sum ≤ 8) (hf : bd (Rf_runAt c_m c_lineParts c_lengths c_fractions c_pulseMany c_times c_energies c_far c_near c_echoes c_left c_dropped c_merged c_drops c_contributions c_packet x1 x2) K = some oo) (kk : ∀ (o_far : Nat → Int64) (o_near : Nat → Int64) (o_echoes : Nat → Int64) (o_left : Int64) (o_dropped : Int64) (o_merged : Int32) (o_drops : Int32) (o_contributions : Int32) (o_packet : Int64), K (o_far, o_near, o_echoes, o_left, o_dropped, o_merged, o_drops, o_contributions, o_packet) = some oo → V X 0 0 (wR a T c_m c_saved c_savedCount c_script c_scriptLength c_code c_lineParts c_lengths c_fractions c_pulseMany c_times c_energies o_far o_near o_echoes o_left o_dropped o_merged o_drops o_contributions o_packet c_peelResult c_peelTime c_peelSum c_at c_commands c_draft c_hash) lv (pc + 3) rest) : V X 0 0 (wR a T c_m c_saved c_savedCount c_script c_scriptLength c_code c_lineParts c_lengths c_fractions c_pulseMany c_times c_energies c_far c_near c_echoes c_left c_dropped c_merged c_drops c_contributions c_packet c_peelResult c_peelTime c_peelSum c_at c_commands c_draft c_hash) lv pc (.int x2 :: .int x1 :: .ref (a 0) :: rest) := by
  obtain ⟨⟨o_far, o_near, o_echoes, o_left, o_dropped, o_merged, o_drops, o_contributions, o_packet⟩, hc, hk⟩ := bd_some hf
  exact v_callV (As := [.int x1, .int x2]) (rest := rest) (q0 := 0) 2 C (CapOK.z X) (fun D => Rm_runAt hc) (goodV wmethodLink_RX10_113_yX10_runAt winstanceMethod_yX10_runAt wselects_RX10_yX10_runAt_yX10_runAt winitialized_RX10 wcode_yX10_runAt_cX10_runAt_11_none) (by decide +kernel) hroom ⟨rfl, rfl⟩ rfl rfl rfl hst hdg (kk o_far o_near o_echoes o_left o_dropped o_merged o_drops o_contributions o_packet hk)
def Rl_runLine_32  : Nat → (Nat → Int64) → Int32 → Option (Nat → Int64)
  | 0, _, _ => none
  | n + 1, c_echoes, x1 =>
    if (201 : Int32) ≤ x1 then
      some c_echoes
    else
      chk (inb x1 201) <| nm (vp_updL c_echoes x1.toNatClampNeg (0 : Int64)) fun echoes_45 =>
      nm (x1 + (1 : Int32)) fun x1_46 =>
      Rl_runLine_32 n echoes_45 x1_46
set_option maxRecDepth 100000 in
set_option maxHeartbeats 4000000 in
theorem Rk_runLine_32 (C : Cx X G T cX10_runLine RX10 none 3 3 74)  {o_echoes : Nat → Int64} (hk : V X 0 0 (wR a T c_m c_saved c_savedCount c_script c_scriptLength c_code c_lineParts c_lengths c_fractions c_pulseMany c_times c_energies c_far c_near o_echoes c_left c_dropped c_merged c_drops c_contributions c_packet c_peelResult c_peelTime c_peelSum c_at c_commands c_draft c_hash) [(0, .ref (a 0))] 52 []) : ∀ (n : Nat) (c_echoes : Nat → Int64) (x1 : Int32), Rl_runLine_32  n c_echoes x1 = some o_echoes → V X 0 0 (wR a T c_m c_saved c_savedCount c_script c_scriptLength c_code c_lineParts c_lengths c_fractions c_pulseMany c_times c_energies c_far c_near c_echoes c_left c_dropped c_merged c_drops c_contributions c_packet c_peelResult c_peelTime c_peelSum c_at c_commands c_draft c_hash) [(0, .ref (a 0)), (1, .int x1)] 32 [] := by
  intro n
  induction n with
  | zero =>
    intro _ _ hf
    cases hf
  | succ n hrec =>
    intro c_echoes x1 hf
    rw [Rl_runLine_32] at hf
    refine v_iload_n 1 C dX10_runLine_32 rfl rfl ?_
    refine v_sipush (v := 201) C dX10_runLine_33 (by decide) ?_
    refine v_icmp_ge 52 C dX10_runLine_36 (by decide) hf (fun c hf => ?_) (fun c hf => ?_)
    · refine v_lv [(0, .ref (a 0))] [0] rfl ?_
      cases hf
      exact hk
    · refine v_aload_n 0 C dX10_runLine_39 rfl rfl ?_
      refine Rg_echoes C dX10_runLine_40 ?_
      refine v_iload_n 1 C dX10_runLine_43 rfl rfl ?_
      refine v_lconst (v := 0) C dX10_runLine_44 (by decide) ?_
      refine Ras_echoes C dX10_runLine_45 hf (fun echoes_45 hf => ?_)
      refine v_iinc (fun x1_46 => [(0, .ref (a 0)), (1, .int x1_46)]) [1, 0] C dX10_runLine_46 (j := 1) rfl (dv := 1) (by decide) (by decide) (fun _ => rfl) hf (fun x1_46 hf => ?_)
      refine v_goto 32 C dX10_runLine_49 (by decide) ?_
      exact hrec _ _ hf
def Rl_runLine_99 (c_m : Nat → Int64) (c_lineParts : Int32) (c_lengths : Nat → Int32) (c_fractions : Nat → Int32) (c_pulseMany : Int32) (c_times : Nat → Int32) (c_energies : Nat → Int64) (x1 : Int32) : Nat → (Nat → Int64) → (Nat → Int64) → (Nat → Int64) → Int64 → Int64 → Int32 → Int32 → Int32 → Int64 → Int32 → Option ((Nat → Int64) × (Nat → Int64) × (Nat → Int64) × Int64 × Int64 × Int32 × Int32 × Int32 × Int64)
  | 0, _, _, _, _, _, _, _, _, _, _ => none
  | n + 1, c_far, c_near, c_echoes, c_left, c_dropped, c_merged, c_drops, c_contributions, c_packet, x2 =>
    if c_lineParts < x2 then
      some (c_far, c_near, c_echoes, c_left, c_dropped, c_merged, c_drops, c_contributions, c_packet)
    else
      if c_lineParts ≤ 0 then
        some (c_far, c_near, c_echoes, c_left, c_dropped, c_merged, c_drops, c_contributions, c_packet)
      else
        bd (Rf_runAt c_m c_lineParts c_lengths c_fractions c_pulseMany c_times c_energies c_far c_near c_echoes c_left c_dropped c_merged c_drops c_contributions c_packet x2 x1) fun (far_117, near_117, echoes_117, left_117, dropped_117, merged_117, drops_117, contributions_117, packet_117) =>
        nm (x2 + (1 : Int32)) fun x2_120 =>
        Rl_runLine_99 c_m c_lineParts c_lengths c_fractions c_pulseMany c_times c_energies x1 n far_117 near_117 echoes_117 left_117 dropped_117 merged_117 drops_117 contributions_117 packet_117 x2_120
set_option maxRecDepth 100000 in
set_option maxHeartbeats 4000000 in
theorem Rk_runLine_99 (C : Cx X G T cX10_runLine RX10 none 3 3 74) {x1 : Int32} {o_far : Nat → Int64} {o_near : Nat → Int64} {o_echoes : Nat → Int64} {o_left : Int64} {o_dropped : Int64} {o_merged : Int32} {o_drops : Int32} {o_contributions : Int32} {o_packet : Int64} (hk : V X 0 0 (wR a T c_m c_saved c_savedCount c_script c_scriptLength c_code c_lineParts c_lengths c_fractions c_pulseMany c_times c_energies o_far o_near o_echoes o_left o_dropped o_merged o_drops o_contributions o_packet c_peelResult c_peelTime c_peelSum c_at c_commands c_draft c_hash) [(0, .ref (a 0)), (1, .int x1)] 126 []) : ∀ (n : Nat) (c_far : Nat → Int64) (c_near : Nat → Int64) (c_echoes : Nat → Int64) (c_left : Int64) (c_dropped : Int64) (c_merged : Int32) (c_drops : Int32) (c_contributions : Int32) (c_packet : Int64) (x2 : Int32), Rl_runLine_99 c_m c_lineParts c_lengths c_fractions c_pulseMany c_times c_energies x1 n c_far c_near c_echoes c_left c_dropped c_merged c_drops c_contributions c_packet x2 = some (o_far, o_near, o_echoes, o_left, o_dropped, o_merged, o_drops, o_contributions, o_packet) → V X 0 0 (wR a T c_m c_saved c_savedCount c_script c_scriptLength c_code c_lineParts c_lengths c_fractions c_pulseMany c_times c_energies c_far c_near c_echoes c_left c_dropped c_merged c_drops c_contributions c_packet c_peelResult c_peelTime c_peelSum c_at c_commands c_draft c_hash) [(0, .ref (a 0)), (1, .int x1), (2, .int x2)] 99 [] := by
  intro n
  induction n with
  | zero =>
    intro _ _ _ _ _ _ _ _ _ _ hf
    cases hf
  | succ n hrec =>
    intro c_far c_near c_echoes c_left c_dropped c_merged c_drops c_contributions c_packet x2 hf
    rw [Rl_runLine_99] at hf
    refine v_iload_n 2 C dX10_runLine_99 rfl rfl ?_
    refine v_aload_n 0 C dX10_runLine_100 rfl rfl ?_
    refine Rg_lineParts C dX10_runLine_101 ?_
    refine v_icmp_gt 126 C dX10_runLine_104 (by decide) hf (fun c hf => ?_) (fun c hf => ?_)
    · refine v_lv [(0, .ref (a 0)), (1, .int x1)] [0, 1] rfl ?_
      cases hf
      exact hk
    · refine v_aload_n 0 C dX10_runLine_107 rfl rfl ?_
      refine Rg_lineParts C dX10_runLine_108 ?_
      refine v_if_le 126 C dX10_runLine_111 (by decide) hf (fun c hf => ?_) (fun c hf => ?_)
      · refine v_lv [(0, .ref (a 0)), (1, .int x1)] [0, 1] rfl ?_
        cases hf
        exact hk
      · refine v_aload_n 0 C dX10_runLine_114 rfl rfl ?_
        refine v_iload_n 2 C dX10_runLine_115 rfl rfl ?_
        refine v_iload_n 1 C dX10_runLine_116 rfl rfl ?_
        refine Rc_runAt C dX10_runLine_117 (by decide) (Nat.le_of_ble_eq_true rfl) hf (fun far_117 near_117 echoes_117 left_117 dropped_117 merged_117 drops_117 contributions_117 packet_117 hf => ?_)
        refine v_iinc (fun x2_120 => [(0, .ref (a 0)), (1, .int x1), (2, .int x2_120)]) [1, 2, 0] C dX10_runLine_120 (j := 2) rfl (dv := 1) (by decide) (by decide) (fun _ => rfl) hf (fun x2_120 hf => ?_)
        refine v_goto 99 C dX10_runLine_123 (by decide) ?_
        exact hrec _ _ _ _ _ _ _ _ _ _ hf
def Rf_runLine_126 (rec : (Nat → Int64) → (Nat → Int64) → (Nat → Int64) → Int64 → Int64 → Int32 → Int32 → Int32 → Int64 → Int32 → Option ((Nat → Int64) × (Nat → Int64) × (Nat → Int64) × Int64 × Int64 × Int32 × Int32 × Int32 × Int64)) (c_far : Nat → Int64) (c_near : Nat → Int64) (c_echoes : Nat → Int64) (c_left : Int64) (c_dropped : Int64) (c_merged : Int32) (c_drops : Int32) (c_contributions : Int32) (c_packet : Int64) (x1 : Int32) : Option ((Nat → Int64) × (Nat → Int64) × (Nat → Int64) × Int64 × Int64 × Int32 × Int32 × Int32 × Int64) :=
  nm (x1 + (1 : Int32)) fun x1_126 =>
  rec c_far c_near c_echoes c_left c_dropped c_merged c_drops c_contributions c_packet x1_126
set_option maxRecDepth 100000 in
set_option maxHeartbeats 4000000 in
theorem Rb_runLine_126 (C : Cx X G T cX10_runLine RX10 none 3 3 74) {rec : (Nat → Int64) → (Nat → Int64) → (Nat → Int64) → Int64 → Int64 → Int32 → Int32 → Int32 → Int64 → Int32 → Option ((Nat → Int64) × (Nat → Int64) × (Nat → Int64) × Int64 × Int64 × Int32 × Int32 × Int32 × Int64)} {x1 : Int32} {o_far : Nat → Int64} {o_near : Nat → Int64} {o_echoes : Nat → Int64} {o_left : Int64} {o_dropped : Int64} {o_merged : Int32} {o_drops : Int32} {o_contributions : Int32} {o_packet : Int64} (hrec : ∀ (c_far : Nat → Int64) (c_near : Nat → Int64) (c_echoes : Nat → Int64) (c_left : Int64) (c_dropped : Int64) (c_merged : Int32) (c_drops : Int32) (c_contributions : Int32) (c_packet : Int64) (x1 : Int32), rec c_far c_near c_echoes c_left c_dropped c_merged c_drops c_contributions c_packet x1 = some (o_far, o_near, o_echoes, o_left, o_dropped, o_merged, o_drops, o_contributions, o_packet) → V X 0 0 (wR a T c_m c_saved c_savedCount c_script c_scriptLength c_code c_lineParts c_lengths c_fractions c_pulseMany c_times c_energies c_far c_near c_echoes c_left c_dropped c_merged c_drops c_contributions c_packet c_peelResult c_peelTime c_peelSum c_at c_commands c_draft c_hash) [(0, .ref (a 0)), (1, .int x1)] 54 []) (hk : V X 0 0 (wR a T c_m c_saved c_savedCount c_script c_scriptLength c_code c_lineParts c_lengths c_fractions c_pulseMany c_times c_energies o_far o_near o_echoes o_left o_dropped o_merged o_drops o_contributions o_packet c_peelResult c_peelTime c_peelSum c_at c_commands c_draft c_hash) [] 132 []) (hf : Rf_runLine_126 rec c_far c_near c_echoes c_left c_dropped c_merged c_drops c_contributions c_packet x1 = some (o_far, o_near, o_echoes, o_left, o_dropped, o_merged, o_drops, o_contributions, o_packet)) : V X 0 0 (wR a T c_m c_saved c_savedCount c_script c_scriptLength c_code c_lineParts c_lengths c_fractions c_pulseMany c_times c_energies c_far c_near c_echoes c_left c_dropped c_merged c_drops c_contributions c_packet c_peelResult c_peelTime c_peelSum c_at c_commands c_draft c_hash) [(0, .ref (a 0)), (1, .int x1)] 126 [] := by
  unfold Rf_runLine_126 at hf
  refine v_iinc (fun x1_126 => [(0, .ref (a 0)), (1, .int x1_126)]) [1, 0] C dX10_runLine_126 (j := 1) rfl (dv := 1) (by decide) (by decide) (fun _ => rfl) hf (fun x1_126 hf => ?_)
  refine v_goto 54 C dX10_runLine_129 (by decide) ?_
  exact hrec _ _ _ _ _ _ _ _ _ _ hf
def Rf_runLine_97 (rec : (Nat → Int64) → (Nat → Int64) → (Nat → Int64) → Int64 → Int64 → Int32 → Int32 → Int32 → Int64 → Int32 → Option ((Nat → Int64) × (Nat → Int64) × (Nat → Int64) × Int64 × Int64 × Int32 × Int32 × Int32 × Int64)) (c_m : Nat → Int64) (c_lineParts : Int32) (c_lengths : Nat → Int32) (c_fractions : Nat → Int32) (c_pulseMany : Int32) (c_times : Nat → Int32) (c_energies : Nat → Int64) (c_far : Nat → Int64) (c_near : Nat → Int64) (c_echoes : Nat → Int64) (c_left : Int64) (c_dropped : Int64) (c_merged : Int32) (c_drops : Int32) (c_contributions : Int32) (c_packet : Int64) (x1 : Int32) : Option ((Nat → Int64) × (Nat → Int64) × (Nat → Int64) × Int64 × Int64 × Int32 × Int32 × Int32 × Int64) :=
  bd (Rl_runLine_99 c_m c_lineParts c_lengths c_fractions c_pulseMany c_times c_energies x1 FUEL c_far c_near c_echoes c_left c_dropped c_merged c_drops c_contributions c_packet (0 : Int32)) fun (o_far_99, o_near_99, o_echoes_99, o_left_99, o_dropped_99, o_merged_99, o_drops_99, o_contributions_99, o_packet_99) =>
  Rf_runLine_126 rec o_far_99 o_near_99 o_echoes_99 o_left_99 o_dropped_99 o_merged_99 o_drops_99 o_contributions_99 o_packet_99 x1
set_option maxRecDepth 100000 in
set_option maxHeartbeats 4000000 in
theorem Rb_runLine_97 (C : Cx X G T cX10_runLine RX10 none 3 3 74) {rec : (Nat → Int64) → (Nat → Int64) → (Nat → Int64) → Int64 → Int64 → Int32 → Int32 → Int32 → Int64 → Int32 → Option ((Nat → Int64) × (Nat → Int64) × (Nat → Int64) × Int64 × Int64 × Int32 × Int32 × Int32 × Int64)} {x1 : Int32} {o_far : Nat → Int64} {o_near : Nat → Int64} {o_echoes : Nat → Int64} {o_left : Int64} {o_dropped : Int64} {o_merged : Int32} {o_drops : Int32} {o_contributions : Int32} {o_packet : Int64} (hrec : ∀ (c_far : Nat → Int64) (c_near : Nat → Int64) (c_echoes : Nat → Int64) (c_left : Int64) (c_dropped : Int64) (c_merged : Int32) (c_drops : Int32) (c_contributions : Int32) (c_packet : Int64) (x1 : Int32), rec c_far c_near c_echoes c_left c_dropped c_merged c_drops c_contributions c_packet x1 = some (o_far, o_near, o_echoes, o_left, o_dropped, o_merged, o_drops, o_contributions, o_packet) → V X 0 0 (wR a T c_m c_saved c_savedCount c_script c_scriptLength c_code c_lineParts c_lengths c_fractions c_pulseMany c_times c_energies c_far c_near c_echoes c_left c_dropped c_merged c_drops c_contributions c_packet c_peelResult c_peelTime c_peelSum c_at c_commands c_draft c_hash) [(0, .ref (a 0)), (1, .int x1)] 54 []) (hk : V X 0 0 (wR a T c_m c_saved c_savedCount c_script c_scriptLength c_code c_lineParts c_lengths c_fractions c_pulseMany c_times c_energies o_far o_near o_echoes o_left o_dropped o_merged o_drops o_contributions o_packet c_peelResult c_peelTime c_peelSum c_at c_commands c_draft c_hash) [] 132 []) (hf : Rf_runLine_97 rec c_m c_lineParts c_lengths c_fractions c_pulseMany c_times c_energies c_far c_near c_echoes c_left c_dropped c_merged c_drops c_contributions c_packet x1 = some (o_far, o_near, o_echoes, o_left, o_dropped, o_merged, o_drops, o_contributions, o_packet)) : V X 0 0 (wR a T c_m c_saved c_savedCount c_script c_scriptLength c_code c_lineParts c_lengths c_fractions c_pulseMany c_times c_energies c_far c_near c_echoes c_left c_dropped c_merged c_drops c_contributions c_packet c_peelResult c_peelTime c_peelSum c_at c_commands c_draft c_hash) [(0, .ref (a 0)), (1, .int x1)] 97 [] := by
  unfold Rf_runLine_97 at hf
  refine v_iconst (v := 0) C dX10_runLine_97 (by decide) ?_
  refine v_istore_n [(0, .ref (a 0)), (1, .int x1), (2, .int (0 : Int32))] [1, 2, 0] C dX10_runLine_98 rfl (by decide) rfl ?_
  obtain ⟨⟨o_far_99, o_near_99, o_echoes_99, o_left_99, o_dropped_99, o_merged_99, o_drops_99, o_contributions_99, o_packet_99⟩, hc, hf⟩ := bd_some hf
  refine Rk_runLine_99 C ?_ _ _ _ _ _ _ _ _ _ _ _ hc
  exact Rb_runLine_126 C hrec hk hf
def Rl_runLine_54 (c_m : Nat → Int64) (c_lineParts : Int32) (c_lengths : Nat → Int32) (c_fractions : Nat → Int32) (c_pulseMany : Int32) (c_times : Nat → Int32) (c_energies : Nat → Int64) : Nat → (Nat → Int64) → (Nat → Int64) → (Nat → Int64) → Int64 → Int64 → Int32 → Int32 → Int32 → Int64 → Int32 → Option ((Nat → Int64) × (Nat → Int64) × (Nat → Int64) × Int64 × Int64 × Int32 × Int32 × Int32 × Int64)
  | 0, _, _, _, _, _, _, _, _, _, _ => none
  | n + 1, c_far, c_near, c_echoes, c_left, c_dropped, c_merged, c_drops, c_contributions, c_packet, x1 =>
    bd (Rf_window c_m) fun r56 =>
    if r56 < x1 then
      some (c_far, c_near, c_echoes, c_left, c_dropped, c_merged, c_drops, c_contributions, c_packet)
    else
      if c_lineParts = 0 then
        bd (Rf_passPulses c_pulseMany c_times c_energies c_contributions c_packet x1) fun (contributions_71, packet_71) =>
        nm (c_left + packet_71) fun z83 =>
        Rf_runLine_97 (Rl_runLine_54 c_m c_lineParts c_lengths c_fractions c_pulseMany c_times c_energies n) c_m c_lineParts c_lengths c_fractions c_pulseMany c_times c_energies c_far c_near c_echoes z83 c_dropped c_merged c_drops (0 : Int32) (0 : Int64) x1
      else
        Rf_runLine_97 (Rl_runLine_54 c_m c_lineParts c_lengths c_fractions c_pulseMany c_times c_energies n) c_m c_lineParts c_lengths c_fractions c_pulseMany c_times c_energies c_far c_near c_echoes c_left c_dropped c_merged c_drops c_contributions c_packet x1
set_option maxRecDepth 100000 in
set_option maxHeartbeats 4000000 in
theorem Rk_runLine_54 (C : Cx X G T cX10_runLine RX10 none 3 3 74)  {o_far : Nat → Int64} {o_near : Nat → Int64} {o_echoes : Nat → Int64} {o_left : Int64} {o_dropped : Int64} {o_merged : Int32} {o_drops : Int32} {o_contributions : Int32} {o_packet : Int64} (hk : V X 0 0 (wR a T c_m c_saved c_savedCount c_script c_scriptLength c_code c_lineParts c_lengths c_fractions c_pulseMany c_times c_energies o_far o_near o_echoes o_left o_dropped o_merged o_drops o_contributions o_packet c_peelResult c_peelTime c_peelSum c_at c_commands c_draft c_hash) [] 132 []) : ∀ (n : Nat) (c_far : Nat → Int64) (c_near : Nat → Int64) (c_echoes : Nat → Int64) (c_left : Int64) (c_dropped : Int64) (c_merged : Int32) (c_drops : Int32) (c_contributions : Int32) (c_packet : Int64) (x1 : Int32), Rl_runLine_54 c_m c_lineParts c_lengths c_fractions c_pulseMany c_times c_energies n c_far c_near c_echoes c_left c_dropped c_merged c_drops c_contributions c_packet x1 = some (o_far, o_near, o_echoes, o_left, o_dropped, o_merged, o_drops, o_contributions, o_packet) → V X 0 0 (wR a T c_m c_saved c_savedCount c_script c_scriptLength c_code c_lineParts c_lengths c_fractions c_pulseMany c_times c_energies c_far c_near c_echoes c_left c_dropped c_merged c_drops c_contributions c_packet c_peelResult c_peelTime c_peelSum c_at c_commands c_draft c_hash) [(0, .ref (a 0)), (1, .int x1)] 54 [] := by
  intro n
  induction n with
  | zero =>
    intro _ _ _ _ _ _ _ _ _ _ hf
    cases hf
  | succ n hrec =>
    intro c_far c_near c_echoes c_left c_dropped c_merged c_drops c_contributions c_packet x1 hf
    rw [Rl_runLine_54] at hf
    refine v_iload_n 1 C dX10_runLine_54 rfl rfl ?_
    refine v_aload_n 0 C dX10_runLine_55 rfl rfl ?_
    refine Rc_window C dX10_runLine_56 (by decide) (Nat.le_of_ble_eq_true rfl) hf (fun r56 hf => ?_)
    refine v_icmp_gt 132 C dX10_runLine_59 (by decide) hf (fun c hf => ?_) (fun c hf => ?_)
    · refine v_lv [] [] rfl ?_
      cases hf
      exact hk
    · refine v_aload_n 0 C dX10_runLine_62 rfl rfl ?_
      refine Rg_lineParts C dX10_runLine_63 ?_
      refine v_if_ne 97 C dX10_runLine_66 (by decide) hf (fun c hf => ?_) (fun c hf => ?_)
      · refine v_aload_n 0 C dX10_runLine_69 rfl rfl ?_
        refine v_iload_n 1 C dX10_runLine_70 rfl rfl ?_
        refine Rc_passPulses C dX10_runLine_71 (by decide) (Nat.le_of_ble_eq_true rfl) hf (fun contributions_71 packet_71 hf => ?_)
        refine v_aload_n 0 C dX10_runLine_74 rfl rfl ?_
        refine v_dup C dX10_runLine_75 rfl ?_
        refine Rg_left C dX10_runLine_76 ?_
        refine v_aload_n 0 C dX10_runLine_79 rfl rfl ?_
        refine Rg_packet C dX10_runLine_80 ?_
        refine v_ladd C dX10_runLine_83 hf (fun z83 hf => ?_)
        refine Rp_left C dX10_runLine_84 ?_
        refine v_aload_n 0 C dX10_runLine_87 rfl rfl ?_
        refine v_lconst (v := 0) C dX10_runLine_88 (by decide) ?_
        refine Rp_packet C dX10_runLine_89 ?_
        refine v_aload_n 0 C dX10_runLine_92 rfl rfl ?_
        refine v_iconst (v := 0) C dX10_runLine_93 (by decide) ?_
        refine Rp_contributions C dX10_runLine_94 ?_
        exact Rb_runLine_97 C hrec hk hf
      · exact Rb_runLine_97 C hrec hk hf
def Rf_runLine (c_m : Nat → Int64) (c_lineParts : Int32) (c_lengths : Nat → Int32) (c_fractions : Nat → Int32) (c_pulseMany : Int32) (c_times : Nat → Int32) (c_energies : Nat → Int64) (c_far : Nat → Int64) (c_near : Nat → Int64) (c_echoes : Nat → Int64) (c_left : Int64) (c_dropped : Int64) (c_merged : Int32) (c_drops : Int32) (c_contributions : Int32) (c_packet : Int64) : Option ((Nat → Int64) × (Nat → Int64) × (Nat → Int64) × Int64 × Int64 × Int32 × Int32 × Int32 × Int64) :=
  bd (Rl_runLine_32 FUEL c_echoes (0 : Int32)) fun o_echoes_32 =>
  bd (Rl_runLine_54 c_m c_lineParts c_lengths c_fractions c_pulseMany c_times c_energies FUEL c_far c_near o_echoes_32 (0 : Int64) (0 : Int64) (0 : Int32) (0 : Int32) (0 : Int32) (0 : Int64) (0 : Int32)) fun (o_far_54, o_near_54, o_echoes_54, o_left_54, o_dropped_54, o_merged_54, o_drops_54, o_contributions_54, o_packet_54) =>
  some (o_far_54, o_near_54, o_echoes_54, o_left_54, o_dropped_54, o_merged_54, o_drops_54, o_contributions_54, o_packet_54)
set_option maxRecDepth 100000 in
set_option maxHeartbeats 4000000 in
theorem Rb_runLine (C : Cx X G T cX10_runLine RX10 none 3 3 74)  {o_far : Nat → Int64} {o_near : Nat → Int64} {o_echoes : Nat → Int64} {o_left : Int64} {o_dropped : Int64} {o_merged : Int32} {o_drops : Int32} {o_contributions : Int32} {o_packet : Int64} (hret : RetOK X 0 0 none (wR a T c_m c_saved c_savedCount c_script c_scriptLength c_code c_lineParts c_lengths c_fractions c_pulseMany c_times c_energies o_far o_near o_echoes o_left o_dropped o_merged o_drops o_contributions o_packet c_peelResult c_peelTime c_peelSum c_at c_commands c_draft c_hash)) (hf : Rf_runLine c_m c_lineParts c_lengths c_fractions c_pulseMany c_times c_energies c_far c_near c_echoes c_left c_dropped c_merged c_drops c_contributions c_packet = some (o_far, o_near, o_echoes, o_left, o_dropped, o_merged, o_drops, o_contributions, o_packet)) : V X 0 0 (wR a T c_m c_saved c_savedCount c_script c_scriptLength c_code c_lineParts c_lengths c_fractions c_pulseMany c_times c_energies c_far c_near c_echoes c_left c_dropped c_merged c_drops c_contributions c_packet c_peelResult c_peelTime c_peelSum c_at c_commands c_draft c_hash) [(0, .ref (a 0))] 0 [] := by
  unfold Rf_runLine at hf
  refine v_aload_n 0 C dX10_runLine_0 rfl rfl ?_
  refine v_lconst (v := 0) C dX10_runLine_1 (by decide) ?_
  refine Rp_left C dX10_runLine_2 ?_
  refine v_aload_n 0 C dX10_runLine_5 rfl rfl ?_
  refine v_lconst (v := 0) C dX10_runLine_6 (by decide) ?_
  refine Rp_dropped C dX10_runLine_7 ?_
  refine v_aload_n 0 C dX10_runLine_10 rfl rfl ?_
  refine v_iconst (v := 0) C dX10_runLine_11 (by decide) ?_
  refine Rp_merged C dX10_runLine_12 ?_
  refine v_aload_n 0 C dX10_runLine_15 rfl rfl ?_
  refine v_iconst (v := 0) C dX10_runLine_16 (by decide) ?_
  refine Rp_drops C dX10_runLine_17 ?_
  refine v_aload_n 0 C dX10_runLine_20 rfl rfl ?_
  refine v_iconst (v := 0) C dX10_runLine_21 (by decide) ?_
  refine Rp_contributions C dX10_runLine_22 ?_
  refine v_aload_n 0 C dX10_runLine_25 rfl rfl ?_
  refine v_lconst (v := 0) C dX10_runLine_26 (by decide) ?_
  refine Rp_packet C dX10_runLine_27 ?_
  refine v_iconst (v := 0) C dX10_runLine_30 (by decide) ?_
  refine v_istore_n [(0, .ref (a 0)), (1, .int (0 : Int32))] [1, 0] C dX10_runLine_31 rfl (by decide) rfl ?_
  obtain ⟨o_echoes_32, hc, hf⟩ := bd_some hf
  refine Rk_runLine_32 C ?_ _ _ _ hc
  refine v_iconst (v := 0) C dX10_runLine_52 (by decide) ?_
  refine v_istore_n [(0, .ref (a 0)), (1, .int (0 : Int32))] [1, 0] C dX10_runLine_53 rfl (by decide) rfl ?_
  obtain ⟨⟨o_far_54, o_near_54, o_echoes_54, o_left_54, o_dropped_54, o_merged_54, o_drops_54, o_contributions_54, o_packet_54⟩, hc, hf⟩ := bd_some hf
  refine Rk_runLine_54 C ?_ _ _ _ _ _ _ _ _ _ _ _ hc
  cases hf
  exact v_vret C hret dX10_runLine_132
set_option maxRecDepth 100000 in
set_option maxHeartbeats 4000000 in
theorem Rm_runLine {D : va_G}  {o_far : Nat → Int64} {o_near : Nat → Int64} {o_echoes : Nat → Int64} {o_left : Int64} {o_dropped : Int64} {o_merged : Int32} {o_drops : Int32} {o_contributions : Int32} {o_packet : Int64} (hf : Rf_runLine c_m c_lineParts c_lengths c_fractions c_pulseMany c_times c_energies c_far c_near c_echoes c_left c_dropped c_merged c_drops c_contributions c_packet = some (o_far, o_near, o_echoes, o_left, o_dropped, o_merged, o_drops, o_contributions, o_packet)) : MetM G yX10_runLine cX10_runLine 3 none { frames := 3, cells := 0, slots := 0, locals := 74 } D T [.ref (a 0)] (wR a T c_m c_saved c_savedCount c_script c_scriptLength c_code c_lineParts c_lengths c_fractions c_pulseMany c_times c_energies c_far c_near c_echoes c_left c_dropped c_merged c_drops c_contributions c_packet c_peelResult c_peelTime c_peelSum c_at c_commands c_draft c_hash) none (wR a T c_m c_saved c_savedCount c_script c_scriptLength c_code c_lineParts c_lengths c_fractions c_pulseMany c_times c_energies o_far o_near o_echoes o_left o_dropped o_merged o_drops o_contributions o_packet c_peelResult c_peelTime c_peelSum c_at c_commands c_draft c_hash) :=
  MetM.of [(0, .ref (a 0))] (by decide) (Nat.le_of_ble_eq_true rfl) rfl (fun X C hret => Rb_runLine C hret hf)
set_option maxRecDepth 100000 in
theorem Rc_runLine  {cc : ByteArray} {ret : Option FieldType} {nl fr lo pc : Nat} {lv : List (Nat × Value)} {rest : List Value} {β : Type} {K : ((Nat → Int64) × (Nat → Int64) × (Nat → Int64) × Int64 × Int64 × Int32 × Int32 × Int32 × Int64) → Option β} {oo : β} (C : Cx X G T cc RX10 ret nl fr lo) (hdg : decode cc pc = .ok (.invokevirtual 117, 3)) (hroom : 3 + 1 ≤ fr ∧ 8 + (3 + 11) + 74 ≤ lo) (hst : (rest.map fun v => v.category).sum ≤ 8) (hf : bd (Rf_runLine c_m c_lineParts c_lengths c_fractions c_pulseMany c_times c_energies c_far c_near c_echoes c_left c_dropped c_merged c_drops c_contributions c_packet) K = some oo) (kk : ∀ (o_far : Nat → Int64) (o_near : Nat → Int64) (o_echoes : Nat → Int64) (o_left : Int64) (o_dropped : Int64) (o_merged : Int32) (o_drops : Int32) (o_contributions : Int32) (o_packet : Int64), K (o_far, o_near, o_echoes, o_left, o_dropped, o_merged, o_drops, o_contributions, o_packet) = some oo → V X 0 0 (wR a T c_m c_saved c_savedCount c_script c_scriptLength c_code c_lineParts c_lengths c_fractions c_pulseMany c_times c_energies o_far o_near o_echoes o_left o_dropped o_merged o_drops o_contributions o_packet c_peelResult c_peelTime c_peelSum c_at c_commands c_draft c_hash) lv (pc + 3) rest) : V X 0 0 (wR a T c_m c_saved c_savedCount c_script c_scriptLength c_code c_lineParts c_lengths c_fractions c_pulseMany c_times c_energies c_far c_near c_echoes c_left c_dropped c_merged c_drops c_contributions c_packet c_peelResult c_peelTime c_peelSum c_at c_commands c_draft c_hash) lv pc (.ref (a 0) :: rest) := by
  obtain ⟨⟨o_far, o_near, o_echoes, o_left, o_dropped, o_merged, o_drops, o_contributions, o_packet⟩, hc, hk⟩ := bd_some hf
  exact v_callV (As := []) (rest := rest) (q0 := 0) 0 C (CapOK.z X) (fun D => Rm_runLine hc) (goodV wmethodLink_RX10_117_yX10_runLine winstanceMethod_yX10_runLine wselects_RX10_yX10_runLine_yX10_runLine winitialized_RX10 wcode_yX10_runLine_cX10_runLine_3_none) (by decide +kernel) hroom ⟨rfl, rfl⟩ rfl rfl rfl hst hdg (kk o_far o_near o_echoes o_left o_dropped o_merged o_drops o_contributions o_packet hk)
def Rl_runPresent_24 (c_m : Nat → Int64) (c_lineParts : Int32) : Nat → (Nat → Int32) → (Nat → Int32) → Int32 → Option ((Nat → Int32) × (Nat → Int32))
  | 0, _, _, _ => none
  | n + 1, c_lengths, c_fractions, x1 =>
    if c_lineParts ≤ x1 then
      some (c_lengths, c_fractions)
    else
      nm ((1 : Int32) + x1) fun z43 =>
      chk (inb z43 431) <| nm (c_m z43.toNatClampNeg) fun z44 =>
      nm (z44.toInt32) fun z45 =>
      chk (inb x1 8) <| nm (upd c_lengths x1.toNatClampNeg z45) fun lengths_46 =>
      nm (x1 + (1 : Int32)) fun z53 =>
      nm ((9 : Int32) + x1) fun z61 =>
      chk (inb z61 431) <| nm (c_m z61.toNatClampNeg) fun z62 =>
      nm (z62.toInt32) fun z63 =>
      chk (inb z53 9) <| nm (upd c_fractions z53.toNatClampNeg z63) fun fractions_64 =>
      nm (x1 + (1 : Int32)) fun x1_65 =>
      Rl_runPresent_24 c_m c_lineParts n lengths_46 fractions_64 x1_65
set_option maxRecDepth 100000 in
set_option maxHeartbeats 4000000 in
theorem Rk_runPresent_24 (C : Cx X G T cX10_runPresent RX10 none 2 4 96)  {o_lengths : Nat → Int32} {o_fractions : Nat → Int32} (hk : V X 0 0 (wR a T c_m c_saved c_savedCount c_script c_scriptLength c_code c_lineParts o_lengths o_fractions c_pulseMany c_times c_energies c_far c_near c_echoes c_left c_dropped c_merged c_drops c_contributions c_packet c_peelResult c_peelTime c_peelSum c_at c_commands c_draft c_hash) [(0, .ref (a 0))] 71 []) : ∀ (n : Nat) (c_lengths : Nat → Int32) (c_fractions : Nat → Int32) (x1 : Int32), Rl_runPresent_24 c_m c_lineParts n c_lengths c_fractions x1 = some (o_lengths, o_fractions) → V X 0 0 (wR a T c_m c_saved c_savedCount c_script c_scriptLength c_code c_lineParts c_lengths c_fractions c_pulseMany c_times c_energies c_far c_near c_echoes c_left c_dropped c_merged c_drops c_contributions c_packet c_peelResult c_peelTime c_peelSum c_at c_commands c_draft c_hash) [(0, .ref (a 0)), (1, .int x1)] 24 [] := by
  intro n
  induction n with
  | zero =>
    intro _ _ _ hf
    cases hf
  | succ n hrec =>
    intro c_lengths c_fractions x1 hf
    rw [Rl_runPresent_24] at hf
    refine v_iload_n 1 C dX10_runPresent_24 rfl rfl ?_
    refine v_aload_n 0 C dX10_runPresent_25 rfl rfl ?_
    refine Rg_lineParts C dX10_runPresent_26 ?_
    refine v_icmp_ge 71 C dX10_runPresent_29 (by decide) hf (fun c hf => ?_) (fun c hf => ?_)
    · refine v_lv [(0, .ref (a 0))] [0] rfl ?_
      cases hf
      exact hk
    · refine v_aload_n 0 C dX10_runPresent_32 rfl rfl ?_
      refine Rg_lengths C dX10_runPresent_33 ?_
      refine v_iload_n 1 C dX10_runPresent_36 rfl rfl ?_
      refine v_aload_n 0 C dX10_runPresent_37 rfl rfl ?_
      refine Rg_m C dX10_runPresent_38 ?_
      refine v_iconst (v := 1) C dX10_runPresent_41 (by decide) ?_
      refine v_iload_n 1 C dX10_runPresent_42 rfl rfl ?_
      refine v_iadd C dX10_runPresent_43 hf (fun z43 hf => ?_)
      refine Ral_m C dX10_runPresent_44 hf (fun z44 hf => ?_)
      refine v_l2i C dX10_runPresent_45 hf (fun z45 hf => ?_)
      refine Ras_lengths C dX10_runPresent_46 hf (fun lengths_46 hf => ?_)
      refine v_aload_n 0 C dX10_runPresent_47 rfl rfl ?_
      refine Rg_fractions C dX10_runPresent_48 ?_
      refine v_iload_n 1 C dX10_runPresent_51 rfl rfl ?_
      refine v_iconst (v := 1) C dX10_runPresent_52 (by decide) ?_
      refine v_iadd C dX10_runPresent_53 hf (fun z53 hf => ?_)
      refine v_aload_n 0 C dX10_runPresent_54 rfl rfl ?_
      refine Rg_m C dX10_runPresent_55 ?_
      refine v_bipush (v := 9) C dX10_runPresent_58 (by decide) ?_
      refine v_iload_n 1 C dX10_runPresent_60 rfl rfl ?_
      refine v_iadd C dX10_runPresent_61 hf (fun z61 hf => ?_)
      refine Ral_m C dX10_runPresent_62 hf (fun z62 hf => ?_)
      refine v_l2i C dX10_runPresent_63 hf (fun z63 hf => ?_)
      refine Ras_fractions C dX10_runPresent_64 hf (fun fractions_64 hf => ?_)
      refine v_iinc (fun x1_65 => [(0, .ref (a 0)), (1, .int x1_65)]) [1, 0] C dX10_runPresent_65 (j := 1) rfl (dv := 1) (by decide) (by decide) (fun _ => rfl) hf (fun x1_65 hf => ?_)
      refine v_goto 24 C dX10_runPresent_68 (by decide) ?_
      exact hrec _ _ _ hf
def Rl_runPresent_85 (c_m : Nat → Int64) (c_pulseMany : Int32) : Nat → (Nat → Int32) → (Nat → Int64) → Int32 → Option ((Nat → Int32) × (Nat → Int64))
  | 0, _, _, _ => none
  | n + 1, c_times, c_energies, x1 =>
    if c_pulseMany ≤ x1 then
      some (c_times, c_energies)
    else
      nm ((2 : Int32) * x1) fun z106 =>
      nm ((21 : Int32) + z106) fun z107 =>
      chk (inb z107 431) <| nm (c_m z107.toNatClampNeg) fun z108 =>
      nm (z108.toInt32) fun z109 =>
      chk (inb x1 4) <| nm (upd c_times x1.toNatClampNeg z109) fun times_110 =>
      nm ((2 : Int32) * x1) fun z124 =>
      nm ((21 : Int32) + z124) fun z125 =>
      nm (z125 + (1 : Int32)) fun z127 =>
      chk (inb z127 431) <| nm (c_m z127.toNatClampNeg) fun z128 =>
      chk (inb x1 4) <| nm (vp_updL c_energies x1.toNatClampNeg z128) fun energies_129 =>
      nm (x1 + (1 : Int32)) fun x1_130 =>
      Rl_runPresent_85 c_m c_pulseMany n times_110 energies_129 x1_130
set_option maxRecDepth 100000 in
set_option maxHeartbeats 4000000 in
theorem Rk_runPresent_85 (C : Cx X G T cX10_runPresent RX10 none 2 4 96)  {o_times : Nat → Int32} {o_energies : Nat → Int64} (hk : V X 0 0 (wR a T c_m c_saved c_savedCount c_script c_scriptLength c_code c_lineParts c_lengths c_fractions c_pulseMany o_times o_energies c_far c_near c_echoes c_left c_dropped c_merged c_drops c_contributions c_packet c_peelResult c_peelTime c_peelSum c_at c_commands c_draft c_hash) [(0, .ref (a 0))] 136 []) : ∀ (n : Nat) (c_times : Nat → Int32) (c_energies : Nat → Int64) (x1 : Int32), Rl_runPresent_85 c_m c_pulseMany n c_times c_energies x1 = some (o_times, o_energies) → V X 0 0 (wR a T c_m c_saved c_savedCount c_script c_scriptLength c_code c_lineParts c_lengths c_fractions c_pulseMany c_times c_energies c_far c_near c_echoes c_left c_dropped c_merged c_drops c_contributions c_packet c_peelResult c_peelTime c_peelSum c_at c_commands c_draft c_hash) [(0, .ref (a 0)), (1, .int x1)] 85 [] := by
  intro n
  induction n with
  | zero =>
    intro _ _ _ hf
    cases hf
  | succ n hrec =>
    intro c_times c_energies x1 hf
    rw [Rl_runPresent_85] at hf
    refine v_iload_n 1 C dX10_runPresent_85 rfl rfl ?_
    refine v_aload_n 0 C dX10_runPresent_86 rfl rfl ?_
    refine Rg_pulseMany C dX10_runPresent_87 ?_
    refine v_icmp_ge 136 C dX10_runPresent_90 (by decide) hf (fun c hf => ?_) (fun c hf => ?_)
    · refine v_lv [(0, .ref (a 0))] [0] rfl ?_
      cases hf
      exact hk
    · refine v_aload_n 0 C dX10_runPresent_93 rfl rfl ?_
      refine Rg_times C dX10_runPresent_94 ?_
      refine v_iload_n 1 C dX10_runPresent_97 rfl rfl ?_
      refine v_aload_n 0 C dX10_runPresent_98 rfl rfl ?_
      refine Rg_m C dX10_runPresent_99 ?_
      refine v_bipush (v := 21) C dX10_runPresent_102 (by decide) ?_
      refine v_iconst (v := 2) C dX10_runPresent_104 (by decide) ?_
      refine v_iload_n 1 C dX10_runPresent_105 rfl rfl ?_
      refine v_imul C dX10_runPresent_106 hf (fun z106 hf => ?_)
      refine v_iadd C dX10_runPresent_107 hf (fun z107 hf => ?_)
      refine Ral_m C dX10_runPresent_108 hf (fun z108 hf => ?_)
      refine v_l2i C dX10_runPresent_109 hf (fun z109 hf => ?_)
      refine Ras_times C dX10_runPresent_110 hf (fun times_110 hf => ?_)
      refine v_aload_n 0 C dX10_runPresent_111 rfl rfl ?_
      refine Rg_energies C dX10_runPresent_112 ?_
      refine v_iload_n 1 C dX10_runPresent_115 rfl rfl ?_
      refine v_aload_n 0 C dX10_runPresent_116 rfl rfl ?_
      refine Rg_m C dX10_runPresent_117 ?_
      refine v_bipush (v := 21) C dX10_runPresent_120 (by decide) ?_
      refine v_iconst (v := 2) C dX10_runPresent_122 (by decide) ?_
      refine v_iload_n 1 C dX10_runPresent_123 rfl rfl ?_
      refine v_imul C dX10_runPresent_124 hf (fun z124 hf => ?_)
      refine v_iadd C dX10_runPresent_125 hf (fun z125 hf => ?_)
      refine v_iconst (v := 1) C dX10_runPresent_126 (by decide) ?_
      refine v_iadd C dX10_runPresent_127 hf (fun z127 hf => ?_)
      refine Ral_m C dX10_runPresent_128 hf (fun z128 hf => ?_)
      refine Ras_energies C dX10_runPresent_129 hf (fun energies_129 hf => ?_)
      refine v_iinc (fun x1_130 => [(0, .ref (a 0)), (1, .int x1_130)]) [1, 0] C dX10_runPresent_130 (j := 1) rfl (dv := 1) (by decide) (by decide) (fun _ => rfl) hf (fun x1_130 hf => ?_)
      refine v_goto 85 C dX10_runPresent_133 (by decide) ?_
      exact hrec _ _ _ hf
def Rf_runPresent (c_m : Nat → Int64) (c_lineParts : Int32) (c_lengths : Nat → Int32) (c_fractions : Nat → Int32) (c_pulseMany : Int32) (c_times : Nat → Int32) (c_energies : Nat → Int64) (c_far : Nat → Int64) (c_near : Nat → Int64) (c_echoes : Nat → Int64) (c_left : Int64) (c_dropped : Int64) (c_merged : Int32) (c_drops : Int32) (c_contributions : Int32) (c_packet : Int64) : Option (Int32 × (Nat → Int32) × (Nat → Int32) × Int32 × (Nat → Int32) × (Nat → Int64) × (Nat → Int64) × (Nat → Int64) × (Nat → Int64) × Int64 × Int64 × Int32 × Int32 × Int32 × Int64) :=
  bd (Rf_parts c_m) fun r2 =>
  chk (inb (17 : Int32) 431) <| nm (c_m (17 : Int32).toNatClampNeg) fun z19 =>
  nm (z19.toInt32) fun z20 =>
  chk (inb (0 : Int32) 9) <| nm (upd c_fractions (0 : Int32).toNatClampNeg z20) fun fractions_21 =>
  bd (Rl_runPresent_24 c_m r2 FUEL c_lengths fractions_21 (0 : Int32)) fun (o_lengths_24, o_fractions_24) =>
  chk (inb (20 : Int32) 431) <| nm (c_m (20 : Int32).toNatClampNeg) fun z78 =>
  nm (z78.toInt32) fun z79 =>
  bd (Rl_runPresent_85 c_m z79 FUEL c_times c_energies (0 : Int32)) fun (o_times_85, o_energies_85) =>
  bd (Rf_runLine c_m r2 o_lengths_24 o_fractions_24 z79 o_times_85 o_energies_85 c_far c_near c_echoes c_left c_dropped c_merged c_drops c_contributions c_packet) fun (far_137, near_137, echoes_137, left_137, dropped_137, merged_137, drops_137, contributions_137, packet_137) =>
  some (r2, o_lengths_24, o_fractions_24, z79, o_times_85, o_energies_85, far_137, near_137, echoes_137, left_137, dropped_137, merged_137, drops_137, contributions_137, packet_137)
set_option maxRecDepth 100000 in
set_option maxHeartbeats 4000000 in
theorem Rb_runPresent (C : Cx X G T cX10_runPresent RX10 none 2 4 96)  {o_lineParts : Int32} {o_lengths : Nat → Int32} {o_fractions : Nat → Int32} {o_pulseMany : Int32} {o_times : Nat → Int32} {o_energies : Nat → Int64} {o_far : Nat → Int64} {o_near : Nat → Int64} {o_echoes : Nat → Int64} {o_left : Int64} {o_dropped : Int64} {o_merged : Int32} {o_drops : Int32} {o_contributions : Int32} {o_packet : Int64} (hret : RetOK X 0 0 none (wR a T c_m c_saved c_savedCount c_script c_scriptLength c_code o_lineParts o_lengths o_fractions o_pulseMany o_times o_energies o_far o_near o_echoes o_left o_dropped o_merged o_drops o_contributions o_packet c_peelResult c_peelTime c_peelSum c_at c_commands c_draft c_hash)) (hf : Rf_runPresent c_m c_lineParts c_lengths c_fractions c_pulseMany c_times c_energies c_far c_near c_echoes c_left c_dropped c_merged c_drops c_contributions c_packet = some (o_lineParts, o_lengths, o_fractions, o_pulseMany, o_times, o_energies, o_far, o_near, o_echoes, o_left, o_dropped, o_merged, o_drops, o_contributions, o_packet)) : V X 0 0 (wR a T c_m c_saved c_savedCount c_script c_scriptLength c_code c_lineParts c_lengths c_fractions c_pulseMany c_times c_energies c_far c_near c_echoes c_left c_dropped c_merged c_drops c_contributions c_packet c_peelResult c_peelTime c_peelSum c_at c_commands c_draft c_hash) [(0, .ref (a 0))] 0 [] := by
  unfold Rf_runPresent at hf
  refine v_aload_n 0 C dX10_runPresent_0 rfl rfl ?_
  refine v_aload_n 0 C dX10_runPresent_1 rfl rfl ?_
  refine Rc_parts C dX10_runPresent_2 (by decide) (Nat.le_of_ble_eq_true rfl) hf (fun r2 hf => ?_)
  refine Rp_lineParts C dX10_runPresent_5 ?_
  refine v_aload_n 0 C dX10_runPresent_8 rfl rfl ?_
  refine Rg_fractions C dX10_runPresent_9 ?_
  refine v_iconst (v := 0) C dX10_runPresent_12 (by decide) ?_
  refine v_aload_n 0 C dX10_runPresent_13 rfl rfl ?_
  refine Rg_m C dX10_runPresent_14 ?_
  refine v_bipush (v := 17) C dX10_runPresent_17 (by decide) ?_
  refine Ral_m C dX10_runPresent_19 hf (fun z19 hf => ?_)
  refine v_l2i C dX10_runPresent_20 hf (fun z20 hf => ?_)
  refine Ras_fractions C dX10_runPresent_21 hf (fun fractions_21 hf => ?_)
  refine v_iconst (v := 0) C dX10_runPresent_22 (by decide) ?_
  refine v_istore_n [(0, .ref (a 0)), (1, .int (0 : Int32))] [1, 0] C dX10_runPresent_23 rfl (by decide) rfl ?_
  obtain ⟨⟨o_lengths_24, o_fractions_24⟩, hc, hf⟩ := bd_some hf
  refine Rk_runPresent_24 C ?_ _ _ _ _ hc
  refine v_aload_n 0 C dX10_runPresent_71 rfl rfl ?_
  refine v_aload_n 0 C dX10_runPresent_72 rfl rfl ?_
  refine Rg_m C dX10_runPresent_73 ?_
  refine v_bipush (v := 20) C dX10_runPresent_76 (by decide) ?_
  refine Ral_m C dX10_runPresent_78 hf (fun z78 hf => ?_)
  refine v_l2i C dX10_runPresent_79 hf (fun z79 hf => ?_)
  refine Rp_pulseMany C dX10_runPresent_80 ?_
  refine v_iconst (v := 0) C dX10_runPresent_83 (by decide) ?_
  refine v_istore_n [(0, .ref (a 0)), (1, .int (0 : Int32))] [1, 0] C dX10_runPresent_84 rfl (by decide) rfl ?_
  obtain ⟨⟨o_times_85, o_energies_85⟩, hc, hf⟩ := bd_some hf
  refine Rk_runPresent_85 C ?_ _ _ _ _ hc
  refine v_aload_n 0 C dX10_runPresent_136 rfl rfl ?_
  refine Rc_runLine C dX10_runPresent_137 (by decide) (Nat.le_of_ble_eq_true rfl) hf (fun far_137 near_137 echoes_137 left_137 dropped_137 merged_137 drops_137 contributions_137 packet_137 hf => ?_)
  cases hf
  exact v_vret C hret dX10_runPresent_140
set_option maxRecDepth 100000 in
set_option maxHeartbeats 4000000 in
theorem Rm_runPresent {D : va_G}  {o_lineParts : Int32} {o_lengths : Nat → Int32} {o_fractions : Nat → Int32} {o_pulseMany : Int32} {o_times : Nat → Int32} {o_energies : Nat → Int64} {o_far : Nat → Int64} {o_near : Nat → Int64} {o_echoes : Nat → Int64} {o_left : Int64} {o_dropped : Int64} {o_merged : Int32} {o_drops : Int32} {o_contributions : Int32} {o_packet : Int64} (hf : Rf_runPresent c_m c_lineParts c_lengths c_fractions c_pulseMany c_times c_energies c_far c_near c_echoes c_left c_dropped c_merged c_drops c_contributions c_packet = some (o_lineParts, o_lengths, o_fractions, o_pulseMany, o_times, o_energies, o_far, o_near, o_echoes, o_left, o_dropped, o_merged, o_drops, o_contributions, o_packet)) : MetM G yX10_runPresent cX10_runPresent 2 none { frames := 4, cells := 0, slots := 0, locals := 96 } D T [.ref (a 0)] (wR a T c_m c_saved c_savedCount c_script c_scriptLength c_code c_lineParts c_lengths c_fractions c_pulseMany c_times c_energies c_far c_near c_echoes c_left c_dropped c_merged c_drops c_contributions c_packet c_peelResult c_peelTime c_peelSum c_at c_commands c_draft c_hash) none (wR a T c_m c_saved c_savedCount c_script c_scriptLength c_code o_lineParts o_lengths o_fractions o_pulseMany o_times o_energies o_far o_near o_echoes o_left o_dropped o_merged o_drops o_contributions o_packet c_peelResult c_peelTime c_peelSum c_at c_commands c_draft c_hash) :=
  MetM.of [(0, .ref (a 0))] (by decide) (Nat.le_of_ble_eq_true rfl) rfl (fun X C hret => Rb_runPresent C hret hf)
set_option maxRecDepth 100000 in
theorem Rc_runPresent  {cc : ByteArray} {ret : Option FieldType} {nl fr lo pc : Nat} {lv : List (Nat × Value)} {rest : List Value} {β : Type} {K : (Int32 × (Nat → Int32) × (Nat → Int32) × Int32 × (Nat → Int32) × (Nat → Int64) × (Nat → Int64) × (Nat → Int64) × (Nat → Int64) × Int64 × Int64 × Int32 × Int32 × Int32 × Int64) → Option β} {oo : β} (C : Cx X G T cc RX10 ret nl fr lo) (hdg : decode cc pc = .ok (.invokevirtual 193, 3)) (hroom : 4 + 1 ≤ fr ∧ 8 + (2 + 11) + 96 ≤ lo) (hst : (rest.map fun v => v.category).sum ≤ 8) (hf : bd (Rf_runPresent c_m c_lineParts c_lengths c_fractions c_pulseMany c_times c_energies c_far c_near c_echoes c_left c_dropped c_merged c_drops c_contributions c_packet) K = some oo) (kk : ∀ (o_lineParts : Int32) (o_lengths : Nat → Int32) (o_fractions : Nat → Int32) (o_pulseMany : Int32) (o_times : Nat → Int32) (o_energies : Nat → Int64) (o_far : Nat → Int64) (o_near : Nat → Int64) (o_echoes : Nat → Int64) (o_left : Int64) (o_dropped : Int64) (o_merged : Int32) (o_drops : Int32) (o_contributions : Int32) (o_packet : Int64), K (o_lineParts, o_lengths, o_fractions, o_pulseMany, o_times, o_energies, o_far, o_near, o_echoes, o_left, o_dropped, o_merged, o_drops, o_contributions, o_packet) = some oo → V X 0 0 (wR a T c_m c_saved c_savedCount c_script c_scriptLength c_code o_lineParts o_lengths o_fractions o_pulseMany o_times o_energies o_far o_near o_echoes o_left o_dropped o_merged o_drops o_contributions o_packet c_peelResult c_peelTime c_peelSum c_at c_commands c_draft c_hash) lv (pc + 3) rest) : V X 0 0 (wR a T c_m c_saved c_savedCount c_script c_scriptLength c_code c_lineParts c_lengths c_fractions c_pulseMany c_times c_energies c_far c_near c_echoes c_left c_dropped c_merged c_drops c_contributions c_packet c_peelResult c_peelTime c_peelSum c_at c_commands c_draft c_hash) lv pc (.ref (a 0) :: rest) := by
  obtain ⟨⟨o_lineParts, o_lengths, o_fractions, o_pulseMany, o_times, o_energies, o_far, o_near, o_echoes, o_left, o_dropped, o_merged, o_drops, o_contributions, o_packet⟩, hc, hk⟩ := bd_some hf
  exact v_callV (As := []) (rest := rest) (q0 := 0) 0 C (CapOK.z X) (fun D => Rm_runPresent hc) (goodV wmethodLink_RX10_193_yX10_runPresent winstanceMethod_yX10_runPresent wselects_RX10_yX10_runPresent_yX10_runPresent winitialized_RX10 wcode_yX10_runPresent_cX10_runPresent_2_none) (by decide +kernel) hroom ⟨rfl, rfl⟩ rfl rfl rfl hst hdg (kk o_lineParts o_lengths o_fractions o_pulseMany o_times o_energies o_far o_near o_echoes o_left o_dropped o_merged o_drops o_contributions o_packet hk)
end RM0
