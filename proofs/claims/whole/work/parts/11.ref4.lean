section RM4
variable {X : CxT} {G : SG} {T : Nat → ClassId} {a : Nat → Nat} {w : va_W} {c_m : Nat → Int64} {c_saved : Nat → Int64} {c_savedCount : Int32} {c_script : Nat → Int32} {c_scriptLength : Int32} {c_code : Int32} {c_lineParts : Int32} {c_lengths : Nat → Int32} {c_fractions : Nat → Int32} {c_pulseMany : Int32} {c_times : Nat → Int32} {c_energies : Nat → Int64} {c_far : Nat → Int64} {c_near : Nat → Int64} {c_echoes : Nat → Int64} {c_left : Int64} {c_dropped : Int64} {c_merged : Int32} {c_drops : Int32} {c_contributions : Int32} {c_packet : Int64} {c_peelResult : Int32} {c_peelTime : Int32} {c_peelSum : Int32} {c_at : Int32} {c_commands : Int32} {c_draft : Nat → Int32} {c_hash : Int64}
def Rf_setObserved_29 (c_m : Nat → Int64) (c_saved : Nat → Int64) (c_savedCount : Int32) (c_code : Int32) (x1 : Int32) (x2 : Int64) (s1 : Int32) : Option ((Nat → Int64) × (Nat → Int64) × Int32 × Int32 × Int64) :=
  if s1 = 0 then
    bd (Rf_keep c_m c_saved c_savedCount) fun (saved_42, savedCount_42) =>
    nm ((230 : Int32) + x1) fun z53 =>
    chk (inb z53 431) <| nm (c_m z53.toNatClampNeg) fun z54 =>
    nm ((230 : Int32) + x1) fun z65 =>
    chk (inb z65 431) <| nm (vp_updL c_m z65.toNatClampNeg x2) fun m_67 =>
    some (m_67, saved_42, savedCount_42, s1, z54)
  else
    some (c_m, c_saved, c_savedCount, s1, (0 : Int64))
set_option maxRecDepth 100000 in
set_option maxHeartbeats 4000000 in
theorem Rb_setObserved_29 (C : Cx X G T cX10_setObserved RX10 (some .long) 6 1 25) {x1 : Int32} {x2 : Int64} {s1 : Int32} {o_m : Nat → Int64} {o_saved : Nat → Int64} {o_savedCount : Int32} {o_code : Int32} {r : Int64} (hret : RetOK X 0 0 (some (.long r)) (wR a T o_m o_saved o_savedCount c_script c_scriptLength o_code c_lineParts c_lengths c_fractions c_pulseMany c_times c_energies c_far c_near c_echoes c_left c_dropped c_merged c_drops c_contributions c_packet c_peelResult c_peelTime c_peelSum c_at c_commands c_draft c_hash)) (hf : Rf_setObserved_29 c_m c_saved c_savedCount c_code x1 x2 s1 = some (o_m, o_saved, o_savedCount, o_code, r)) : V X 0 0 (wR a T c_m c_saved c_savedCount c_script c_scriptLength c_code c_lineParts c_lengths c_fractions c_pulseMany c_times c_energies c_far c_near c_echoes c_left c_dropped c_merged c_drops c_contributions c_packet c_peelResult c_peelTime c_peelSum c_at c_commands c_draft c_hash) [(0, .ref (a 0)), (1, .int x1), (2, .long x2)] 29 [.int s1, .ref (a 0)] := by
  unfold Rf_setObserved_29 at hf
  refine Rp_code C dX10_setObserved_29 ?_
  refine v_aload_n 0 C dX10_setObserved_32 rfl rfl ?_
  refine Rg_code C dX10_setObserved_33 ?_
  refine v_if_eq 41 C dX10_setObserved_36 (by decide) hf (fun c hf => ?_) (fun c hf => ?_)
  · refine v_aload_n 0 C dX10_setObserved_41 rfl rfl ?_
    refine Rc_keep C dX10_setObserved_42 (by decide) (Nat.le_of_ble_eq_true rfl) hf (fun saved_42 savedCount_42 hf => ?_)
    refine v_aload_n 0 C dX10_setObserved_45 rfl rfl ?_
    refine Rg_m C dX10_setObserved_46 ?_
    refine v_sipush (v := 230) C dX10_setObserved_49 (by decide) ?_
    refine v_iload_n 1 C dX10_setObserved_52 rfl rfl ?_
    refine v_iadd C dX10_setObserved_53 hf (fun z53 hf => ?_)
    refine Ral_m C dX10_setObserved_54 hf (fun z54 hf => ?_)
    refine v_lstore [(0, .ref (a 0)), (1, .int x1), (2, .long x2), (4, .long z54)] [1, 2, 3, 0] C dX10_setObserved_55 (by decide) rfl ?_
    refine v_aload_n 0 C dX10_setObserved_57 rfl rfl ?_
    refine Rg_m C dX10_setObserved_58 ?_
    refine v_sipush (v := 230) C dX10_setObserved_61 (by decide) ?_
    refine v_iload_n 1 C dX10_setObserved_64 rfl rfl ?_
    refine v_iadd C dX10_setObserved_65 hf (fun z65 hf => ?_)
    refine v_lload_n 2 C dX10_setObserved_66 rfl rfl ?_
    refine Ras_m C dX10_setObserved_67 hf (fun m_67 hf => ?_)
    refine v_lload 3 C dX10_setObserved_68 rfl ?_
    cases hf
    exact v_lret C hret dX10_setObserved_70
  · refine v_lconst (v := 0) C dX10_setObserved_39 (by decide) ?_
    cases hf
    exact v_lret C hret dX10_setObserved_40
def Rf_setObserved_28 (c_m : Nat → Int64) (c_saved : Nat → Int64) (c_savedCount : Int32) (c_code : Int32) (x1 : Int32) (x2 : Int64) : Option ((Nat → Int64) × (Nat → Int64) × Int32 × Int32 × Int64) :=
  Rf_setObserved_29 c_m c_saved c_savedCount c_code x1 x2 (1 : Int32)
set_option maxRecDepth 100000 in
set_option maxHeartbeats 4000000 in
theorem Rb_setObserved_28 (C : Cx X G T cX10_setObserved RX10 (some .long) 6 1 25) {x1 : Int32} {x2 : Int64} {o_m : Nat → Int64} {o_saved : Nat → Int64} {o_savedCount : Int32} {o_code : Int32} {r : Int64} (hret : RetOK X 0 0 (some (.long r)) (wR a T o_m o_saved o_savedCount c_script c_scriptLength o_code c_lineParts c_lengths c_fractions c_pulseMany c_times c_energies c_far c_near c_echoes c_left c_dropped c_merged c_drops c_contributions c_packet c_peelResult c_peelTime c_peelSum c_at c_commands c_draft c_hash)) (hf : Rf_setObserved_28 c_m c_saved c_savedCount c_code x1 x2 = some (o_m, o_saved, o_savedCount, o_code, r)) : V X 0 0 (wR a T c_m c_saved c_savedCount c_script c_scriptLength c_code c_lineParts c_lengths c_fractions c_pulseMany c_times c_energies c_far c_near c_echoes c_left c_dropped c_merged c_drops c_contributions c_packet c_peelResult c_peelTime c_peelSum c_at c_commands c_draft c_hash) [(0, .ref (a 0)), (1, .int x1), (2, .long x2)] 28 [.ref (a 0)] := by
  unfold Rf_setObserved_28 at hf
  refine v_iconst (v := 1) C dX10_setObserved_28 (by decide) ?_
  exact Rb_setObserved_29 C hret hf
def Rf_setObserved (c_m : Nat → Int64) (c_saved : Nat → Int64) (c_savedCount : Int32) (c_code : Int32) (x1 : Int32) (x2 : Int64) : Option ((Nat → Int64) × (Nat → Int64) × Int32 × Int32 × Int64) :=
  nm (x1.toInt64) fun z2 =>
  bd (Rf_in z2 (0 : Int64) (200 : Int64)) fun r7 =>
  if r7 = 0 then
    Rf_setObserved_28 c_m c_saved c_savedCount c_code x1 x2
  else
    bd (Rf_in x2 (0 : Int64) (4000000 : Int64)) fun r18 =>
    if r18 = 0 then
      Rf_setObserved_28 c_m c_saved c_savedCount c_code x1 x2
    else
      Rf_setObserved_29 c_m c_saved c_savedCount c_code x1 x2 (0 : Int32)
set_option maxRecDepth 100000 in
set_option maxHeartbeats 4000000 in
theorem Rb_setObserved (C : Cx X G T cX10_setObserved RX10 (some .long) 6 1 25) {x1 : Int32} {x2 : Int64} {o_m : Nat → Int64} {o_saved : Nat → Int64} {o_savedCount : Int32} {o_code : Int32} {r : Int64} (hret : RetOK X 0 0 (some (.long r)) (wR a T o_m o_saved o_savedCount c_script c_scriptLength o_code c_lineParts c_lengths c_fractions c_pulseMany c_times c_energies c_far c_near c_echoes c_left c_dropped c_merged c_drops c_contributions c_packet c_peelResult c_peelTime c_peelSum c_at c_commands c_draft c_hash)) (hf : Rf_setObserved c_m c_saved c_savedCount c_code x1 x2 = some (o_m, o_saved, o_savedCount, o_code, r)) : V X 0 0 (wR a T c_m c_saved c_savedCount c_script c_scriptLength c_code c_lineParts c_lengths c_fractions c_pulseMany c_times c_energies c_far c_near c_echoes c_left c_dropped c_merged c_drops c_contributions c_packet c_peelResult c_peelTime c_peelSum c_at c_commands c_draft c_hash) [(0, .ref (a 0)), (1, .int x1), (2, .long x2)] 0 [] := by
  unfold Rf_setObserved at hf
  refine v_aload_n 0 C dX10_setObserved_0 rfl rfl ?_
  refine v_iload_n 1 C dX10_setObserved_1 rfl rfl ?_
  refine v_i2l C dX10_setObserved_2 hf (fun z2 hf => ?_)
  refine v_lconst (v := 0) C dX10_setObserved_3 (by decide) ?_
  refine v_ldc2 (v := 200) C wconstantLong_RX10_169_200 dX10_setObserved_4 ?_
  refine Rc_in C dX10_setObserved_7 (by decide) (Nat.le_of_ble_eq_true rfl) hf (fun r7 hf => ?_)
  refine v_if_eq 28 C dX10_setObserved_10 (by decide) hf (fun c hf => ?_) (fun c hf => ?_)
  · exact Rb_setObserved_28 C hret hf
  · refine v_lload_n 2 C dX10_setObserved_13 rfl rfl ?_
    refine v_lconst (v := 0) C dX10_setObserved_14 (by decide) ?_
    refine v_ldc2 (v := 4000000) C wconstantLong_RX10_229_4000000 dX10_setObserved_15 ?_
    refine Rc_in C dX10_setObserved_18 (by decide) (Nat.le_of_ble_eq_true rfl) hf (fun r18 hf => ?_)
    refine v_if_eq 28 C dX10_setObserved_21 (by decide) hf (fun c hf => ?_) (fun c hf => ?_)
    · exact Rb_setObserved_28 C hret hf
    · refine v_iconst (v := 0) C dX10_setObserved_24 (by decide) ?_
      refine v_goto 29 C dX10_setObserved_25 (by decide) ?_
      exact Rb_setObserved_29 C hret hf
set_option maxRecDepth 100000 in
set_option maxHeartbeats 4000000 in
theorem Rm_setObserved {D : va_G} {x1 : Int32} {x2 : Int64} {o_m : Nat → Int64} {o_saved : Nat → Int64} {o_savedCount : Int32} {o_code : Int32} {r : Int64} (hf : Rf_setObserved c_m c_saved c_savedCount c_code x1 x2 = some (o_m, o_saved, o_savedCount, o_code, r)) : MetM G yX10_setObserved cX10_setObserved 6 (some .long) { frames := 1, cells := 0, slots := 0, locals := 25 } D T [.ref (a 0), .int x1, .long x2] (wR a T c_m c_saved c_savedCount c_script c_scriptLength c_code c_lineParts c_lengths c_fractions c_pulseMany c_times c_energies c_far c_near c_echoes c_left c_dropped c_merged c_drops c_contributions c_packet c_peelResult c_peelTime c_peelSum c_at c_commands c_draft c_hash) (some (.long r)) (wR a T o_m o_saved o_savedCount c_script c_scriptLength o_code c_lineParts c_lengths c_fractions c_pulseMany c_times c_energies c_far c_near c_echoes c_left c_dropped c_merged c_drops c_contributions c_packet c_peelResult c_peelTime c_peelSum c_at c_commands c_draft c_hash) :=
  MetM.of [(0, .ref (a 0)), (1, .int x1), (2, .long x2)] (by decide) (Nat.le_of_ble_eq_true rfl) rfl (fun X C hret => Rb_setObserved C hret hf)
def Rf_observed_42 (c_code : Int32) (s0 : Int64) : Option (Int32 × Int64) :=
  some (c_code, s0)
set_option maxRecDepth 100000 in
set_option maxHeartbeats 4000000 in
theorem Rb_observed_42 (C : Cx X G T cX10_observed RX10 (some .long) 2 1 25) {s0 : Int64} {o_code : Int32} {r : Int64} (hret : RetOK X 0 0 (some (.long r)) (wR a T c_m c_saved c_savedCount c_script c_scriptLength o_code c_lineParts c_lengths c_fractions c_pulseMany c_times c_energies c_far c_near c_echoes c_left c_dropped c_merged c_drops c_contributions c_packet c_peelResult c_peelTime c_peelSum c_at c_commands c_draft c_hash)) (hf : Rf_observed_42 c_code s0 = some (o_code, r)) : V X 0 0 (wR a T c_m c_saved c_savedCount c_script c_scriptLength c_code c_lineParts c_lengths c_fractions c_pulseMany c_times c_energies c_far c_near c_echoes c_left c_dropped c_merged c_drops c_contributions c_packet c_peelResult c_peelTime c_peelSum c_at c_commands c_draft c_hash) [] 42 [.long s0] := by
  unfold Rf_observed_42 at hf
  cases hf
  exact v_lret C hret dX10_observed_42
def Rf_observed_18 (c_m : Nat → Int64) (c_code : Int32) (x1 : Int32) (s1 : Int32) : Option (Int32 × Int64) :=
  if s1 = 0 then
    nm ((230 : Int32) + x1) fun z40 =>
    chk (inb z40 431) <| nm (c_m z40.toNatClampNeg) fun z41 =>
    Rf_observed_42 s1 z41
  else
    Rf_observed_42 s1 (0 : Int64)
set_option maxRecDepth 100000 in
set_option maxHeartbeats 4000000 in
theorem Rb_observed_18 (C : Cx X G T cX10_observed RX10 (some .long) 2 1 25) {x1 : Int32} {s1 : Int32} {o_code : Int32} {r : Int64} (hret : RetOK X 0 0 (some (.long r)) (wR a T c_m c_saved c_savedCount c_script c_scriptLength o_code c_lineParts c_lengths c_fractions c_pulseMany c_times c_energies c_far c_near c_echoes c_left c_dropped c_merged c_drops c_contributions c_packet c_peelResult c_peelTime c_peelSum c_at c_commands c_draft c_hash)) (hf : Rf_observed_18 c_m c_code x1 s1 = some (o_code, r)) : V X 0 0 (wR a T c_m c_saved c_savedCount c_script c_scriptLength c_code c_lineParts c_lengths c_fractions c_pulseMany c_times c_energies c_far c_near c_echoes c_left c_dropped c_merged c_drops c_contributions c_packet c_peelResult c_peelTime c_peelSum c_at c_commands c_draft c_hash) [(0, .ref (a 0)), (1, .int x1)] 18 [.int s1, .ref (a 0)] := by
  unfold Rf_observed_18 at hf
  refine Rp_code C dX10_observed_18 ?_
  refine v_aload_n 0 C dX10_observed_21 rfl rfl ?_
  refine Rg_code C dX10_observed_22 ?_
  refine v_if_eq 32 C dX10_observed_25 (by decide) hf (fun c hf => ?_) (fun c hf => ?_)
  · refine v_aload_n 0 C dX10_observed_32 rfl rfl ?_
    refine Rg_m C dX10_observed_33 ?_
    refine v_sipush (v := 230) C dX10_observed_36 (by decide) ?_
    refine v_iload_n 1 C dX10_observed_39 rfl rfl ?_
    refine v_iadd C dX10_observed_40 hf (fun z40 hf => ?_)
    refine Ral_m C dX10_observed_41 hf (fun z41 hf => ?_)
    refine v_lv [] [] rfl ?_
    exact Rb_observed_42 C hret hf
  · refine v_lconst (v := 0) C dX10_observed_28 (by decide) ?_
    refine v_goto 42 C dX10_observed_29 (by decide) ?_
    refine v_lv [] [] rfl ?_
    exact Rb_observed_42 C hret hf
def Rf_observed (c_m : Nat → Int64) (c_code : Int32) (x1 : Int32) : Option (Int32 × Int64) :=
  nm (x1.toInt64) fun z2 =>
  bd (Rf_in z2 (0 : Int64) (200 : Int64)) fun r7 =>
  if r7 = 0 then
    Rf_observed_18 c_m c_code x1 (1 : Int32)
  else
    Rf_observed_18 c_m c_code x1 (0 : Int32)
set_option maxRecDepth 100000 in
set_option maxHeartbeats 4000000 in
theorem Rb_observed (C : Cx X G T cX10_observed RX10 (some .long) 2 1 25) {x1 : Int32} {o_code : Int32} {r : Int64} (hret : RetOK X 0 0 (some (.long r)) (wR a T c_m c_saved c_savedCount c_script c_scriptLength o_code c_lineParts c_lengths c_fractions c_pulseMany c_times c_energies c_far c_near c_echoes c_left c_dropped c_merged c_drops c_contributions c_packet c_peelResult c_peelTime c_peelSum c_at c_commands c_draft c_hash)) (hf : Rf_observed c_m c_code x1 = some (o_code, r)) : V X 0 0 (wR a T c_m c_saved c_savedCount c_script c_scriptLength c_code c_lineParts c_lengths c_fractions c_pulseMany c_times c_energies c_far c_near c_echoes c_left c_dropped c_merged c_drops c_contributions c_packet c_peelResult c_peelTime c_peelSum c_at c_commands c_draft c_hash) [(0, .ref (a 0)), (1, .int x1)] 0 [] := by
  unfold Rf_observed at hf
  refine v_aload_n 0 C dX10_observed_0 rfl rfl ?_
  refine v_iload_n 1 C dX10_observed_1 rfl rfl ?_
  refine v_i2l C dX10_observed_2 hf (fun z2 hf => ?_)
  refine v_lconst (v := 0) C dX10_observed_3 (by decide) ?_
  refine v_ldc2 (v := 200) C wconstantLong_RX10_169_200 dX10_observed_4 ?_
  refine Rc_in C dX10_observed_7 (by decide) (Nat.le_of_ble_eq_true rfl) hf (fun r7 hf => ?_)
  refine v_if_eq 17 C dX10_observed_10 (by decide) hf (fun c hf => ?_) (fun c hf => ?_)
  · refine v_iconst (v := 1) C dX10_observed_17 (by decide) ?_
    exact Rb_observed_18 C hret hf
  · refine v_iconst (v := 0) C dX10_observed_13 (by decide) ?_
    refine v_goto 18 C dX10_observed_14 (by decide) ?_
    exact Rb_observed_18 C hret hf
set_option maxRecDepth 100000 in
set_option maxHeartbeats 4000000 in
theorem Rm_observed {D : va_G} {x1 : Int32} {o_code : Int32} {r : Int64} (hf : Rf_observed c_m c_code x1 = some (o_code, r)) : MetM G yX10_observed cX10_observed 2 (some .long) { frames := 1, cells := 0, slots := 0, locals := 25 } D T [.ref (a 0), .int x1] (wR a T c_m c_saved c_savedCount c_script c_scriptLength c_code c_lineParts c_lengths c_fractions c_pulseMany c_times c_energies c_far c_near c_echoes c_left c_dropped c_merged c_drops c_contributions c_packet c_peelResult c_peelTime c_peelSum c_at c_commands c_draft c_hash) (some (.long r)) (wR a T c_m c_saved c_savedCount c_script c_scriptLength o_code c_lineParts c_lengths c_fractions c_pulseMany c_times c_energies c_far c_near c_echoes c_left c_dropped c_merged c_drops c_contributions c_packet c_peelResult c_peelTime c_peelSum c_at c_commands c_draft c_hash) :=
  MetM.of [(0, .ref (a 0)), (1, .int x1)] (by decide) (Nat.le_of_ble_eq_true rfl) rfl (fun X C hret => Rb_observed C hret hf)
def Rl_firstUnlike_2 (c_m : Nat → Int64) (c_echoes : Nat → Int64) : Nat → Int32 → Option (Int32 ⊕ Unit)
  | 0, _ => none
  | n + 1, x1 =>
    bd (Rf_window c_m) fun r4 =>
    if r4 < x1 then
      some (.inr ())
    else
      nm ((230 : Int32) + x1) fun z18 =>
      chk (inb z18 431) <| nm (c_m z18.toNatClampNeg) fun z19 =>
      chk (inb x1 201) <| nm (c_echoes x1.toNatClampNeg) fun z25 =>
      if z19 = z25 then
        nm (x1 + (1 : Int32)) fun x1_32 =>
        Rl_firstUnlike_2 c_m c_echoes n x1_32
      else
        some (.inl x1)
set_option maxRecDepth 100000 in
set_option maxHeartbeats 4000000 in
theorem Rk_firstUnlike_2 (C : Cx X G T cX10_firstUnlike RX10 (some .int) 2 1 20)  {o : (Int32 ⊕ Unit)} (hk0 : ∀ (y1 : Int32), o = .inl y1 → V X 0 0 (wR a T c_m c_saved c_savedCount c_script c_scriptLength c_code c_lineParts c_lengths c_fractions c_pulseMany c_times c_energies c_far c_near c_echoes c_left c_dropped c_merged c_drops c_contributions c_packet c_peelResult c_peelTime c_peelSum c_at c_commands c_draft c_hash) [(1, .int y1)] 30 []) (hk1 :  o = .inr () → V X 0 0 (wR a T c_m c_saved c_savedCount c_script c_scriptLength c_code c_lineParts c_lengths c_fractions c_pulseMany c_times c_energies c_far c_near c_echoes c_left c_dropped c_merged c_drops c_contributions c_packet c_peelResult c_peelTime c_peelSum c_at c_commands c_draft c_hash) [] 38 []) : ∀ (n : Nat) (x1 : Int32), Rl_firstUnlike_2 c_m c_echoes n x1 = some o → V X 0 0 (wR a T c_m c_saved c_savedCount c_script c_scriptLength c_code c_lineParts c_lengths c_fractions c_pulseMany c_times c_energies c_far c_near c_echoes c_left c_dropped c_merged c_drops c_contributions c_packet c_peelResult c_peelTime c_peelSum c_at c_commands c_draft c_hash) [(0, .ref (a 0)), (1, .int x1)] 2 [] := by
  intro n
  induction n with
  | zero =>
    intro _ hf
    cases hf
  | succ n hrec =>
    intro x1 hf
    rw [Rl_firstUnlike_2] at hf
    refine v_iload_n 1 C dX10_firstUnlike_2 rfl rfl ?_
    refine v_aload_n 0 C dX10_firstUnlike_3 rfl rfl ?_
    refine Rc_window C dX10_firstUnlike_4 (by decide) (Nat.le_of_ble_eq_true rfl) hf (fun r4 hf => ?_)
    refine v_icmp_gt 38 C dX10_firstUnlike_7 (by decide) hf (fun c hf => ?_) (fun c hf => ?_)
    · refine v_lv [] [] rfl ?_
      cases hf
      exact hk1  rfl
    · refine v_aload_n 0 C dX10_firstUnlike_10 rfl rfl ?_
      refine Rg_m C dX10_firstUnlike_11 ?_
      refine v_sipush (v := 230) C dX10_firstUnlike_14 (by decide) ?_
      refine v_iload_n 1 C dX10_firstUnlike_17 rfl rfl ?_
      refine v_iadd C dX10_firstUnlike_18 hf (fun z18 hf => ?_)
      refine Ral_m C dX10_firstUnlike_19 hf (fun z19 hf => ?_)
      refine v_aload_n 0 C dX10_firstUnlike_20 rfl rfl ?_
      refine Rg_echoes C dX10_firstUnlike_21 ?_
      refine v_iload_n 1 C dX10_firstUnlike_24 rfl rfl ?_
      refine Ral_echoes C dX10_firstUnlike_25 hf (fun z25 hf => ?_)
      refine v_lcmp_eq 32 C dX10_firstUnlike_26 dX10_firstUnlike_27 (by decide) hf (fun c hf => ?_) (fun c hf => ?_)
      · refine v_iinc (fun x1_32 => [(0, .ref (a 0)), (1, .int x1_32)]) [1, 0] C dX10_firstUnlike_32 (j := 1) rfl (dv := 1) (by decide) (by decide) (fun _ => rfl) hf (fun x1_32 hf => ?_)
        refine v_goto 2 C dX10_firstUnlike_35 (by decide) ?_
        exact hrec _ hf
      · refine v_lv [(1, .int x1)] [1] rfl ?_
        cases hf
        exact hk0 _ rfl
def Rf_firstUnlike (c_m : Nat → Int64) (c_echoes : Nat → Int64) : Option Int32 :=
  bd (Rl_firstUnlike_2 c_m c_echoes FUEL (0 : Int32)) fun o => match o with
  | .inl y1_2 =>
    some y1_2
  | .inr _ =>
    some (-1 : Int32)
set_option maxRecDepth 100000 in
set_option maxHeartbeats 4000000 in
theorem Rb_firstUnlike (C : Cx X G T cX10_firstUnlike RX10 (some .int) 2 1 20)  {r : Int32} (hret : RetOK X 0 0 (some (.int r)) (wR a T c_m c_saved c_savedCount c_script c_scriptLength c_code c_lineParts c_lengths c_fractions c_pulseMany c_times c_energies c_far c_near c_echoes c_left c_dropped c_merged c_drops c_contributions c_packet c_peelResult c_peelTime c_peelSum c_at c_commands c_draft c_hash)) (hf : Rf_firstUnlike c_m c_echoes = some r) : V X 0 0 (wR a T c_m c_saved c_savedCount c_script c_scriptLength c_code c_lineParts c_lengths c_fractions c_pulseMany c_times c_energies c_far c_near c_echoes c_left c_dropped c_merged c_drops c_contributions c_packet c_peelResult c_peelTime c_peelSum c_at c_commands c_draft c_hash) [(0, .ref (a 0))] 0 [] := by
  unfold Rf_firstUnlike at hf
  refine v_iconst (v := 0) C dX10_firstUnlike_0 (by decide) ?_
  refine v_istore_n [(0, .ref (a 0)), (1, .int (0 : Int32))] [1, 0] C dX10_firstUnlike_1 rfl (by decide) rfl ?_
  obtain ⟨o, hc, hf⟩ := bd_some hf
  refine Rk_firstUnlike_2 C (fun y1_2 e => ?_) (fun e => ?_) _ _ hc
  · subst e
    refine v_iload_n 0 C dX10_firstUnlike_30 rfl rfl ?_
    cases hf
    exact v_iret C hret dX10_firstUnlike_31
  · subst e
    refine v_iconst (v := -1) C dX10_firstUnlike_38 (by decide) ?_
    cases hf
    exact v_iret C hret dX10_firstUnlike_39
set_option maxRecDepth 100000 in
set_option maxHeartbeats 4000000 in
theorem Rm_firstUnlike {D : va_G}  {r : Int32} (hf : Rf_firstUnlike c_m c_echoes = some r) : MetM G yX10_firstUnlike cX10_firstUnlike 2 (some .int) { frames := 1, cells := 0, slots := 0, locals := 20 } D T [.ref (a 0)] (wR a T c_m c_saved c_savedCount c_script c_scriptLength c_code c_lineParts c_lengths c_fractions c_pulseMany c_times c_energies c_far c_near c_echoes c_left c_dropped c_merged c_drops c_contributions c_packet c_peelResult c_peelTime c_peelSum c_at c_commands c_draft c_hash) (some (.int r)) (wR a T c_m c_saved c_savedCount c_script c_scriptLength c_code c_lineParts c_lengths c_fractions c_pulseMany c_times c_energies c_far c_near c_echoes c_left c_dropped c_merged c_drops c_contributions c_packet c_peelResult c_peelTime c_peelSum c_at c_commands c_draft c_hash) :=
  MetM.of [(0, .ref (a 0))] (by decide) (Nat.le_of_ble_eq_true rfl) rfl (fun X C hret => Rb_firstUnlike C hret hf)
set_option maxRecDepth 100000 in
theorem Rc_firstUnlike  {cc : ByteArray} {ret : Option FieldType} {nl fr lo pc : Nat} {lv : List (Nat × Value)} {rest : List Value} {β : Type} {K : Int32 → Option β} {oo : β} (C : Cx X G T cc RX10 ret nl fr lo) (hdg : decode cc pc = .ok (.invokevirtual 234, 3)) (hroom : 1 + 1 ≤ fr ∧ 8 + (2 + 11) + 20 ≤ lo) (hst : (rest.map fun v => v.category).sum ≤ 8) (hf : bd (Rf_firstUnlike c_m c_echoes) K = some oo) (kk : ∀ (r : Int32), K r = some oo → V X 0 0 (wR a T c_m c_saved c_savedCount c_script c_scriptLength c_code c_lineParts c_lengths c_fractions c_pulseMany c_times c_energies c_far c_near c_echoes c_left c_dropped c_merged c_drops c_contributions c_packet c_peelResult c_peelTime c_peelSum c_at c_commands c_draft c_hash) lv (pc + 3) (.int r :: rest)) : V X 0 0 (wR a T c_m c_saved c_savedCount c_script c_scriptLength c_code c_lineParts c_lengths c_fractions c_pulseMany c_times c_energies c_far c_near c_echoes c_left c_dropped c_merged c_drops c_contributions c_packet c_peelResult c_peelTime c_peelSum c_at c_commands c_draft c_hash) lv pc (.ref (a 0) :: rest) := by
  obtain ⟨r, hc, hk⟩ := bd_some hf
  exact v_callV (As := []) (rest := rest) (q0 := 0) 0 C (CapOK.z X) (fun D => Rm_firstUnlike hc) (goodV wmethodLink_RX10_234_yX10_firstUnlike winstanceMethod_yX10_firstUnlike wselects_RX10_yX10_firstUnlike_yX10_firstUnlike winitialized_RX10 wcode_yX10_firstUnlike_cX10_firstUnlike_2_some_int) (by decide +kernel) hroom ⟨rfl, rfl⟩ rfl rfl rfl hst hdg (kk r hk)
def Rf_puts_121 (rec : (Nat → Int32) → (Nat → Int64) → (Nat → Int64) → (Nat → Int64) → Int64 → Int64 → Int32 → Int32 → Int32 → Int64 → Int32 → Int32 → Option ((Nat → Int32) × (Nat → Int64) × (Nat → Int64) × (Nat → Int64) × Int64 × Int64 × Int32 × Int32 × Int32 × Int64 × Int32)) (c_fractions : Nat → Int32) (c_far : Nat → Int64) (c_near : Nat → Int64) (c_echoes : Nat → Int64) (c_left : Int64) (c_dropped : Int64) (c_merged : Int32) (c_drops : Int32) (c_contributions : Int32) (c_packet : Int64) (x1 : Int32) (x2 : Int32) (x3 : Int32) (s0 : Int32) : Option ((Nat → Int32) × (Nat → Int64) × (Nat → Int64) × (Nat → Int64) × Int64 × Int64 × Int32 × Int32 × Int32 × Int64 × Int32) :=
  rec c_fractions c_far c_near c_echoes c_left c_dropped c_merged c_drops c_contributions c_packet x3 s0
set_option maxRecDepth 100000 in
set_option maxHeartbeats 4000000 in
theorem Rb_puts_121 (C : Cx X G T cX10_puts RX10 (some .boolean) 6 4 96) {rec : (Nat → Int32) → (Nat → Int64) → (Nat → Int64) → (Nat → Int64) → Int64 → Int64 → Int32 → Int32 → Int32 → Int64 → Int32 → Int32 → Option ((Nat → Int32) × (Nat → Int64) × (Nat → Int64) × (Nat → Int64) × Int64 × Int64 × Int32 × Int32 × Int32 × Int64 × Int32)} {x1 : Int32} {x2 : Int32} {x3 : Int32} {s0 : Int32} {o_fractions : Nat → Int32} {o_far : Nat → Int64} {o_near : Nat → Int64} {o_echoes : Nat → Int64} {o_left : Int64} {o_dropped : Int64} {o_merged : Int32} {o_drops : Int32} {o_contributions : Int32} {o_packet : Int64} {y3 : Int32} (hrec : ∀ (c_fractions : Nat → Int32) (c_far : Nat → Int64) (c_near : Nat → Int64) (c_echoes : Nat → Int64) (c_left : Int64) (c_dropped : Int64) (c_merged : Int32) (c_drops : Int32) (c_contributions : Int32) (c_packet : Int64) (x3 : Int32) (x4 : Int32), rec c_fractions c_far c_near c_echoes c_left c_dropped c_merged c_drops c_contributions c_packet x3 x4 = some (o_fractions, o_far, o_near, o_echoes, o_left, o_dropped, o_merged, o_drops, o_contributions, o_packet, y3) → V X 0 0 (wR a T c_m c_saved c_savedCount c_script c_scriptLength c_code c_lineParts c_lengths c_fractions c_pulseMany c_times c_energies c_far c_near c_echoes c_left c_dropped c_merged c_drops c_contributions c_packet c_peelResult c_peelTime c_peelSum c_at c_commands c_draft c_hash) [(0, .ref (a 0)), (1, .int x1), (2, .int x2), (3, .int x3), (4, .int x4)] 36 []) (hk : V X 0 0 (wR a T c_m c_saved c_savedCount c_script c_scriptLength c_code c_lineParts c_lengths o_fractions c_pulseMany c_times c_energies o_far o_near o_echoes o_left o_dropped o_merged o_drops o_contributions o_packet c_peelResult c_peelTime c_peelSum c_at c_commands c_draft c_hash) [(0, .ref (a 0)), (1, .int x1), (2, .int x2), (3, .int y3)] 126 []) (hf : Rf_puts_121 rec c_fractions c_far c_near c_echoes c_left c_dropped c_merged c_drops c_contributions c_packet x1 x2 x3 s0 = some (o_fractions, o_far, o_near, o_echoes, o_left, o_dropped, o_merged, o_drops, o_contributions, o_packet, y3)) : V X 0 0 (wR a T c_m c_saved c_savedCount c_script c_scriptLength c_code c_lineParts c_lengths c_fractions c_pulseMany c_times c_energies c_far c_near c_echoes c_left c_dropped c_merged c_drops c_contributions c_packet c_peelResult c_peelTime c_peelSum c_at c_commands c_draft c_hash) [(0, .ref (a 0)), (1, .int x1), (2, .int x2), (3, .int x3)] 121 [.int s0] := by
  unfold Rf_puts_121 at hf
  refine v_istore [(0, .ref (a 0)), (1, .int x1), (2, .int x2), (3, .int x3), (4, .int s0)] [1, 2, 3, 4, 0] C dX10_puts_121 (by decide) rfl ?_
  refine v_goto 36 C dX10_puts_123 (by decide) ?_
  exact hrec _ _ _ _ _ _ _ _ _ _ _ _ hf
def Rf_puts_93 (rec : (Nat → Int32) → (Nat → Int64) → (Nat → Int64) → (Nat → Int64) → Int64 → Int64 → Int32 → Int32 → Int32 → Int64 → Int32 → Int32 → Option ((Nat → Int32) × (Nat → Int64) × (Nat → Int64) × (Nat → Int64) × Int64 × Int64 × Int32 × Int32 × Int32 × Int64 × Int32)) (c_m : Nat → Int64) (c_fractions : Nat → Int32) (c_far : Nat → Int64) (c_near : Nat → Int64) (c_echoes : Nat → Int64) (c_left : Int64) (c_dropped : Int64) (c_merged : Int32) (c_drops : Int32) (c_contributions : Int32) (c_packet : Int64) (x1 : Int32) (x2 : Int32) (x4 : Int32) (x5 : Int32) (s0 : Int32) : Option ((Nat → Int32) × (Nat → Int64) × (Nat → Int64) × (Nat → Int64) × Int64 × Int64 × Int32 × Int32 × Int32 × Int64 × Int32) :=
  chk (inb x1 201) <| nm (c_echoes x1.toNatClampNeg) fun z99 =>
  nm ((230 : Int32) + x1) fun z108 =>
  chk (inb z108 431) <| nm (c_m z108.toNatClampNeg) fun z109 =>
  if z109 ≤ z99 then
    Rf_puts_121 rec c_fractions c_far c_near c_echoes c_left c_dropped c_merged c_drops c_contributions c_packet x1 x2 s0 x5
  else
    Rf_puts_121 rec c_fractions c_far c_near c_echoes c_left c_dropped c_merged c_drops c_contributions c_packet x1 x2 s0 x4
set_option maxRecDepth 100000 in
set_option maxHeartbeats 4000000 in
theorem Rb_puts_93 (C : Cx X G T cX10_puts RX10 (some .boolean) 6 4 96) {rec : (Nat → Int32) → (Nat → Int64) → (Nat → Int64) → (Nat → Int64) → Int64 → Int64 → Int32 → Int32 → Int32 → Int64 → Int32 → Int32 → Option ((Nat → Int32) × (Nat → Int64) × (Nat → Int64) × (Nat → Int64) × Int64 × Int64 × Int32 × Int32 × Int32 × Int64 × Int32)} {x1 : Int32} {x2 : Int32} {x4 : Int32} {x5 : Int32} {s0 : Int32} {o_fractions : Nat → Int32} {o_far : Nat → Int64} {o_near : Nat → Int64} {o_echoes : Nat → Int64} {o_left : Int64} {o_dropped : Int64} {o_merged : Int32} {o_drops : Int32} {o_contributions : Int32} {o_packet : Int64} {y3 : Int32} (hrec : ∀ (c_fractions : Nat → Int32) (c_far : Nat → Int64) (c_near : Nat → Int64) (c_echoes : Nat → Int64) (c_left : Int64) (c_dropped : Int64) (c_merged : Int32) (c_drops : Int32) (c_contributions : Int32) (c_packet : Int64) (x3 : Int32) (x4 : Int32), rec c_fractions c_far c_near c_echoes c_left c_dropped c_merged c_drops c_contributions c_packet x3 x4 = some (o_fractions, o_far, o_near, o_echoes, o_left, o_dropped, o_merged, o_drops, o_contributions, o_packet, y3) → V X 0 0 (wR a T c_m c_saved c_savedCount c_script c_scriptLength c_code c_lineParts c_lengths c_fractions c_pulseMany c_times c_energies c_far c_near c_echoes c_left c_dropped c_merged c_drops c_contributions c_packet c_peelResult c_peelTime c_peelSum c_at c_commands c_draft c_hash) [(0, .ref (a 0)), (1, .int x1), (2, .int x2), (3, .int x3), (4, .int x4)] 36 []) (hk : V X 0 0 (wR a T c_m c_saved c_savedCount c_script c_scriptLength c_code c_lineParts c_lengths o_fractions c_pulseMany c_times c_energies o_far o_near o_echoes o_left o_dropped o_merged o_drops o_contributions o_packet c_peelResult c_peelTime c_peelSum c_at c_commands c_draft c_hash) [(0, .ref (a 0)), (1, .int x1), (2, .int x2), (3, .int y3)] 126 []) (hf : Rf_puts_93 rec c_m c_fractions c_far c_near c_echoes c_left c_dropped c_merged c_drops c_contributions c_packet x1 x2 x4 x5 s0 = some (o_fractions, o_far, o_near, o_echoes, o_left, o_dropped, o_merged, o_drops, o_contributions, o_packet, y3)) : V X 0 0 (wR a T c_m c_saved c_savedCount c_script c_scriptLength c_code c_lineParts c_lengths c_fractions c_pulseMany c_times c_energies c_far c_near c_echoes c_left c_dropped c_merged c_drops c_contributions c_packet c_peelResult c_peelTime c_peelSum c_at c_commands c_draft c_hash) [(0, .ref (a 0)), (1, .int x1), (2, .int x2), (4, .int x4), (5, .int x5)] 93 [.int s0] := by
  unfold Rf_puts_93 at hf
  refine v_istore_n [(0, .ref (a 0)), (1, .int x1), (2, .int x2), (3, .int s0), (4, .int x4), (5, .int x5)] [1, 2, 3, 0, 4, 5] C dX10_puts_93 rfl (by decide) rfl ?_
  refine v_aload_n 0 C dX10_puts_94 rfl rfl ?_
  refine Rg_echoes C dX10_puts_95 ?_
  refine v_iload_n 1 C dX10_puts_98 rfl rfl ?_
  refine Ral_echoes C dX10_puts_99 hf (fun z99 hf => ?_)
  refine v_aload_n 0 C dX10_puts_100 rfl rfl ?_
  refine Rg_m C dX10_puts_101 ?_
  refine v_sipush (v := 230) C dX10_puts_104 (by decide) ?_
  refine v_iload_n 1 C dX10_puts_107 rfl rfl ?_
  refine v_iadd C dX10_puts_108 hf (fun z108 hf => ?_)
  refine Ral_m C dX10_puts_109 hf (fun z109 hf => ?_)
  refine v_lcmp_ge 119 C dX10_puts_110 dX10_puts_111 (by decide) hf (fun c hf => ?_) (fun c hf => ?_)
  · refine v_iload 5 C dX10_puts_119 rfl ?_
    refine v_lv [(0, .ref (a 0)), (1, .int x1), (2, .int x2), (3, .int s0)] [0, 1, 2, 3] rfl ?_
    exact Rb_puts_121 C hrec hk hf
  · refine v_iload 4 C dX10_puts_114 rfl ?_
    refine v_goto 121 C dX10_puts_116 (by decide) ?_
    refine v_lv [(0, .ref (a 0)), (1, .int x1), (2, .int x2), (3, .int s0)] [0, 1, 2, 3] rfl ?_
    exact Rb_puts_121 C hrec hk hf
def Rl_puts_36 (c_m : Nat → Int64) (c_lineParts : Int32) (c_lengths : Nat → Int32) (c_pulseMany : Int32) (c_times : Nat → Int32) (c_energies : Nat → Int64) (x1 : Int32) (x2 : Int32) : Nat → (Nat → Int32) → (Nat → Int64) → (Nat → Int64) → (Nat → Int64) → Int64 → Int64 → Int32 → Int32 → Int32 → Int64 → Int32 → Int32 → Option ((Nat → Int32) × (Nat → Int64) × (Nat → Int64) × (Nat → Int64) × Int64 × Int64 × Int32 × Int32 × Int32 × Int64 × Int32)
  | 0, _, _, _, _, _, _, _, _, _, _, _, _ => none
  | n + 1, c_fractions, c_far, c_near, c_echoes, c_left, c_dropped, c_merged, c_drops, c_contributions, c_packet, x3, x4 =>
    if x4 ≤ x3 then
      some (c_fractions, c_far, c_near, c_echoes, c_left, c_dropped, c_merged, c_drops, c_contributions, c_packet, x3)
    else
      nm (x3 + x4) fun z45 =>
      chk (¬ (2 : Int32) = 0) <| nm (z45 / (2 : Int32)) fun z47 =>
      chk (inb c_lineParts 9) <| nm (upd c_fractions c_lineParts.toNatClampNeg z47) fun fractions_60 =>
      bd (Rf_runLine c_m c_lineParts c_lengths fractions_60 c_pulseMany c_times c_energies c_far c_near c_echoes c_left c_dropped c_merged c_drops c_contributions c_packet) fun (far_62, near_62, echoes_62, left_62, dropped_62, merged_62, drops_62, contributions_62, packet_62) =>
      chk (inb x1 201) <| nm (echoes_62 x1.toNatClampNeg) fun z70 =>
      nm ((230 : Int32) + x1) fun z79 =>
      chk (inb z79 431) <| nm (c_m z79.toNatClampNeg) fun z80 =>
      if z80 ≤ z70 then
        Rf_puts_93 (Rl_puts_36 c_m c_lineParts c_lengths c_pulseMany c_times c_energies x1 x2 n) c_m fractions_60 far_62 near_62 echoes_62 left_62 dropped_62 merged_62 drops_62 contributions_62 packet_62 x1 x2 x4 z47 x3
      else
        nm (z47 + (1 : Int32)) fun z88 =>
        Rf_puts_93 (Rl_puts_36 c_m c_lineParts c_lengths c_pulseMany c_times c_energies x1 x2 n) c_m fractions_60 far_62 near_62 echoes_62 left_62 dropped_62 merged_62 drops_62 contributions_62 packet_62 x1 x2 x4 z47 z88
set_option maxRecDepth 100000 in
set_option maxHeartbeats 4000000 in
theorem Rk_puts_36 (C : Cx X G T cX10_puts RX10 (some .boolean) 6 4 96) {x1 : Int32} {x2 : Int32} {o_fractions : Nat → Int32} {o_far : Nat → Int64} {o_near : Nat → Int64} {o_echoes : Nat → Int64} {o_left : Int64} {o_dropped : Int64} {o_merged : Int32} {o_drops : Int32} {o_contributions : Int32} {o_packet : Int64} {y3 : Int32} (hk : V X 0 0 (wR a T c_m c_saved c_savedCount c_script c_scriptLength c_code c_lineParts c_lengths o_fractions c_pulseMany c_times c_energies o_far o_near o_echoes o_left o_dropped o_merged o_drops o_contributions o_packet c_peelResult c_peelTime c_peelSum c_at c_commands c_draft c_hash) [(0, .ref (a 0)), (1, .int x1), (2, .int x2), (3, .int y3)] 126 []) : ∀ (n : Nat) (c_fractions : Nat → Int32) (c_far : Nat → Int64) (c_near : Nat → Int64) (c_echoes : Nat → Int64) (c_left : Int64) (c_dropped : Int64) (c_merged : Int32) (c_drops : Int32) (c_contributions : Int32) (c_packet : Int64) (x3 : Int32) (x4 : Int32), Rl_puts_36 c_m c_lineParts c_lengths c_pulseMany c_times c_energies x1 x2 n c_fractions c_far c_near c_echoes c_left c_dropped c_merged c_drops c_contributions c_packet x3 x4 = some (o_fractions, o_far, o_near, o_echoes, o_left, o_dropped, o_merged, o_drops, o_contributions, o_packet, y3) → V X 0 0 (wR a T c_m c_saved c_savedCount c_script c_scriptLength c_code c_lineParts c_lengths c_fractions c_pulseMany c_times c_energies c_far c_near c_echoes c_left c_dropped c_merged c_drops c_contributions c_packet c_peelResult c_peelTime c_peelSum c_at c_commands c_draft c_hash) [(0, .ref (a 0)), (1, .int x1), (2, .int x2), (3, .int x3), (4, .int x4)] 36 [] := by
  intro n
  induction n with
  | zero =>
    intro _ _ _ _ _ _ _ _ _ _ _ _ hf
    cases hf
  | succ n hrec =>
    intro c_fractions c_far c_near c_echoes c_left c_dropped c_merged c_drops c_contributions c_packet x3 x4 hf
    rw [Rl_puts_36] at hf
    refine v_iload_n 3 C dX10_puts_36 rfl rfl ?_
    refine v_iload 4 C dX10_puts_37 rfl ?_
    refine v_icmp_ge 126 C dX10_puts_39 (by decide) hf (fun c hf => ?_) (fun c hf => ?_)
    · refine v_lv [(0, .ref (a 0)), (1, .int x1), (2, .int x2), (3, .int x3)] [0, 1, 2, 3] rfl ?_
      cases hf
      exact hk
    · refine v_iload_n 3 C dX10_puts_42 rfl rfl ?_
      refine v_iload 4 C dX10_puts_43 rfl ?_
      refine v_iadd C dX10_puts_45 hf (fun z45 hf => ?_)
      refine v_iconst (v := 2) C dX10_puts_46 (by decide) ?_
      refine v_idiv C dX10_puts_47 hf (fun z47 hf => ?_)
      refine v_istore [(0, .ref (a 0)), (1, .int x1), (2, .int x2), (3, .int x3), (4, .int x4), (5, .int z47)] [1, 2, 3, 4, 5, 0] C dX10_puts_48 (by decide) rfl ?_
      refine v_aload_n 0 C dX10_puts_50 rfl rfl ?_
      refine Rg_fractions C dX10_puts_51 ?_
      refine v_aload_n 0 C dX10_puts_54 rfl rfl ?_
      refine Rg_lineParts C dX10_puts_55 ?_
      refine v_iload 5 C dX10_puts_58 rfl ?_
      refine Ras_fractions C dX10_puts_60 hf (fun fractions_60 hf => ?_)
      refine v_aload_n 0 C dX10_puts_61 rfl rfl ?_
      refine Rc_runLine C dX10_puts_62 (by decide) (Nat.le_of_ble_eq_true rfl) hf (fun far_62 near_62 echoes_62 left_62 dropped_62 merged_62 drops_62 contributions_62 packet_62 hf => ?_)
      refine v_aload_n 0 C dX10_puts_65 rfl rfl ?_
      refine Rg_echoes C dX10_puts_66 ?_
      refine v_iload_n 1 C dX10_puts_69 rfl rfl ?_
      refine Ral_echoes C dX10_puts_70 hf (fun z70 hf => ?_)
      refine v_aload_n 0 C dX10_puts_71 rfl rfl ?_
      refine Rg_m C dX10_puts_72 ?_
      refine v_sipush (v := 230) C dX10_puts_75 (by decide) ?_
      refine v_iload_n 1 C dX10_puts_78 rfl rfl ?_
      refine v_iadd C dX10_puts_79 hf (fun z79 hf => ?_)
      refine Ral_m C dX10_puts_80 hf (fun z80 hf => ?_)
      refine v_lcmp_ge 92 C dX10_puts_81 dX10_puts_82 (by decide) hf (fun c hf => ?_) (fun c hf => ?_)
      · refine v_iload_n 3 C dX10_puts_92 rfl rfl ?_
        refine v_lv [(0, .ref (a 0)), (1, .int x1), (2, .int x2), (4, .int x4), (5, .int z47)] [0, 1, 2, 4, 5] rfl ?_
        exact Rb_puts_93 C hrec hk hf
      · refine v_iload 5 C dX10_puts_85 rfl ?_
        refine v_iconst (v := 1) C dX10_puts_87 (by decide) ?_
        refine v_iadd C dX10_puts_88 hf (fun z88 hf => ?_)
        refine v_goto 93 C dX10_puts_89 (by decide) ?_
        refine v_lv [(0, .ref (a 0)), (1, .int x1), (2, .int x2), (4, .int x4), (5, .int z47)] [0, 1, 2, 4, 5] rfl ?_
        exact Rb_puts_93 C hrec hk hf
def Rf_puts_201 (c_lineParts : Int32) (c_lengths : Nat → Int32) (c_fractions : Nat → Int32) (c_far : Nat → Int64) (c_near : Nat → Int64) (c_echoes : Nat → Int64) (c_left : Int64) (c_dropped : Int64) (c_merged : Int32) (c_drops : Int32) (c_contributions : Int32) (c_packet : Int64) (c_peelSum : Int32) (x5 : Int32) (s1 : Int32) (s2 : Int32) : Option (Int32 × (Nat → Int32) × (Nat → Int32) × (Nat → Int64) × (Nat → Int64) × (Nat → Int64) × Int64 × Int64 × Int32 × Int32 × Int32 × Int64 × Int32 × Int32) :=
  nm (s1 + s2) fun z201 =>
  chk (x5 = 0 ∨ x5 = 1) <| some (c_lineParts, c_lengths, c_fractions, c_far, c_near, c_echoes, c_left, c_dropped, c_merged, c_drops, c_contributions, c_packet, z201, x5)
set_option maxRecDepth 100000 in
set_option maxHeartbeats 4000000 in
theorem Rb_puts_201 (C : Cx X G T cX10_puts RX10 (some .boolean) 6 4 96) {x5 : Int32} {s1 : Int32} {s2 : Int32} {o_lineParts : Int32} {o_lengths : Nat → Int32} {o_fractions : Nat → Int32} {o_far : Nat → Int64} {o_near : Nat → Int64} {o_echoes : Nat → Int64} {o_left : Int64} {o_dropped : Int64} {o_merged : Int32} {o_drops : Int32} {o_contributions : Int32} {o_packet : Int64} {o_peelSum : Int32} {r : Int32} (hret : RetOK X 0 0 (some (.int r)) (wR a T c_m c_saved c_savedCount c_script c_scriptLength c_code o_lineParts o_lengths o_fractions c_pulseMany c_times c_energies o_far o_near o_echoes o_left o_dropped o_merged o_drops o_contributions o_packet c_peelResult c_peelTime o_peelSum c_at c_commands c_draft c_hash)) (hf : Rf_puts_201 c_lineParts c_lengths c_fractions c_far c_near c_echoes c_left c_dropped c_merged c_drops c_contributions c_packet c_peelSum x5 s1 s2 = some (o_lineParts, o_lengths, o_fractions, o_far, o_near, o_echoes, o_left, o_dropped, o_merged, o_drops, o_contributions, o_packet, o_peelSum, r)) : V X 0 0 (wR a T c_m c_saved c_savedCount c_script c_scriptLength c_code c_lineParts c_lengths c_fractions c_pulseMany c_times c_energies c_far c_near c_echoes c_left c_dropped c_merged c_drops c_contributions c_packet c_peelResult c_peelTime c_peelSum c_at c_commands c_draft c_hash) [(5, .int x5)] 201 [.int s2, .int s1, .ref (a 0)] := by
  unfold Rf_puts_201 at hf
  refine v_iadd C dX10_puts_201 hf (fun z201 hf => ?_)
  refine Rp_peelSum C dX10_puts_202 ?_
  refine v_iload 0 C dX10_puts_205 rfl ?_
  obtain ⟨hv, hf⟩ := chk_some hf
  cases hf
  exact v_zret hv C hret dX10_puts_207
def Rf_puts_182 (c_lineParts : Int32) (c_lengths : Nat → Int32) (c_fractions : Nat → Int32) (c_far : Nat → Int64) (c_near : Nat → Int64) (c_echoes : Nat → Int64) (c_left : Int64) (c_dropped : Int64) (c_merged : Int32) (c_drops : Int32) (c_contributions : Int32) (c_packet : Int64) (c_peelSum : Int32) (x2 : Int32) (x5 : Int32) (s1 : Int32) (s2 : Int32) : Option (Int32 × (Nat → Int32) × (Nat → Int32) × (Nat → Int64) × (Nat → Int64) × (Nat → Int64) × Int64 × Int64 × Int32 × Int32 × Int32 × Int64 × Int32 × Int32) :=
  nm (s1 - s2) fun z182 =>
  if x5 = 0 then
    Rf_puts_201 z182 c_lengths c_fractions c_far c_near c_echoes c_left c_dropped c_merged c_drops c_contributions c_packet c_peelSum x5 c_peelSum (0 : Int32)
  else
    Rf_puts_201 z182 c_lengths c_fractions c_far c_near c_echoes c_left c_dropped c_merged c_drops c_contributions c_packet c_peelSum x5 c_peelSum x2
set_option maxRecDepth 100000 in
set_option maxHeartbeats 4000000 in
theorem Rb_puts_182 (C : Cx X G T cX10_puts RX10 (some .boolean) 6 4 96) {x2 : Int32} {x5 : Int32} {s1 : Int32} {s2 : Int32} {o_lineParts : Int32} {o_lengths : Nat → Int32} {o_fractions : Nat → Int32} {o_far : Nat → Int64} {o_near : Nat → Int64} {o_echoes : Nat → Int64} {o_left : Int64} {o_dropped : Int64} {o_merged : Int32} {o_drops : Int32} {o_contributions : Int32} {o_packet : Int64} {o_peelSum : Int32} {r : Int32} (hret : RetOK X 0 0 (some (.int r)) (wR a T c_m c_saved c_savedCount c_script c_scriptLength c_code o_lineParts o_lengths o_fractions c_pulseMany c_times c_energies o_far o_near o_echoes o_left o_dropped o_merged o_drops o_contributions o_packet c_peelResult c_peelTime o_peelSum c_at c_commands c_draft c_hash)) (hf : Rf_puts_182 c_lineParts c_lengths c_fractions c_far c_near c_echoes c_left c_dropped c_merged c_drops c_contributions c_packet c_peelSum x2 x5 s1 s2 = some (o_lineParts, o_lengths, o_fractions, o_far, o_near, o_echoes, o_left, o_dropped, o_merged, o_drops, o_contributions, o_packet, o_peelSum, r)) : V X 0 0 (wR a T c_m c_saved c_savedCount c_script c_scriptLength c_code c_lineParts c_lengths c_fractions c_pulseMany c_times c_energies c_far c_near c_echoes c_left c_dropped c_merged c_drops c_contributions c_packet c_peelResult c_peelTime c_peelSum c_at c_commands c_draft c_hash) [(0, .ref (a 0)), (2, .int x2), (5, .int x5)] 182 [.int s2, .int s1, .ref (a 0)] := by
  unfold Rf_puts_182 at hf
  refine v_isub C dX10_puts_182 hf (fun z182 hf => ?_)
  refine Rp_lineParts C dX10_puts_183 ?_
  refine v_aload_n 0 C dX10_puts_186 rfl rfl ?_
  refine v_dup C dX10_puts_187 rfl ?_
  refine Rg_peelSum C dX10_puts_188 ?_
  refine v_iload 2 C dX10_puts_191 rfl ?_
  refine v_if_eq 200 C dX10_puts_193 (by decide) hf (fun c hf => ?_) (fun c hf => ?_)
  · refine v_iconst (v := 0) C dX10_puts_200 (by decide) ?_
    refine v_lv [(5, .int x5)] [2] rfl ?_
    exact Rb_puts_201 C hret hf
  · refine v_iload_n 1 C dX10_puts_196 rfl rfl ?_
    refine v_goto 201 C dX10_puts_197 (by decide) ?_
    refine v_lv [(5, .int x5)] [2] rfl ?_
    exact Rb_puts_201 C hret hf
def Rf_puts_165 (c_lineParts : Int32) (c_lengths : Nat → Int32) (c_fractions : Nat → Int32) (c_far : Nat → Int64) (c_near : Nat → Int64) (c_echoes : Nat → Int64) (c_left : Int64) (c_dropped : Int64) (c_merged : Int32) (c_drops : Int32) (c_contributions : Int32) (c_packet : Int64) (c_peelSum : Int32) (x2 : Int32) (s0 : Int32) : Option (Int32 × (Nat → Int32) × (Nat → Int32) × (Nat → Int64) × (Nat → Int64) × (Nat → Int64) × Int64 × Int64 × Int32 × Int32 × Int32 × Int64 × Int32 × Int32) :=
  if s0 = 0 then
    Rf_puts_182 c_lineParts c_lengths c_fractions c_far c_near c_echoes c_left c_dropped c_merged c_drops c_contributions c_packet c_peelSum x2 s0 c_lineParts (1 : Int32)
  else
    Rf_puts_182 c_lineParts c_lengths c_fractions c_far c_near c_echoes c_left c_dropped c_merged c_drops c_contributions c_packet c_peelSum x2 s0 c_lineParts (0 : Int32)
set_option maxRecDepth 100000 in
set_option maxHeartbeats 4000000 in
theorem Rb_puts_165 (C : Cx X G T cX10_puts RX10 (some .boolean) 6 4 96) {x2 : Int32} {s0 : Int32} {o_lineParts : Int32} {o_lengths : Nat → Int32} {o_fractions : Nat → Int32} {o_far : Nat → Int64} {o_near : Nat → Int64} {o_echoes : Nat → Int64} {o_left : Int64} {o_dropped : Int64} {o_merged : Int32} {o_drops : Int32} {o_contributions : Int32} {o_packet : Int64} {o_peelSum : Int32} {r : Int32} (hret : RetOK X 0 0 (some (.int r)) (wR a T c_m c_saved c_savedCount c_script c_scriptLength c_code o_lineParts o_lengths o_fractions c_pulseMany c_times c_energies o_far o_near o_echoes o_left o_dropped o_merged o_drops o_contributions o_packet c_peelResult c_peelTime o_peelSum c_at c_commands c_draft c_hash)) (hf : Rf_puts_165 c_lineParts c_lengths c_fractions c_far c_near c_echoes c_left c_dropped c_merged c_drops c_contributions c_packet c_peelSum x2 s0 = some (o_lineParts, o_lengths, o_fractions, o_far, o_near, o_echoes, o_left, o_dropped, o_merged, o_drops, o_contributions, o_packet, o_peelSum, r)) : V X 0 0 (wR a T c_m c_saved c_savedCount c_script c_scriptLength c_code c_lineParts c_lengths c_fractions c_pulseMany c_times c_energies c_far c_near c_echoes c_left c_dropped c_merged c_drops c_contributions c_packet c_peelResult c_peelTime c_peelSum c_at c_commands c_draft c_hash) [(0, .ref (a 0)), (2, .int x2)] 165 [.int s0] := by
  unfold Rf_puts_165 at hf
  refine v_istore [(0, .ref (a 0)), (2, .int x2), (5, .int s0)] [1, 2, 0] C dX10_puts_165 (by decide) rfl ?_
  refine v_aload_n 0 C dX10_puts_167 rfl rfl ?_
  refine v_dup C dX10_puts_168 rfl ?_
  refine Rg_lineParts C dX10_puts_169 ?_
  refine v_iload 2 C dX10_puts_172 rfl ?_
  refine v_if_eq 181 C dX10_puts_174 (by decide) hf (fun c hf => ?_) (fun c hf => ?_)
  · refine v_iconst (v := 1) C dX10_puts_181 (by decide) ?_
    exact Rb_puts_182 C hret hf
  · refine v_iconst (v := 0) C dX10_puts_177 (by decide) ?_
    refine v_goto 182 C dX10_puts_178 (by decide) ?_
    exact Rb_puts_182 C hret hf
def Rf_puts (c_m : Nat → Int64) (c_lineParts : Int32) (c_lengths : Nat → Int32) (c_fractions : Nat → Int32) (c_pulseMany : Int32) (c_times : Nat → Int32) (c_energies : Nat → Int64) (c_far : Nat → Int64) (c_near : Nat → Int64) (c_echoes : Nat → Int64) (c_left : Int64) (c_dropped : Int64) (c_merged : Int32) (c_drops : Int32) (c_contributions : Int32) (c_packet : Int64) (c_peelSum : Int32) (x1 : Int32) : Option (Int32 × (Nat → Int32) × (Nat → Int32) × (Nat → Int64) × (Nat → Int64) × (Nat → Int64) × Int64 × Int64 × Int32 × Int32 × Int32 × Int64 × Int32 × Int32) :=
  chk (¬ (2 : Int32) = 0) <| nm (x1 / (2 : Int32)) fun z2 =>
  nm (z2 - c_peelSum) fun z7 =>
  chk (inb c_lineParts 8) <| nm (upd c_lengths c_lineParts.toNatClampNeg z7) fun lengths_25 =>
  nm (c_lineParts + (1 : Int32)) fun z32 =>
  bd (Rl_puts_36 c_m z32 lengths_25 c_pulseMany c_times c_energies x1 z7 FUEL c_fractions c_far c_near c_echoes c_left c_dropped c_merged c_drops c_contributions c_packet (1 : Int32) (1000 : Int32)) fun (o_fractions_36, o_far_36, o_near_36, o_echoes_36, o_left_36, o_dropped_36, o_merged_36, o_drops_36, o_contributions_36, o_packet_36, y3_36) =>
  chk (inb z32 9) <| nm (upd o_fractions_36 z32.toNatClampNeg y3_36) fun fractions_135 =>
  bd (Rf_runLine c_m z32 lengths_25 fractions_135 c_pulseMany c_times c_energies o_far_36 o_near_36 o_echoes_36 o_left_36 o_dropped_36 o_merged_36 o_drops_36 o_contributions_36 o_packet_36) fun (far_137, near_137, echoes_137, left_137, dropped_137, merged_137, drops_137, contributions_137, packet_137) =>
  chk (inb x1 201) <| nm (echoes_137 x1.toNatClampNeg) fun z145 =>
  nm ((230 : Int32) + x1) fun z154 =>
  chk (inb z154 431) <| nm (c_m z154.toNatClampNeg) fun z155 =>
  if z145 = z155 then
    Rf_puts_165 z32 lengths_25 fractions_135 far_137 near_137 echoes_137 left_137 dropped_137 merged_137 drops_137 contributions_137 packet_137 c_peelSum z7 (1 : Int32)
  else
    Rf_puts_165 z32 lengths_25 fractions_135 far_137 near_137 echoes_137 left_137 dropped_137 merged_137 drops_137 contributions_137 packet_137 c_peelSum z7 (0 : Int32)
set_option maxRecDepth 100000 in
set_option maxHeartbeats 4000000 in
theorem Rb_puts (C : Cx X G T cX10_puts RX10 (some .boolean) 6 4 96) {x1 : Int32} {o_lineParts : Int32} {o_lengths : Nat → Int32} {o_fractions : Nat → Int32} {o_far : Nat → Int64} {o_near : Nat → Int64} {o_echoes : Nat → Int64} {o_left : Int64} {o_dropped : Int64} {o_merged : Int32} {o_drops : Int32} {o_contributions : Int32} {o_packet : Int64} {o_peelSum : Int32} {r : Int32} (hret : RetOK X 0 0 (some (.int r)) (wR a T c_m c_saved c_savedCount c_script c_scriptLength c_code o_lineParts o_lengths o_fractions c_pulseMany c_times c_energies o_far o_near o_echoes o_left o_dropped o_merged o_drops o_contributions o_packet c_peelResult c_peelTime o_peelSum c_at c_commands c_draft c_hash)) (hf : Rf_puts c_m c_lineParts c_lengths c_fractions c_pulseMany c_times c_energies c_far c_near c_echoes c_left c_dropped c_merged c_drops c_contributions c_packet c_peelSum x1 = some (o_lineParts, o_lengths, o_fractions, o_far, o_near, o_echoes, o_left, o_dropped, o_merged, o_drops, o_contributions, o_packet, o_peelSum, r)) : V X 0 0 (wR a T c_m c_saved c_savedCount c_script c_scriptLength c_code c_lineParts c_lengths c_fractions c_pulseMany c_times c_energies c_far c_near c_echoes c_left c_dropped c_merged c_drops c_contributions c_packet c_peelResult c_peelTime c_peelSum c_at c_commands c_draft c_hash) [(0, .ref (a 0)), (1, .int x1)] 0 [] := by
  unfold Rf_puts at hf
  refine v_iload_n 1 C dX10_puts_0 rfl rfl ?_
  refine v_iconst (v := 2) C dX10_puts_1 (by decide) ?_
  refine v_idiv C dX10_puts_2 hf (fun z2 hf => ?_)
  refine v_aload_n 0 C dX10_puts_3 rfl rfl ?_
  refine Rg_peelSum C dX10_puts_4 ?_
  refine v_isub C dX10_puts_7 hf (fun z7 hf => ?_)
  refine v_istore_n [(0, .ref (a 0)), (1, .int x1), (2, .int z7)] [1, 2, 0] C dX10_puts_8 rfl (by decide) rfl ?_
  refine v_iconst (v := 1) C dX10_puts_9 (by decide) ?_
  refine v_istore_n [(0, .ref (a 0)), (1, .int x1), (2, .int z7), (3, .int (1 : Int32))] [1, 2, 3, 0] C dX10_puts_10 rfl (by decide) rfl ?_
  refine v_sipush (v := 1000) C dX10_puts_11 (by decide) ?_
  refine v_istore [(0, .ref (a 0)), (1, .int x1), (2, .int z7), (3, .int (1 : Int32)), (4, .int (1000 : Int32))] [1, 2, 3, 4, 0] C dX10_puts_14 (by decide) rfl ?_
  refine v_aload_n 0 C dX10_puts_16 rfl rfl ?_
  refine Rg_lengths C dX10_puts_17 ?_
  refine v_aload_n 0 C dX10_puts_20 rfl rfl ?_
  refine Rg_lineParts C dX10_puts_21 ?_
  refine v_iload_n 2 C dX10_puts_24 rfl rfl ?_
  refine Ras_lengths C dX10_puts_25 hf (fun lengths_25 hf => ?_)
  refine v_aload_n 0 C dX10_puts_26 rfl rfl ?_
  refine v_dup C dX10_puts_27 rfl ?_
  refine Rg_lineParts C dX10_puts_28 ?_
  refine v_iconst (v := 1) C dX10_puts_31 (by decide) ?_
  refine v_iadd C dX10_puts_32 hf (fun z32 hf => ?_)
  refine Rp_lineParts C dX10_puts_33 ?_
  obtain ⟨⟨o_fractions_36, o_far_36, o_near_36, o_echoes_36, o_left_36, o_dropped_36, o_merged_36, o_drops_36, o_contributions_36, o_packet_36, y3_36⟩, hc, hf⟩ := bd_some hf
  refine Rk_puts_36 C ?_ _ _ _ _ _ _ _ _ _ _ _ _ _ hc
  refine v_aload_n 0 C dX10_puts_126 rfl rfl ?_
  refine Rg_fractions C dX10_puts_127 ?_
  refine v_aload_n 0 C dX10_puts_130 rfl rfl ?_
  refine Rg_lineParts C dX10_puts_131 ?_
  refine v_iload_n 3 C dX10_puts_134 rfl rfl ?_
  refine Ras_fractions C dX10_puts_135 hf (fun fractions_135 hf => ?_)
  refine v_aload_n 0 C dX10_puts_136 rfl rfl ?_
  refine Rc_runLine C dX10_puts_137 (by decide) (Nat.le_of_ble_eq_true rfl) hf (fun far_137 near_137 echoes_137 left_137 dropped_137 merged_137 drops_137 contributions_137 packet_137 hf => ?_)
  refine v_aload_n 0 C dX10_puts_140 rfl rfl ?_
  refine Rg_echoes C dX10_puts_141 ?_
  refine v_iload_n 1 C dX10_puts_144 rfl rfl ?_
  refine Ral_echoes C dX10_puts_145 hf (fun z145 hf => ?_)
  refine v_aload_n 0 C dX10_puts_146 rfl rfl ?_
  refine Rg_m C dX10_puts_147 ?_
  refine v_sipush (v := 230) C dX10_puts_150 (by decide) ?_
  refine v_iload_n 1 C dX10_puts_153 rfl rfl ?_
  refine v_iadd C dX10_puts_154 hf (fun z154 hf => ?_)
  refine Ral_m C dX10_puts_155 hf (fun z155 hf => ?_)
  refine v_lcmp_ne 164 C dX10_puts_156 dX10_puts_157 (by decide) hf (fun c hf => ?_) (fun c hf => ?_)
  · refine v_iconst (v := 1) C dX10_puts_160 (by decide) ?_
    refine v_goto 165 C dX10_puts_161 (by decide) ?_
    refine v_lv [(0, .ref (a 0)), (2, .int z7)] [0, 2] rfl ?_
    exact Rb_puts_165 C hret hf
  · refine v_iconst (v := 0) C dX10_puts_164 (by decide) ?_
    refine v_lv [(0, .ref (a 0)), (2, .int z7)] [0, 2] rfl ?_
    exact Rb_puts_165 C hret hf
set_option maxRecDepth 100000 in
set_option maxHeartbeats 4000000 in
theorem Rm_puts {D : va_G} {x1 : Int32} {o_lineParts : Int32} {o_lengths : Nat → Int32} {o_fractions : Nat → Int32} {o_far : Nat → Int64} {o_near : Nat → Int64} {o_echoes : Nat → Int64} {o_left : Int64} {o_dropped : Int64} {o_merged : Int32} {o_drops : Int32} {o_contributions : Int32} {o_packet : Int64} {o_peelSum : Int32} {r : Int32} (hf : Rf_puts c_m c_lineParts c_lengths c_fractions c_pulseMany c_times c_energies c_far c_near c_echoes c_left c_dropped c_merged c_drops c_contributions c_packet c_peelSum x1 = some (o_lineParts, o_lengths, o_fractions, o_far, o_near, o_echoes, o_left, o_dropped, o_merged, o_drops, o_contributions, o_packet, o_peelSum, r)) : MetM G yX10_puts cX10_puts 6 (some .boolean) { frames := 4, cells := 0, slots := 0, locals := 96 } D T [.ref (a 0), .int x1] (wR a T c_m c_saved c_savedCount c_script c_scriptLength c_code c_lineParts c_lengths c_fractions c_pulseMany c_times c_energies c_far c_near c_echoes c_left c_dropped c_merged c_drops c_contributions c_packet c_peelResult c_peelTime c_peelSum c_at c_commands c_draft c_hash) (some (.int r)) (wR a T c_m c_saved c_savedCount c_script c_scriptLength c_code o_lineParts o_lengths o_fractions c_pulseMany c_times c_energies o_far o_near o_echoes o_left o_dropped o_merged o_drops o_contributions o_packet c_peelResult c_peelTime o_peelSum c_at c_commands c_draft c_hash) :=
  MetM.of [(0, .ref (a 0)), (1, .int x1)] (by decide) (Nat.le_of_ble_eq_true rfl) rfl (fun X C hret => Rb_puts C hret hf)
set_option maxRecDepth 100000 in
theorem Rc_puts {x1 : Int32} {cc : ByteArray} {ret : Option FieldType} {nl fr lo pc : Nat} {lv : List (Nat × Value)} {rest : List Value} {β : Type} {K : (Int32 × (Nat → Int32) × (Nat → Int32) × (Nat → Int64) × (Nat → Int64) × (Nat → Int64) × Int64 × Int64 × Int32 × Int32 × Int32 × Int64 × Int32 × Int32) → Option β} {oo : β} (C : Cx X G T cc RX10 ret nl fr lo) (hdg : decode cc pc = .ok (.invokevirtual 243, 3)) (hroom : 4 + 1 ≤ fr ∧ 8 + (6 + 11) + 96 ≤ lo) (hst : (rest.map fun v => v.category).sum ≤ 8) (hf : bd (Rf_puts c_m c_lineParts c_lengths c_fractions c_pulseMany c_times c_energies c_far c_near c_echoes c_left c_dropped c_merged c_drops c_contributions c_packet c_peelSum x1) K = some oo) (kk : ∀ (o_lineParts : Int32) (o_lengths : Nat → Int32) (o_fractions : Nat → Int32) (o_far : Nat → Int64) (o_near : Nat → Int64) (o_echoes : Nat → Int64) (o_left : Int64) (o_dropped : Int64) (o_merged : Int32) (o_drops : Int32) (o_contributions : Int32) (o_packet : Int64) (o_peelSum : Int32) (r : Int32), K (o_lineParts, o_lengths, o_fractions, o_far, o_near, o_echoes, o_left, o_dropped, o_merged, o_drops, o_contributions, o_packet, o_peelSum, r) = some oo → V X 0 0 (wR a T c_m c_saved c_savedCount c_script c_scriptLength c_code o_lineParts o_lengths o_fractions c_pulseMany c_times c_energies o_far o_near o_echoes o_left o_dropped o_merged o_drops o_contributions o_packet c_peelResult c_peelTime o_peelSum c_at c_commands c_draft c_hash) lv (pc + 3) (.int r :: rest)) : V X 0 0 (wR a T c_m c_saved c_savedCount c_script c_scriptLength c_code c_lineParts c_lengths c_fractions c_pulseMany c_times c_energies c_far c_near c_echoes c_left c_dropped c_merged c_drops c_contributions c_packet c_peelResult c_peelTime c_peelSum c_at c_commands c_draft c_hash) lv pc (.int x1 :: .ref (a 0) :: rest) := by
  obtain ⟨⟨o_lineParts, o_lengths, o_fractions, o_far, o_near, o_echoes, o_left, o_dropped, o_merged, o_drops, o_contributions, o_packet, o_peelSum, r⟩, hc, hk⟩ := bd_some hf
  exact v_callV (As := [.int x1]) (rest := rest) (q0 := 0) 1 C (CapOK.z X) (fun D => Rm_puts hc) (goodV wmethodLink_RX10_243_yX10_puts winstanceMethod_yX10_puts wselects_RX10_yX10_puts_yX10_puts winitialized_RX10 wcode_yX10_puts_cX10_puts_6_some_boolean) (by decide +kernel) hroom ⟨rfl, rfl⟩ rfl rfl rfl hst hdg (kk o_lineParts o_lengths o_fractions o_far o_near o_echoes o_left o_dropped o_merged o_drops o_contributions o_packet o_peelSum r hk)
def Rf_peels_59 (c_lineParts : Int32) (c_lengths : Nat → Int32) (c_fractions : Nat → Int32) (c_far : Nat → Int64) (c_near : Nat → Int64) (c_echoes : Nat → Int64) (c_left : Int64) (c_dropped : Int64) (c_merged : Int32) (c_drops : Int32) (c_contributions : Int32) (c_packet : Int64) (c_peelResult : Int32) (c_peelTime : Int32) (c_peelSum : Int32) : Option (Int32 × (Nat → Int32) × (Nat → Int32) × (Nat → Int64) × (Nat → Int64) × (Nat → Int64) × Int64 × Int64 × Int32 × Int32 × Int32 × Int64 × Int32 × Int32 × Int32 × Int32) :=
  chk ((0 : Int32) = 0 ∨ (0 : Int32) = 1) <| some (c_lineParts, c_lengths, c_fractions, c_far, c_near, c_echoes, c_left, c_dropped, c_merged, c_drops, c_contributions, c_packet, (1 : Int32), c_peelTime, c_peelSum, (0 : Int32))
set_option maxRecDepth 100000 in
set_option maxHeartbeats 4000000 in
theorem Rb_peels_59 (C : Cx X G T cX10_peels RX10 (some .boolean) 2 5 121)  {o_lineParts : Int32} {o_lengths : Nat → Int32} {o_fractions : Nat → Int32} {o_far : Nat → Int64} {o_near : Nat → Int64} {o_echoes : Nat → Int64} {o_left : Int64} {o_dropped : Int64} {o_merged : Int32} {o_drops : Int32} {o_contributions : Int32} {o_packet : Int64} {o_peelResult : Int32} {o_peelTime : Int32} {o_peelSum : Int32} {r : Int32} (hret : RetOK X 0 0 (some (.int r)) (wR a T c_m c_saved c_savedCount c_script c_scriptLength c_code o_lineParts o_lengths o_fractions c_pulseMany c_times c_energies o_far o_near o_echoes o_left o_dropped o_merged o_drops o_contributions o_packet o_peelResult o_peelTime o_peelSum c_at c_commands c_draft c_hash)) (hf : Rf_peels_59 c_lineParts c_lengths c_fractions c_far c_near c_echoes c_left c_dropped c_merged c_drops c_contributions c_packet c_peelResult c_peelTime c_peelSum = some (o_lineParts, o_lengths, o_fractions, o_far, o_near, o_echoes, o_left, o_dropped, o_merged, o_drops, o_contributions, o_packet, o_peelResult, o_peelTime, o_peelSum, r)) : V X 0 0 (wR a T c_m c_saved c_savedCount c_script c_scriptLength c_code c_lineParts c_lengths c_fractions c_pulseMany c_times c_energies c_far c_near c_echoes c_left c_dropped c_merged c_drops c_contributions c_packet c_peelResult c_peelTime c_peelSum c_at c_commands c_draft c_hash) [(0, .ref (a 0))] 59 [] := by
  unfold Rf_peels_59 at hf
  refine v_aload_n 0 C dX10_peels_59 rfl rfl ?_
  refine v_iconst (v := 1) C dX10_peels_60 (by decide) ?_
  refine Rp_peelResult C dX10_peels_61 ?_
  refine v_iconst (v := 0) C dX10_peels_64 (by decide) ?_
  obtain ⟨hv, hf⟩ := chk_some hf
  cases hf
  exact v_zret hv C hret dX10_peels_65
def Rf_peels_88 (c_lineParts : Int32) (c_lengths : Nat → Int32) (c_fractions : Nat → Int32) (c_far : Nat → Int64) (c_near : Nat → Int64) (c_echoes : Nat → Int64) (c_left : Int64) (c_dropped : Int64) (c_merged : Int32) (c_drops : Int32) (c_contributions : Int32) (c_packet : Int64) (c_peelResult : Int32) (c_peelTime : Int32) (c_peelSum : Int32) : Option (Int32 × (Nat → Int32) × (Nat → Int32) × (Nat → Int64) × (Nat → Int64) × (Nat → Int64) × Int64 × Int64 × Int32 × Int32 × Int32 × Int64 × Int32 × Int32 × Int32 × Int32) :=
  chk ((0 : Int32) = 0 ∨ (0 : Int32) = 1) <| some (c_lineParts, c_lengths, c_fractions, c_far, c_near, c_echoes, c_left, c_dropped, c_merged, c_drops, c_contributions, c_packet, (2 : Int32), c_peelTime, c_peelSum, (0 : Int32))
set_option maxRecDepth 100000 in
set_option maxHeartbeats 4000000 in
theorem Rb_peels_88 (C : Cx X G T cX10_peels RX10 (some .boolean) 2 5 121)  {o_lineParts : Int32} {o_lengths : Nat → Int32} {o_fractions : Nat → Int32} {o_far : Nat → Int64} {o_near : Nat → Int64} {o_echoes : Nat → Int64} {o_left : Int64} {o_dropped : Int64} {o_merged : Int32} {o_drops : Int32} {o_contributions : Int32} {o_packet : Int64} {o_peelResult : Int32} {o_peelTime : Int32} {o_peelSum : Int32} {r : Int32} (hret : RetOK X 0 0 (some (.int r)) (wR a T c_m c_saved c_savedCount c_script c_scriptLength c_code o_lineParts o_lengths o_fractions c_pulseMany c_times c_energies o_far o_near o_echoes o_left o_dropped o_merged o_drops o_contributions o_packet o_peelResult o_peelTime o_peelSum c_at c_commands c_draft c_hash)) (hf : Rf_peels_88 c_lineParts c_lengths c_fractions c_far c_near c_echoes c_left c_dropped c_merged c_drops c_contributions c_packet c_peelResult c_peelTime c_peelSum = some (o_lineParts, o_lengths, o_fractions, o_far, o_near, o_echoes, o_left, o_dropped, o_merged, o_drops, o_contributions, o_packet, o_peelResult, o_peelTime, o_peelSum, r)) : V X 0 0 (wR a T c_m c_saved c_savedCount c_script c_scriptLength c_code c_lineParts c_lengths c_fractions c_pulseMany c_times c_energies c_far c_near c_echoes c_left c_dropped c_merged c_drops c_contributions c_packet c_peelResult c_peelTime c_peelSum c_at c_commands c_draft c_hash) [(0, .ref (a 0))] 88 [] := by
  unfold Rf_peels_88 at hf
  refine v_aload_n 0 C dX10_peels_88 rfl rfl ?_
  refine v_iconst (v := 2) C dX10_peels_89 (by decide) ?_
  refine Rp_peelResult C dX10_peels_90 ?_
  refine v_iconst (v := 0) C dX10_peels_93 (by decide) ?_
  obtain ⟨hv, hf⟩ := chk_some hf
  cases hf
  exact v_zret hv C hret dX10_peels_94
def Rf_peels (c_m : Nat → Int64) (c_lineParts : Int32) (c_lengths : Nat → Int32) (c_fractions : Nat → Int32) (c_pulseMany : Int32) (c_times : Nat → Int32) (c_energies : Nat → Int64) (c_far : Nat → Int64) (c_near : Nat → Int64) (c_echoes : Nat → Int64) (c_left : Int64) (c_dropped : Int64) (c_merged : Int32) (c_drops : Int32) (c_contributions : Int32) (c_packet : Int64) (c_peelResult : Int32) (c_peelTime : Int32) (c_peelSum : Int32) : Option (Int32 × (Nat → Int32) × (Nat → Int32) × (Nat → Int64) × (Nat → Int64) × (Nat → Int64) × Int64 × Int64 × Int32 × Int32 × Int32 × Int64 × Int32 × Int32 × Int32 × Int32) :=
  bd (Rf_firstUnlike c_m c_echoes) fun r1 =>
  if r1 = (-1 : Int32) then
    chk ((0 : Int32) = 0 ∨ (0 : Int32) = 1) <| some (c_lineParts, c_lengths, c_fractions, c_far, c_near, c_echoes, c_left, c_dropped, c_merged, c_drops, c_contributions, c_packet, (0 : Int32), r1, c_peelSum, (0 : Int32))
  else
    nm ((230 : Int32) + r1) fun z30 =>
    chk (inb z30 431) <| nm (c_m z30.toNatClampNeg) fun z31 =>
    chk (inb r1 201) <| nm (c_echoes r1.toNatClampNeg) fun z37 =>
    if z31 < z37 then
      Rf_peels_59 c_lineParts c_lengths c_fractions c_far c_near c_echoes c_left c_dropped c_merged c_drops c_contributions c_packet c_peelResult r1 c_peelSum
    else
      chk (¬ (2 : Int32) = 0) <| nm (r1 - r1 / (2 : Int32) * (2 : Int32)) fun z44 =>
      if z44 = (1 : Int32) then
        Rf_peels_59 c_lineParts c_lengths c_fractions c_far c_near c_echoes c_left c_dropped c_merged c_drops c_contributions c_packet c_peelResult r1 c_peelSum
      else
        nm ((2 : Int32) * c_peelSum) fun z55 =>
        if z55 < r1 then
          chk (¬ (2 : Int32) = 0) <| nm (r1 / (2 : Int32)) fun z68 =>
          nm (z68 - c_peelSum) fun z73 =>
          if (20 : Int32) < z73 then
            Rf_peels_88 c_lineParts c_lengths c_fractions c_far c_near c_echoes c_left c_dropped c_merged c_drops c_contributions c_packet c_peelResult r1 c_peelSum
          else
            if c_lineParts = (8 : Int32) then
              Rf_peels_88 c_lineParts c_lengths c_fractions c_far c_near c_echoes c_left c_dropped c_merged c_drops c_contributions c_packet c_peelResult r1 c_peelSum
            else
              bd (Rf_puts c_m c_lineParts c_lengths c_fractions c_pulseMany c_times c_energies c_far c_near c_echoes c_left c_dropped c_merged c_drops c_contributions c_packet c_peelSum r1) fun (lineParts_102, lengths_102, fractions_102, far_102, near_102, echoes_102, left_102, dropped_102, merged_102, drops_102, contributions_102, packet_102, peelSum_102, r102) =>
              chk (r102 = 0 ∨ r102 = 1) <| some (lineParts_102, lengths_102, fractions_102, far_102, near_102, echoes_102, left_102, dropped_102, merged_102, drops_102, contributions_102, packet_102, (1 : Int32), r1, peelSum_102, r102)
        else
          Rf_peels_59 c_lineParts c_lengths c_fractions c_far c_near c_echoes c_left c_dropped c_merged c_drops c_contributions c_packet c_peelResult r1 c_peelSum
set_option maxRecDepth 100000 in
set_option maxHeartbeats 4000000 in
theorem Rb_peels (C : Cx X G T cX10_peels RX10 (some .boolean) 2 5 121)  {o_lineParts : Int32} {o_lengths : Nat → Int32} {o_fractions : Nat → Int32} {o_far : Nat → Int64} {o_near : Nat → Int64} {o_echoes : Nat → Int64} {o_left : Int64} {o_dropped : Int64} {o_merged : Int32} {o_drops : Int32} {o_contributions : Int32} {o_packet : Int64} {o_peelResult : Int32} {o_peelTime : Int32} {o_peelSum : Int32} {r : Int32} (hret : RetOK X 0 0 (some (.int r)) (wR a T c_m c_saved c_savedCount c_script c_scriptLength c_code o_lineParts o_lengths o_fractions c_pulseMany c_times c_energies o_far o_near o_echoes o_left o_dropped o_merged o_drops o_contributions o_packet o_peelResult o_peelTime o_peelSum c_at c_commands c_draft c_hash)) (hf : Rf_peels c_m c_lineParts c_lengths c_fractions c_pulseMany c_times c_energies c_far c_near c_echoes c_left c_dropped c_merged c_drops c_contributions c_packet c_peelResult c_peelTime c_peelSum = some (o_lineParts, o_lengths, o_fractions, o_far, o_near, o_echoes, o_left, o_dropped, o_merged, o_drops, o_contributions, o_packet, o_peelResult, o_peelTime, o_peelSum, r)) : V X 0 0 (wR a T c_m c_saved c_savedCount c_script c_scriptLength c_code c_lineParts c_lengths c_fractions c_pulseMany c_times c_energies c_far c_near c_echoes c_left c_dropped c_merged c_drops c_contributions c_packet c_peelResult c_peelTime c_peelSum c_at c_commands c_draft c_hash) [(0, .ref (a 0))] 0 [] := by
  unfold Rf_peels at hf
  refine v_aload_n 0 C dX10_peels_0 rfl rfl ?_
  refine Rc_firstUnlike C dX10_peels_1 (by decide) (Nat.le_of_ble_eq_true rfl) hf (fun r1 hf => ?_)
  refine v_istore_n [(0, .ref (a 0)), (1, .int r1)] [1, 0] C dX10_peels_4 rfl (by decide) rfl ?_
  refine v_aload_n 0 C dX10_peels_5 rfl rfl ?_
  refine v_iload_n 1 C dX10_peels_6 rfl rfl ?_
  refine Rp_peelTime C dX10_peels_7 ?_
  refine v_iload_n 1 C dX10_peels_10 rfl rfl ?_
  refine v_iconst (v := -1) C dX10_peels_11 (by decide) ?_
  refine v_icmp_ne 22 C dX10_peels_12 (by decide) hf (fun c hf => ?_) (fun c hf => ?_)
  · refine v_aload_n 0 C dX10_peels_15 rfl rfl ?_
    refine v_iconst (v := 0) C dX10_peels_16 (by decide) ?_
    refine Rp_peelResult C dX10_peels_17 ?_
    refine v_iconst (v := 0) C dX10_peels_20 (by decide) ?_
    obtain ⟨hv, hf⟩ := chk_some hf
    cases hf
    exact v_zret hv C hret dX10_peels_21
  · refine v_aload_n 0 C dX10_peels_22 rfl rfl ?_
    refine Rg_m C dX10_peels_23 ?_
    refine v_sipush (v := 230) C dX10_peels_26 (by decide) ?_
    refine v_iload_n 1 C dX10_peels_29 rfl rfl ?_
    refine v_iadd C dX10_peels_30 hf (fun z30 hf => ?_)
    refine Ral_m C dX10_peels_31 hf (fun z31 hf => ?_)
    refine v_aload_n 0 C dX10_peels_32 rfl rfl ?_
    refine Rg_echoes C dX10_peels_33 ?_
    refine v_iload_n 1 C dX10_peels_36 rfl rfl ?_
    refine Ral_echoes C dX10_peels_37 hf (fun z37 hf => ?_)
    refine v_lcmp_lt 59 C dX10_peels_38 dX10_peels_39 (by decide) hf (fun c hf => ?_) (fun c hf => ?_)
    · refine v_lv [(0, .ref (a 0))] [0] rfl ?_
      exact Rb_peels_59 C hret hf
    · refine v_iload_n 1 C dX10_peels_42 rfl rfl ?_
      refine v_iconst (v := 2) C dX10_peels_43 (by decide) ?_
      refine v_irem C dX10_peels_44 hf (fun z44 hf => ?_)
      refine v_iconst (v := 1) C dX10_peels_45 (by decide) ?_
      refine v_icmp_eq 59 C dX10_peels_46 (by decide) hf (fun c hf => ?_) (fun c hf => ?_)
      · refine v_lv [(0, .ref (a 0))] [0] rfl ?_
        exact Rb_peels_59 C hret hf
      · refine v_iload_n 1 C dX10_peels_49 rfl rfl ?_
        refine v_iconst (v := 2) C dX10_peels_50 (by decide) ?_
        refine v_aload_n 0 C dX10_peels_51 rfl rfl ?_
        refine Rg_peelSum C dX10_peels_52 ?_
        refine v_imul C dX10_peels_55 hf (fun z55 hf => ?_)
        refine v_icmp_gt 66 C dX10_peels_56 (by decide) hf (fun c hf => ?_) (fun c hf => ?_)
        · refine v_iload_n 1 C dX10_peels_66 rfl rfl ?_
          refine v_iconst (v := 2) C dX10_peels_67 (by decide) ?_
          refine v_idiv C dX10_peels_68 hf (fun z68 hf => ?_)
          refine v_aload_n 0 C dX10_peels_69 rfl rfl ?_
          refine Rg_peelSum C dX10_peels_70 ?_
          refine v_isub C dX10_peels_73 hf (fun z73 hf => ?_)
          refine v_bipush (v := 20) C dX10_peels_74 (by decide) ?_
          refine v_icmp_gt 88 C dX10_peels_76 (by decide) hf (fun c hf => ?_) (fun c hf => ?_)
          · refine v_lv [(0, .ref (a 0))] [0] rfl ?_
            exact Rb_peels_88 C hret hf
          · refine v_aload_n 0 C dX10_peels_79 rfl rfl ?_
            refine Rg_lineParts C dX10_peels_80 ?_
            refine v_bipush (v := 8) C dX10_peels_83 (by decide) ?_
            refine v_icmp_ne 95 C dX10_peels_85 (by decide) hf (fun c hf => ?_) (fun c hf => ?_)
            · refine v_lv [(0, .ref (a 0))] [0] rfl ?_
              exact Rb_peels_88 C hret hf
            · refine v_aload_n 0 C dX10_peels_95 rfl rfl ?_
              refine v_iconst (v := 1) C dX10_peels_96 (by decide) ?_
              refine Rp_peelResult C dX10_peels_97 ?_
              refine v_aload_n 0 C dX10_peels_100 rfl rfl ?_
              refine v_iload_n 1 C dX10_peels_101 rfl rfl ?_
              refine Rc_puts C dX10_peels_102 (by decide) (Nat.le_of_ble_eq_true rfl) hf (fun lineParts_102 lengths_102 fractions_102 far_102 near_102 echoes_102 left_102 dropped_102 merged_102 drops_102 contributions_102 packet_102 peelSum_102 r102 hf => ?_)
              obtain ⟨hv, hf⟩ := chk_some hf
              cases hf
              exact v_zret hv C hret dX10_peels_105
        · refine v_lv [(0, .ref (a 0))] [0] rfl ?_
          exact Rb_peels_59 C hret hf
set_option maxRecDepth 100000 in
set_option maxHeartbeats 4000000 in
theorem Rm_peels {D : va_G}  {o_lineParts : Int32} {o_lengths : Nat → Int32} {o_fractions : Nat → Int32} {o_far : Nat → Int64} {o_near : Nat → Int64} {o_echoes : Nat → Int64} {o_left : Int64} {o_dropped : Int64} {o_merged : Int32} {o_drops : Int32} {o_contributions : Int32} {o_packet : Int64} {o_peelResult : Int32} {o_peelTime : Int32} {o_peelSum : Int32} {r : Int32} (hf : Rf_peels c_m c_lineParts c_lengths c_fractions c_pulseMany c_times c_energies c_far c_near c_echoes c_left c_dropped c_merged c_drops c_contributions c_packet c_peelResult c_peelTime c_peelSum = some (o_lineParts, o_lengths, o_fractions, o_far, o_near, o_echoes, o_left, o_dropped, o_merged, o_drops, o_contributions, o_packet, o_peelResult, o_peelTime, o_peelSum, r)) : MetM G yX10_peels cX10_peels 2 (some .boolean) { frames := 5, cells := 0, slots := 0, locals := 121 } D T [.ref (a 0)] (wR a T c_m c_saved c_savedCount c_script c_scriptLength c_code c_lineParts c_lengths c_fractions c_pulseMany c_times c_energies c_far c_near c_echoes c_left c_dropped c_merged c_drops c_contributions c_packet c_peelResult c_peelTime c_peelSum c_at c_commands c_draft c_hash) (some (.int r)) (wR a T c_m c_saved c_savedCount c_script c_scriptLength c_code o_lineParts o_lengths o_fractions c_pulseMany c_times c_energies o_far o_near o_echoes o_left o_dropped o_merged o_drops o_contributions o_packet o_peelResult o_peelTime o_peelSum c_at c_commands c_draft c_hash) :=
  MetM.of [(0, .ref (a 0))] (by decide) (Nat.le_of_ble_eq_true rfl) rfl (fun X C hret => Rb_peels C hret hf)
set_option maxRecDepth 100000 in
theorem Rc_peels  {cc : ByteArray} {ret : Option FieldType} {nl fr lo pc : Nat} {lv : List (Nat × Value)} {rest : List Value} {β : Type} {K : (Int32 × (Nat → Int32) × (Nat → Int32) × (Nat → Int64) × (Nat → Int64) × (Nat → Int64) × Int64 × Int64 × Int32 × Int32 × Int32 × Int64 × Int32 × Int32 × Int32 × Int32) → Option β} {oo : β} (C : Cx X G T cc RX10 ret nl fr lo) (hdg : decode cc pc = .ok (.invokevirtual 246, 3)) (hroom : 5 + 1 ≤ fr ∧ 8 + (2 + 11) + 121 ≤ lo) (hst : (rest.map fun v => v.category).sum ≤ 8) (hf : bd (Rf_peels c_m c_lineParts c_lengths c_fractions c_pulseMany c_times c_energies c_far c_near c_echoes c_left c_dropped c_merged c_drops c_contributions c_packet c_peelResult c_peelTime c_peelSum) K = some oo) (kk : ∀ (o_lineParts : Int32) (o_lengths : Nat → Int32) (o_fractions : Nat → Int32) (o_far : Nat → Int64) (o_near : Nat → Int64) (o_echoes : Nat → Int64) (o_left : Int64) (o_dropped : Int64) (o_merged : Int32) (o_drops : Int32) (o_contributions : Int32) (o_packet : Int64) (o_peelResult : Int32) (o_peelTime : Int32) (o_peelSum : Int32) (r : Int32), K (o_lineParts, o_lengths, o_fractions, o_far, o_near, o_echoes, o_left, o_dropped, o_merged, o_drops, o_contributions, o_packet, o_peelResult, o_peelTime, o_peelSum, r) = some oo → V X 0 0 (wR a T c_m c_saved c_savedCount c_script c_scriptLength c_code o_lineParts o_lengths o_fractions c_pulseMany c_times c_energies o_far o_near o_echoes o_left o_dropped o_merged o_drops o_contributions o_packet o_peelResult o_peelTime o_peelSum c_at c_commands c_draft c_hash) lv (pc + 3) (.int r :: rest)) : V X 0 0 (wR a T c_m c_saved c_savedCount c_script c_scriptLength c_code c_lineParts c_lengths c_fractions c_pulseMany c_times c_energies c_far c_near c_echoes c_left c_dropped c_merged c_drops c_contributions c_packet c_peelResult c_peelTime c_peelSum c_at c_commands c_draft c_hash) lv pc (.ref (a 0) :: rest) := by
  obtain ⟨⟨o_lineParts, o_lengths, o_fractions, o_far, o_near, o_echoes, o_left, o_dropped, o_merged, o_drops, o_contributions, o_packet, o_peelResult, o_peelTime, o_peelSum, r⟩, hc, hk⟩ := bd_some hf
  exact v_callV (As := []) (rest := rest) (q0 := 0) 0 C (CapOK.z X) (fun D => Rm_peels hc) (goodV wmethodLink_RX10_246_yX10_peels winstanceMethod_yX10_peels wselects_RX10_yX10_peels_yX10_peels winitialized_RX10 wcode_yX10_peels_cX10_peels_2_some_boolean) (by decide +kernel) hroom ⟨rfl, rfl⟩ rfl rfl rfl hst hdg (kk o_lineParts o_lengths o_fractions o_far o_near o_echoes o_left o_dropped o_merged o_drops o_contributions o_packet o_peelResult o_peelTime o_peelSum r hk)
def Rl_peelAll_55 (c_m : Nat → Int64) (c_pulseMany : Int32) (c_times : Nat → Int32) (c_energies : Nat → Int64) : Nat → Int32 → (Nat → Int32) → (Nat → Int32) → (Nat → Int64) → (Nat → Int64) → (Nat → Int64) → Int64 → Int64 → Int32 → Int32 → Int32 → Int64 → Int32 → Int32 → Int32 → Int32 → Option (Int32 × (Nat → Int32) × (Nat → Int32) × (Nat → Int64) × (Nat → Int64) × (Nat → Int64) × Int64 × Int64 × Int32 × Int32 × Int32 × Int64 × Int32 × Int32 × Int32)
  | 0, _, _, _, _, _, _, _, _, _, _, _, _, _, _, _, _ => none
  | n + 1, c_lineParts, c_lengths, c_fractions, c_far, c_near, c_echoes, c_left, c_dropped, c_merged, c_drops, c_contributions, c_packet, c_peelResult, c_peelTime, c_peelSum, x1 =>
    if x1 = 0 then
      some (c_lineParts, c_lengths, c_fractions, c_far, c_near, c_echoes, c_left, c_dropped, c_merged, c_drops, c_contributions, c_packet, c_peelResult, c_peelTime, c_peelSum)
    else
      bd (Rf_peels c_m c_lineParts c_lengths c_fractions c_pulseMany c_times c_energies c_far c_near c_echoes c_left c_dropped c_merged c_drops c_contributions c_packet c_peelResult c_peelTime c_peelSum) fun (lineParts_60, lengths_60, fractions_60, far_60, near_60, echoes_60, left_60, dropped_60, merged_60, drops_60, contributions_60, packet_60, peelResult_60, peelTime_60, peelSum_60, r60) =>
      Rl_peelAll_55 c_m c_pulseMany c_times c_energies n lineParts_60 lengths_60 fractions_60 far_60 near_60 echoes_60 left_60 dropped_60 merged_60 drops_60 contributions_60 packet_60 peelResult_60 peelTime_60 peelSum_60 r60
set_option maxRecDepth 100000 in
set_option maxHeartbeats 4000000 in
theorem Rk_peelAll_55 (C : Cx X G T cX10_peelAll RX10 none 2 6 142)  {o_lineParts : Int32} {o_lengths : Nat → Int32} {o_fractions : Nat → Int32} {o_far : Nat → Int64} {o_near : Nat → Int64} {o_echoes : Nat → Int64} {o_left : Int64} {o_dropped : Int64} {o_merged : Int32} {o_drops : Int32} {o_contributions : Int32} {o_packet : Int64} {o_peelResult : Int32} {o_peelTime : Int32} {o_peelSum : Int32} (hk : V X 0 0 (wR a T c_m c_saved c_savedCount c_script c_scriptLength c_code o_lineParts o_lengths o_fractions c_pulseMany c_times c_energies o_far o_near o_echoes o_left o_dropped o_merged o_drops o_contributions o_packet o_peelResult o_peelTime o_peelSum c_at c_commands c_draft c_hash) [] 67 []) : ∀ (n : Nat) (c_lineParts : Int32) (c_lengths : Nat → Int32) (c_fractions : Nat → Int32) (c_far : Nat → Int64) (c_near : Nat → Int64) (c_echoes : Nat → Int64) (c_left : Int64) (c_dropped : Int64) (c_merged : Int32) (c_drops : Int32) (c_contributions : Int32) (c_packet : Int64) (c_peelResult : Int32) (c_peelTime : Int32) (c_peelSum : Int32) (x1 : Int32), Rl_peelAll_55 c_m c_pulseMany c_times c_energies n c_lineParts c_lengths c_fractions c_far c_near c_echoes c_left c_dropped c_merged c_drops c_contributions c_packet c_peelResult c_peelTime c_peelSum x1 = some (o_lineParts, o_lengths, o_fractions, o_far, o_near, o_echoes, o_left, o_dropped, o_merged, o_drops, o_contributions, o_packet, o_peelResult, o_peelTime, o_peelSum) → V X 0 0 (wR a T c_m c_saved c_savedCount c_script c_scriptLength c_code c_lineParts c_lengths c_fractions c_pulseMany c_times c_energies c_far c_near c_echoes c_left c_dropped c_merged c_drops c_contributions c_packet c_peelResult c_peelTime c_peelSum c_at c_commands c_draft c_hash) [(0, .ref (a 0)), (1, .int x1)] 55 [] := by
  intro n
  induction n with
  | zero =>
    intro _ _ _ _ _ _ _ _ _ _ _ _ _ _ _ _ hf
    cases hf
  | succ n hrec =>
    intro c_lineParts c_lengths c_fractions c_far c_near c_echoes c_left c_dropped c_merged c_drops c_contributions c_packet c_peelResult c_peelTime c_peelSum x1 hf
    rw [Rl_peelAll_55] at hf
    refine v_iload_n 1 C dX10_peelAll_55 rfl rfl ?_
    refine v_if_eq 67 C dX10_peelAll_56 (by decide) hf (fun c hf => ?_) (fun c hf => ?_)
    · refine v_lv [] [] rfl ?_
      cases hf
      exact hk
    · refine v_aload_n 0 C dX10_peelAll_59 rfl rfl ?_
      refine Rc_peels C dX10_peelAll_60 (by decide) (Nat.le_of_ble_eq_true rfl) hf (fun lineParts_60 lengths_60 fractions_60 far_60 near_60 echoes_60 left_60 dropped_60 merged_60 drops_60 contributions_60 packet_60 peelResult_60 peelTime_60 peelSum_60 r60 hf => ?_)
      refine v_istore_n [(0, .ref (a 0)), (1, .int r60)] [1, 0] C dX10_peelAll_63 rfl (by decide) rfl ?_
      refine v_goto 55 C dX10_peelAll_64 (by decide) ?_
      exact hrec _ _ _ _ _ _ _ _ _ _ _ _ _ _ _ _ hf
def Rf_peelAll (c_m : Nat → Int64) (c_lineParts : Int32) (c_lengths : Nat → Int32) (c_fractions : Nat → Int32) (c_pulseMany : Int32) (c_times : Nat → Int32) (c_energies : Nat → Int64) (c_far : Nat → Int64) (c_near : Nat → Int64) (c_echoes : Nat → Int64) (c_left : Int64) (c_dropped : Int64) (c_merged : Int32) (c_drops : Int32) (c_contributions : Int32) (c_packet : Int64) (c_peelResult : Int32) (c_peelTime : Int32) (c_peelSum : Int32) : Option (Int32 × (Nat → Int32) × (Nat → Int32) × Int32 × (Nat → Int32) × (Nat → Int64) × (Nat → Int64) × (Nat → Int64) × (Nat → Int64) × Int64 × Int64 × Int32 × Int32 × Int32 × Int64 × Int32 × Int32 × Int32) :=
  chk (inb (17 : Int32) 431) <| nm (c_m (17 : Int32).toNatClampNeg) fun z16 =>
  nm (z16.toInt32) fun z17 =>
  chk (inb (0 : Int32) 9) <| nm (upd c_fractions (0 : Int32).toNatClampNeg z17) fun fractions_18 =>
  chk (inb (0 : Int32) 4) <| nm (upd c_times (0 : Int32).toNatClampNeg (0 : Int32)) fun times_30 =>
  chk (inb (22 : Int32) 431) <| nm (c_m (22 : Int32).toNatClampNeg) fun z42 =>
  chk (inb (0 : Int32) 4) <| nm (vp_updL c_energies (0 : Int32).toNatClampNeg z42) fun energies_43 =>
  bd (Rf_runLine c_m (0 : Int32) c_lengths fractions_18 (1 : Int32) times_30 energies_43 c_far c_near c_echoes c_left c_dropped c_merged c_drops c_contributions c_packet) fun (far_50, near_50, echoes_50, left_50, dropped_50, merged_50, drops_50, contributions_50, packet_50) =>
  bd (Rl_peelAll_55 c_m (1 : Int32) times_30 energies_43 FUEL (0 : Int32) c_lengths fractions_18 far_50 near_50 echoes_50 left_50 dropped_50 merged_50 drops_50 contributions_50 packet_50 c_peelResult c_peelTime (0 : Int32) (1 : Int32)) fun (o_lineParts_55, o_lengths_55, o_fractions_55, o_far_55, o_near_55, o_echoes_55, o_left_55, o_dropped_55, o_merged_55, o_drops_55, o_contributions_55, o_packet_55, o_peelResult_55, o_peelTime_55, o_peelSum_55) =>
  some (o_lineParts_55, o_lengths_55, o_fractions_55, (1 : Int32), times_30, energies_43, o_far_55, o_near_55, o_echoes_55, o_left_55, o_dropped_55, o_merged_55, o_drops_55, o_contributions_55, o_packet_55, o_peelResult_55, o_peelTime_55, o_peelSum_55)
set_option maxRecDepth 100000 in
set_option maxHeartbeats 4000000 in
theorem Rb_peelAll (C : Cx X G T cX10_peelAll RX10 none 2 6 142)  {o_lineParts : Int32} {o_lengths : Nat → Int32} {o_fractions : Nat → Int32} {o_pulseMany : Int32} {o_times : Nat → Int32} {o_energies : Nat → Int64} {o_far : Nat → Int64} {o_near : Nat → Int64} {o_echoes : Nat → Int64} {o_left : Int64} {o_dropped : Int64} {o_merged : Int32} {o_drops : Int32} {o_contributions : Int32} {o_packet : Int64} {o_peelResult : Int32} {o_peelTime : Int32} {o_peelSum : Int32} (hret : RetOK X 0 0 none (wR a T c_m c_saved c_savedCount c_script c_scriptLength c_code o_lineParts o_lengths o_fractions o_pulseMany o_times o_energies o_far o_near o_echoes o_left o_dropped o_merged o_drops o_contributions o_packet o_peelResult o_peelTime o_peelSum c_at c_commands c_draft c_hash)) (hf : Rf_peelAll c_m c_lineParts c_lengths c_fractions c_pulseMany c_times c_energies c_far c_near c_echoes c_left c_dropped c_merged c_drops c_contributions c_packet c_peelResult c_peelTime c_peelSum = some (o_lineParts, o_lengths, o_fractions, o_pulseMany, o_times, o_energies, o_far, o_near, o_echoes, o_left, o_dropped, o_merged, o_drops, o_contributions, o_packet, o_peelResult, o_peelTime, o_peelSum)) : V X 0 0 (wR a T c_m c_saved c_savedCount c_script c_scriptLength c_code c_lineParts c_lengths c_fractions c_pulseMany c_times c_energies c_far c_near c_echoes c_left c_dropped c_merged c_drops c_contributions c_packet c_peelResult c_peelTime c_peelSum c_at c_commands c_draft c_hash) [(0, .ref (a 0))] 0 [] := by
  unfold Rf_peelAll at hf
  refine v_aload_n 0 C dX10_peelAll_0 rfl rfl ?_
  refine v_iconst (v := 0) C dX10_peelAll_1 (by decide) ?_
  refine Rp_lineParts C dX10_peelAll_2 ?_
  refine v_aload_n 0 C dX10_peelAll_5 rfl rfl ?_
  refine Rg_fractions C dX10_peelAll_6 ?_
  refine v_iconst (v := 0) C dX10_peelAll_9 (by decide) ?_
  refine v_aload_n 0 C dX10_peelAll_10 rfl rfl ?_
  refine Rg_m C dX10_peelAll_11 ?_
  refine v_bipush (v := 17) C dX10_peelAll_14 (by decide) ?_
  refine Ral_m C dX10_peelAll_16 hf (fun z16 hf => ?_)
  refine v_l2i C dX10_peelAll_17 hf (fun z17 hf => ?_)
  refine Ras_fractions C dX10_peelAll_18 hf (fun fractions_18 hf => ?_)
  refine v_aload_n 0 C dX10_peelAll_19 rfl rfl ?_
  refine v_iconst (v := 1) C dX10_peelAll_20 (by decide) ?_
  refine Rp_pulseMany C dX10_peelAll_21 ?_
  refine v_aload_n 0 C dX10_peelAll_24 rfl rfl ?_
  refine Rg_times C dX10_peelAll_25 ?_
  refine v_iconst (v := 0) C dX10_peelAll_28 (by decide) ?_
  refine v_iconst (v := 0) C dX10_peelAll_29 (by decide) ?_
  refine Ras_times C dX10_peelAll_30 hf (fun times_30 hf => ?_)
  refine v_aload_n 0 C dX10_peelAll_31 rfl rfl ?_
  refine Rg_energies C dX10_peelAll_32 ?_
  refine v_iconst (v := 0) C dX10_peelAll_35 (by decide) ?_
  refine v_aload_n 0 C dX10_peelAll_36 rfl rfl ?_
  refine Rg_m C dX10_peelAll_37 ?_
  refine v_bipush (v := 22) C dX10_peelAll_40 (by decide) ?_
  refine Ral_m C dX10_peelAll_42 hf (fun z42 hf => ?_)
  refine Ras_energies C dX10_peelAll_43 hf (fun energies_43 hf => ?_)
  refine v_aload_n 0 C dX10_peelAll_44 rfl rfl ?_
  refine v_iconst (v := 0) C dX10_peelAll_45 (by decide) ?_
  refine Rp_peelSum C dX10_peelAll_46 ?_
  refine v_aload_n 0 C dX10_peelAll_49 rfl rfl ?_
  refine Rc_runLine C dX10_peelAll_50 (by decide) (Nat.le_of_ble_eq_true rfl) hf (fun far_50 near_50 echoes_50 left_50 dropped_50 merged_50 drops_50 contributions_50 packet_50 hf => ?_)
  refine v_iconst (v := 1) C dX10_peelAll_53 (by decide) ?_
  refine v_istore_n [(0, .ref (a 0)), (1, .int (1 : Int32))] [1, 0] C dX10_peelAll_54 rfl (by decide) rfl ?_
  obtain ⟨⟨o_lineParts_55, o_lengths_55, o_fractions_55, o_far_55, o_near_55, o_echoes_55, o_left_55, o_dropped_55, o_merged_55, o_drops_55, o_contributions_55, o_packet_55, o_peelResult_55, o_peelTime_55, o_peelSum_55⟩, hc, hf⟩ := bd_some hf
  refine Rk_peelAll_55 C ?_ _ _ _ _ _ _ _ _ _ _ _ _ _ _ _ _ _ hc
  cases hf
  exact v_vret C hret dX10_peelAll_67
set_option maxRecDepth 100000 in
set_option maxHeartbeats 4000000 in
theorem Rm_peelAll {D : va_G}  {o_lineParts : Int32} {o_lengths : Nat → Int32} {o_fractions : Nat → Int32} {o_pulseMany : Int32} {o_times : Nat → Int32} {o_energies : Nat → Int64} {o_far : Nat → Int64} {o_near : Nat → Int64} {o_echoes : Nat → Int64} {o_left : Int64} {o_dropped : Int64} {o_merged : Int32} {o_drops : Int32} {o_contributions : Int32} {o_packet : Int64} {o_peelResult : Int32} {o_peelTime : Int32} {o_peelSum : Int32} (hf : Rf_peelAll c_m c_lineParts c_lengths c_fractions c_pulseMany c_times c_energies c_far c_near c_echoes c_left c_dropped c_merged c_drops c_contributions c_packet c_peelResult c_peelTime c_peelSum = some (o_lineParts, o_lengths, o_fractions, o_pulseMany, o_times, o_energies, o_far, o_near, o_echoes, o_left, o_dropped, o_merged, o_drops, o_contributions, o_packet, o_peelResult, o_peelTime, o_peelSum)) : MetM G yX10_peelAll cX10_peelAll 2 none { frames := 6, cells := 0, slots := 0, locals := 142 } D T [.ref (a 0)] (wR a T c_m c_saved c_savedCount c_script c_scriptLength c_code c_lineParts c_lengths c_fractions c_pulseMany c_times c_energies c_far c_near c_echoes c_left c_dropped c_merged c_drops c_contributions c_packet c_peelResult c_peelTime c_peelSum c_at c_commands c_draft c_hash) none (wR a T c_m c_saved c_savedCount c_script c_scriptLength c_code o_lineParts o_lengths o_fractions o_pulseMany o_times o_energies o_far o_near o_echoes o_left o_dropped o_merged o_drops o_contributions o_packet o_peelResult o_peelTime o_peelSum c_at c_commands c_draft c_hash) :=
  MetM.of [(0, .ref (a 0))] (by decide) (Nat.le_of_ble_eq_true rfl) rfl (fun X C hret => Rb_peelAll C hret hf)
set_option maxRecDepth 100000 in
theorem Rc_peelAll  {cc : ByteArray} {ret : Option FieldType} {nl fr lo pc : Nat} {lv : List (Nat × Value)} {rest : List Value} {β : Type} {K : (Int32 × (Nat → Int32) × (Nat → Int32) × Int32 × (Nat → Int32) × (Nat → Int64) × (Nat → Int64) × (Nat → Int64) × (Nat → Int64) × Int64 × Int64 × Int32 × Int32 × Int32 × Int64 × Int32 × Int32 × Int32) → Option β} {oo : β} (C : Cx X G T cc RX10 ret nl fr lo) (hdg : decode cc pc = .ok (.invokevirtual 250, 3)) (hroom : 6 + 1 ≤ fr ∧ 8 + (2 + 11) + 142 ≤ lo) (hst : (rest.map fun v => v.category).sum ≤ 8) (hf : bd (Rf_peelAll c_m c_lineParts c_lengths c_fractions c_pulseMany c_times c_energies c_far c_near c_echoes c_left c_dropped c_merged c_drops c_contributions c_packet c_peelResult c_peelTime c_peelSum) K = some oo) (kk : ∀ (o_lineParts : Int32) (o_lengths : Nat → Int32) (o_fractions : Nat → Int32) (o_pulseMany : Int32) (o_times : Nat → Int32) (o_energies : Nat → Int64) (o_far : Nat → Int64) (o_near : Nat → Int64) (o_echoes : Nat → Int64) (o_left : Int64) (o_dropped : Int64) (o_merged : Int32) (o_drops : Int32) (o_contributions : Int32) (o_packet : Int64) (o_peelResult : Int32) (o_peelTime : Int32) (o_peelSum : Int32), K (o_lineParts, o_lengths, o_fractions, o_pulseMany, o_times, o_energies, o_far, o_near, o_echoes, o_left, o_dropped, o_merged, o_drops, o_contributions, o_packet, o_peelResult, o_peelTime, o_peelSum) = some oo → V X 0 0 (wR a T c_m c_saved c_savedCount c_script c_scriptLength c_code o_lineParts o_lengths o_fractions o_pulseMany o_times o_energies o_far o_near o_echoes o_left o_dropped o_merged o_drops o_contributions o_packet o_peelResult o_peelTime o_peelSum c_at c_commands c_draft c_hash) lv (pc + 3) rest) : V X 0 0 (wR a T c_m c_saved c_savedCount c_script c_scriptLength c_code c_lineParts c_lengths c_fractions c_pulseMany c_times c_energies c_far c_near c_echoes c_left c_dropped c_merged c_drops c_contributions c_packet c_peelResult c_peelTime c_peelSum c_at c_commands c_draft c_hash) lv pc (.ref (a 0) :: rest) := by
  obtain ⟨⟨o_lineParts, o_lengths, o_fractions, o_pulseMany, o_times, o_energies, o_far, o_near, o_echoes, o_left, o_dropped, o_merged, o_drops, o_contributions, o_packet, o_peelResult, o_peelTime, o_peelSum⟩, hc, hk⟩ := bd_some hf
  exact v_callV (As := []) (rest := rest) (q0 := 0) 0 C (CapOK.z X) (fun D => Rm_peelAll hc) (goodV wmethodLink_RX10_250_yX10_peelAll winstanceMethod_yX10_peelAll wselects_RX10_yX10_peelAll_yX10_peelAll winitialized_RX10 wcode_yX10_peelAll_cX10_peelAll_2_none) (by decide +kernel) hroom ⟨rfl, rfl⟩ rfl rfl rfl hst hdg (kk o_lineParts o_lengths o_fractions o_pulseMany o_times o_energies o_far o_near o_echoes o_left o_dropped o_merged o_drops o_contributions o_packet o_peelResult o_peelTime o_peelSum hk)
def Rf_peelOf_39 (s0 : Int32) : Option Int32 :=
  some s0
set_option maxRecDepth 100000 in
set_option maxHeartbeats 4000000 in
theorem Rb_peelOf_39 (C : Cx X G T cX10_peelOf RX10 (some .int) 2 0 0) {s0 : Int32} {r : Int32} (hret : RetOK X 0 0 (some (.int r)) (wR a T c_m c_saved c_savedCount c_script c_scriptLength c_code c_lineParts c_lengths c_fractions c_pulseMany c_times c_energies c_far c_near c_echoes c_left c_dropped c_merged c_drops c_contributions c_packet c_peelResult c_peelTime c_peelSum c_at c_commands c_draft c_hash)) (hf : Rf_peelOf_39 s0 = some r) : V X 0 0 (wR a T c_m c_saved c_savedCount c_script c_scriptLength c_code c_lineParts c_lengths c_fractions c_pulseMany c_times c_energies c_far c_near c_echoes c_left c_dropped c_merged c_drops c_contributions c_packet c_peelResult c_peelTime c_peelSum c_at c_commands c_draft c_hash) [] 39 [.int s0] := by
  unfold Rf_peelOf_39 at hf
  cases hf
  exact v_iret C hret dX10_peelOf_39
def Rf_peelOf (c_lineParts : Int32) (c_peelResult : Int32) (c_peelTime : Int32) (c_peelSum : Int32) (x1 : Int32) : Option Int32 :=
  if x1 = 0 then
    Rf_peelOf_39 c_peelResult
  else
    if x1 = (1 : Int32) then
      Rf_peelOf_39 c_peelTime
    else
      if x1 = (2 : Int32) then
        Rf_peelOf_39 c_lineParts
      else
        Rf_peelOf_39 c_peelSum
set_option maxRecDepth 100000 in
set_option maxHeartbeats 4000000 in
theorem Rb_peelOf (C : Cx X G T cX10_peelOf RX10 (some .int) 2 0 0) {x1 : Int32} {r : Int32} (hret : RetOK X 0 0 (some (.int r)) (wR a T c_m c_saved c_savedCount c_script c_scriptLength c_code c_lineParts c_lengths c_fractions c_pulseMany c_times c_energies c_far c_near c_echoes c_left c_dropped c_merged c_drops c_contributions c_packet c_peelResult c_peelTime c_peelSum c_at c_commands c_draft c_hash)) (hf : Rf_peelOf c_lineParts c_peelResult c_peelTime c_peelSum x1 = some r) : V X 0 0 (wR a T c_m c_saved c_savedCount c_script c_scriptLength c_code c_lineParts c_lengths c_fractions c_pulseMany c_times c_energies c_far c_near c_echoes c_left c_dropped c_merged c_drops c_contributions c_packet c_peelResult c_peelTime c_peelSum c_at c_commands c_draft c_hash) [(0, .ref (a 0)), (1, .int x1)] 0 [] := by
  unfold Rf_peelOf at hf
  refine v_iload_n 1 C dX10_peelOf_0 rfl rfl ?_
  refine v_if_ne 11 C dX10_peelOf_1 (by decide) hf (fun c hf => ?_) (fun c hf => ?_)
  · refine v_aload_n 0 C dX10_peelOf_4 rfl rfl ?_
    refine Rg_peelResult C dX10_peelOf_5 ?_
    refine v_goto 39 C dX10_peelOf_8 (by decide) ?_
    refine v_lv [] [] rfl ?_
    exact Rb_peelOf_39 C hret hf
  · refine v_iload_n 1 C dX10_peelOf_11 rfl rfl ?_
    refine v_iconst (v := 1) C dX10_peelOf_12 (by decide) ?_
    refine v_icmp_ne 23 C dX10_peelOf_13 (by decide) hf (fun c hf => ?_) (fun c hf => ?_)
    · refine v_aload_n 0 C dX10_peelOf_16 rfl rfl ?_
      refine Rg_peelTime C dX10_peelOf_17 ?_
      refine v_goto 39 C dX10_peelOf_20 (by decide) ?_
      refine v_lv [] [] rfl ?_
      exact Rb_peelOf_39 C hret hf
    · refine v_iload_n 1 C dX10_peelOf_23 rfl rfl ?_
      refine v_iconst (v := 2) C dX10_peelOf_24 (by decide) ?_
      refine v_icmp_ne 35 C dX10_peelOf_25 (by decide) hf (fun c hf => ?_) (fun c hf => ?_)
      · refine v_aload_n 0 C dX10_peelOf_28 rfl rfl ?_
        refine Rg_lineParts C dX10_peelOf_29 ?_
        refine v_goto 39 C dX10_peelOf_32 (by decide) ?_
        refine v_lv [] [] rfl ?_
        exact Rb_peelOf_39 C hret hf
      · refine v_aload_n 0 C dX10_peelOf_35 rfl rfl ?_
        refine Rg_peelSum C dX10_peelOf_36 ?_
        refine v_lv [] [] rfl ?_
        exact Rb_peelOf_39 C hret hf
set_option maxRecDepth 100000 in
set_option maxHeartbeats 4000000 in
theorem Rm_peelOf {D : va_G} {x1 : Int32} {r : Int32} (hf : Rf_peelOf c_lineParts c_peelResult c_peelTime c_peelSum x1 = some r) : MetM G yX10_peelOf cX10_peelOf 2 (some .int) { frames := 0, cells := 0, slots := 0, locals := 0 } D T [.ref (a 0), .int x1] (wR a T c_m c_saved c_savedCount c_script c_scriptLength c_code c_lineParts c_lengths c_fractions c_pulseMany c_times c_energies c_far c_near c_echoes c_left c_dropped c_merged c_drops c_contributions c_packet c_peelResult c_peelTime c_peelSum c_at c_commands c_draft c_hash) (some (.int r)) (wR a T c_m c_saved c_savedCount c_script c_scriptLength c_code c_lineParts c_lengths c_fractions c_pulseMany c_times c_energies c_far c_near c_echoes c_left c_dropped c_merged c_drops c_contributions c_packet c_peelResult c_peelTime c_peelSum c_at c_commands c_draft c_hash) :=
  MetM.of [(0, .ref (a 0)), (1, .int x1)] (by decide) (Nat.le_of_ble_eq_true rfl) rfl (fun X C hret => Rb_peelOf C hret hf)
set_option maxRecDepth 100000 in
theorem Rc_peelOf {x1 : Int32} {cc : ByteArray} {ret : Option FieldType} {nl fr lo pc : Nat} {lv : List (Nat × Value)} {rest : List Value} {β : Type} {K : Int32 → Option β} {oo : β} (C : Cx X G T cc RX10 ret nl fr lo) (hdg : decode cc pc = .ok (.invokevirtual 253, 3)) (hroom : 0 + 1 ≤ fr ∧ 8 + (2 + 11) + 0 ≤ lo) (hst : (rest.map fun v => v.category).sum ≤ 8) (hf : bd (Rf_peelOf c_lineParts c_peelResult c_peelTime c_peelSum x1) K = some oo) (kk : ∀ (r : Int32), K r = some oo → V X 0 0 (wR a T c_m c_saved c_savedCount c_script c_scriptLength c_code c_lineParts c_lengths c_fractions c_pulseMany c_times c_energies c_far c_near c_echoes c_left c_dropped c_merged c_drops c_contributions c_packet c_peelResult c_peelTime c_peelSum c_at c_commands c_draft c_hash) lv (pc + 3) (.int r :: rest)) : V X 0 0 (wR a T c_m c_saved c_savedCount c_script c_scriptLength c_code c_lineParts c_lengths c_fractions c_pulseMany c_times c_energies c_far c_near c_echoes c_left c_dropped c_merged c_drops c_contributions c_packet c_peelResult c_peelTime c_peelSum c_at c_commands c_draft c_hash) lv pc (.int x1 :: .ref (a 0) :: rest) := by
  obtain ⟨r, hc, hk⟩ := bd_some hf
  exact v_callV (As := [.int x1]) (rest := rest) (q0 := 0) 1 C (CapOK.z X) (fun D => Rm_peelOf hc) (goodV wmethodLink_RX10_253_yX10_peelOf winstanceMethod_yX10_peelOf wselects_RX10_yX10_peelOf_yX10_peelOf winitialized_RX10 wcode_yX10_peelOf_cX10_peelOf_2_some_int) (by decide +kernel) hroom ⟨rfl, rfl⟩ rfl rfl rfl hst hdg (kk r hk)
def Rf_peel_18 (c_m : Nat → Int64) (c_code : Int32) (c_lineParts : Int32) (c_lengths : Nat → Int32) (c_fractions : Nat → Int32) (c_pulseMany : Int32) (c_times : Nat → Int32) (c_energies : Nat → Int64) (c_far : Nat → Int64) (c_near : Nat → Int64) (c_echoes : Nat → Int64) (c_left : Int64) (c_dropped : Int64) (c_merged : Int32) (c_drops : Int32) (c_contributions : Int32) (c_packet : Int64) (c_peelResult : Int32) (c_peelTime : Int32) (c_peelSum : Int32) (x1 : Int32) (s1 : Int32) : Option (Int32 × Int32 × (Nat → Int32) × (Nat → Int32) × Int32 × (Nat → Int32) × (Nat → Int64) × (Nat → Int64) × (Nat → Int64) × (Nat → Int64) × Int64 × Int64 × Int32 × Int32 × Int32 × Int64 × Int32 × Int32 × Int32 × Int32) :=
  if s1 = 0 then
    bd (Rf_peelAll c_m c_lineParts c_lengths c_fractions c_pulseMany c_times c_energies c_far c_near c_echoes c_left c_dropped c_merged c_drops c_contributions c_packet c_peelResult c_peelTime c_peelSum) fun (lineParts_31, lengths_31, fractions_31, pulseMany_31, times_31, energies_31, far_31, near_31, echoes_31, left_31, dropped_31, merged_31, drops_31, contributions_31, packet_31, peelResult_31, peelTime_31, peelSum_31) =>
    bd (Rf_peelOf lineParts_31 peelResult_31 peelTime_31 peelSum_31 x1) fun r36 =>
    some (s1, lineParts_31, lengths_31, fractions_31, pulseMany_31, times_31, energies_31, far_31, near_31, echoes_31, left_31, dropped_31, merged_31, drops_31, contributions_31, packet_31, peelResult_31, peelTime_31, peelSum_31, r36)
  else
    some (s1, c_lineParts, c_lengths, c_fractions, c_pulseMany, c_times, c_energies, c_far, c_near, c_echoes, c_left, c_dropped, c_merged, c_drops, c_contributions, c_packet, c_peelResult, c_peelTime, c_peelSum, (0 : Int32))
set_option maxRecDepth 100000 in
set_option maxHeartbeats 4000000 in
theorem Rb_peel_18 (C : Cx X G T cX10_peel RX10 (some .int) 2 7 163) {x1 : Int32} {s1 : Int32} {o_code : Int32} {o_lineParts : Int32} {o_lengths : Nat → Int32} {o_fractions : Nat → Int32} {o_pulseMany : Int32} {o_times : Nat → Int32} {o_energies : Nat → Int64} {o_far : Nat → Int64} {o_near : Nat → Int64} {o_echoes : Nat → Int64} {o_left : Int64} {o_dropped : Int64} {o_merged : Int32} {o_drops : Int32} {o_contributions : Int32} {o_packet : Int64} {o_peelResult : Int32} {o_peelTime : Int32} {o_peelSum : Int32} {r : Int32} (hret : RetOK X 0 0 (some (.int r)) (wR a T c_m c_saved c_savedCount c_script c_scriptLength o_code o_lineParts o_lengths o_fractions o_pulseMany o_times o_energies o_far o_near o_echoes o_left o_dropped o_merged o_drops o_contributions o_packet o_peelResult o_peelTime o_peelSum c_at c_commands c_draft c_hash)) (hf : Rf_peel_18 c_m c_code c_lineParts c_lengths c_fractions c_pulseMany c_times c_energies c_far c_near c_echoes c_left c_dropped c_merged c_drops c_contributions c_packet c_peelResult c_peelTime c_peelSum x1 s1 = some (o_code, o_lineParts, o_lengths, o_fractions, o_pulseMany, o_times, o_energies, o_far, o_near, o_echoes, o_left, o_dropped, o_merged, o_drops, o_contributions, o_packet, o_peelResult, o_peelTime, o_peelSum, r)) : V X 0 0 (wR a T c_m c_saved c_savedCount c_script c_scriptLength c_code c_lineParts c_lengths c_fractions c_pulseMany c_times c_energies c_far c_near c_echoes c_left c_dropped c_merged c_drops c_contributions c_packet c_peelResult c_peelTime c_peelSum c_at c_commands c_draft c_hash) [(0, .ref (a 0)), (1, .int x1)] 18 [.int s1, .ref (a 0)] := by
  unfold Rf_peel_18 at hf
  refine Rp_code C dX10_peel_18 ?_
  refine v_aload_n 0 C dX10_peel_21 rfl rfl ?_
  refine Rg_code C dX10_peel_22 ?_
  refine v_if_eq 30 C dX10_peel_25 (by decide) hf (fun c hf => ?_) (fun c hf => ?_)
  · refine v_aload_n 0 C dX10_peel_30 rfl rfl ?_
    refine Rc_peelAll C dX10_peel_31 (by decide) (Nat.le_of_ble_eq_true rfl) hf (fun lineParts_31 lengths_31 fractions_31 pulseMany_31 times_31 energies_31 far_31 near_31 echoes_31 left_31 dropped_31 merged_31 drops_31 contributions_31 packet_31 peelResult_31 peelTime_31 peelSum_31 hf => ?_)
    refine v_aload_n 0 C dX10_peel_34 rfl rfl ?_
    refine v_iload_n 1 C dX10_peel_35 rfl rfl ?_
    refine Rc_peelOf C dX10_peel_36 (by decide) (Nat.le_of_ble_eq_true rfl) hf (fun r36 hf => ?_)
    cases hf
    exact v_iret C hret dX10_peel_39
  · refine v_iconst (v := 0) C dX10_peel_28 (by decide) ?_
    cases hf
    exact v_iret C hret dX10_peel_29
def Rf_peel (c_m : Nat → Int64) (c_code : Int32) (c_lineParts : Int32) (c_lengths : Nat → Int32) (c_fractions : Nat → Int32) (c_pulseMany : Int32) (c_times : Nat → Int32) (c_energies : Nat → Int64) (c_far : Nat → Int64) (c_near : Nat → Int64) (c_echoes : Nat → Int64) (c_left : Int64) (c_dropped : Int64) (c_merged : Int32) (c_drops : Int32) (c_contributions : Int32) (c_packet : Int64) (c_peelResult : Int32) (c_peelTime : Int32) (c_peelSum : Int32) (x1 : Int32) : Option (Int32 × Int32 × (Nat → Int32) × (Nat → Int32) × Int32 × (Nat → Int32) × (Nat → Int64) × (Nat → Int64) × (Nat → Int64) × (Nat → Int64) × Int64 × Int64 × Int32 × Int32 × Int32 × Int64 × Int32 × Int32 × Int32 × Int32) :=
  nm (x1.toInt64) fun z2 =>
  bd (Rf_in z2 (0 : Int64) (3 : Int64)) fun r7 =>
  if r7 = 0 then
    Rf_peel_18 c_m c_code c_lineParts c_lengths c_fractions c_pulseMany c_times c_energies c_far c_near c_echoes c_left c_dropped c_merged c_drops c_contributions c_packet c_peelResult c_peelTime c_peelSum x1 (1 : Int32)
  else
    Rf_peel_18 c_m c_code c_lineParts c_lengths c_fractions c_pulseMany c_times c_energies c_far c_near c_echoes c_left c_dropped c_merged c_drops c_contributions c_packet c_peelResult c_peelTime c_peelSum x1 (0 : Int32)
set_option maxRecDepth 100000 in
set_option maxHeartbeats 4000000 in
theorem Rb_peel (C : Cx X G T cX10_peel RX10 (some .int) 2 7 163) {x1 : Int32} {o_code : Int32} {o_lineParts : Int32} {o_lengths : Nat → Int32} {o_fractions : Nat → Int32} {o_pulseMany : Int32} {o_times : Nat → Int32} {o_energies : Nat → Int64} {o_far : Nat → Int64} {o_near : Nat → Int64} {o_echoes : Nat → Int64} {o_left : Int64} {o_dropped : Int64} {o_merged : Int32} {o_drops : Int32} {o_contributions : Int32} {o_packet : Int64} {o_peelResult : Int32} {o_peelTime : Int32} {o_peelSum : Int32} {r : Int32} (hret : RetOK X 0 0 (some (.int r)) (wR a T c_m c_saved c_savedCount c_script c_scriptLength o_code o_lineParts o_lengths o_fractions o_pulseMany o_times o_energies o_far o_near o_echoes o_left o_dropped o_merged o_drops o_contributions o_packet o_peelResult o_peelTime o_peelSum c_at c_commands c_draft c_hash)) (hf : Rf_peel c_m c_code c_lineParts c_lengths c_fractions c_pulseMany c_times c_energies c_far c_near c_echoes c_left c_dropped c_merged c_drops c_contributions c_packet c_peelResult c_peelTime c_peelSum x1 = some (o_code, o_lineParts, o_lengths, o_fractions, o_pulseMany, o_times, o_energies, o_far, o_near, o_echoes, o_left, o_dropped, o_merged, o_drops, o_contributions, o_packet, o_peelResult, o_peelTime, o_peelSum, r)) : V X 0 0 (wR a T c_m c_saved c_savedCount c_script c_scriptLength c_code c_lineParts c_lengths c_fractions c_pulseMany c_times c_energies c_far c_near c_echoes c_left c_dropped c_merged c_drops c_contributions c_packet c_peelResult c_peelTime c_peelSum c_at c_commands c_draft c_hash) [(0, .ref (a 0)), (1, .int x1)] 0 [] := by
  unfold Rf_peel at hf
  refine v_aload_n 0 C dX10_peel_0 rfl rfl ?_
  refine v_iload_n 1 C dX10_peel_1 rfl rfl ?_
  refine v_i2l C dX10_peel_2 hf (fun z2 hf => ?_)
  refine v_lconst (v := 0) C dX10_peel_3 (by decide) ?_
  refine v_ldc2 (v := 3) C wconstantLong_RX10_224_3 dX10_peel_4 ?_
  refine Rc_in C dX10_peel_7 (by decide) (Nat.le_of_ble_eq_true rfl) hf (fun r7 hf => ?_)
  refine v_if_eq 17 C dX10_peel_10 (by decide) hf (fun c hf => ?_) (fun c hf => ?_)
  · refine v_iconst (v := 1) C dX10_peel_17 (by decide) ?_
    exact Rb_peel_18 C hret hf
  · refine v_iconst (v := 0) C dX10_peel_13 (by decide) ?_
    refine v_goto 18 C dX10_peel_14 (by decide) ?_
    exact Rb_peel_18 C hret hf
set_option maxRecDepth 100000 in
set_option maxHeartbeats 4000000 in
theorem Rm_peel {D : va_G} {x1 : Int32} {o_code : Int32} {o_lineParts : Int32} {o_lengths : Nat → Int32} {o_fractions : Nat → Int32} {o_pulseMany : Int32} {o_times : Nat → Int32} {o_energies : Nat → Int64} {o_far : Nat → Int64} {o_near : Nat → Int64} {o_echoes : Nat → Int64} {o_left : Int64} {o_dropped : Int64} {o_merged : Int32} {o_drops : Int32} {o_contributions : Int32} {o_packet : Int64} {o_peelResult : Int32} {o_peelTime : Int32} {o_peelSum : Int32} {r : Int32} (hf : Rf_peel c_m c_code c_lineParts c_lengths c_fractions c_pulseMany c_times c_energies c_far c_near c_echoes c_left c_dropped c_merged c_drops c_contributions c_packet c_peelResult c_peelTime c_peelSum x1 = some (o_code, o_lineParts, o_lengths, o_fractions, o_pulseMany, o_times, o_energies, o_far, o_near, o_echoes, o_left, o_dropped, o_merged, o_drops, o_contributions, o_packet, o_peelResult, o_peelTime, o_peelSum, r)) : MetM G yX10_peel cX10_peel 2 (some .int) { frames := 7, cells := 0, slots := 0, locals := 163 } D T [.ref (a 0), .int x1] (wR a T c_m c_saved c_savedCount c_script c_scriptLength c_code c_lineParts c_lengths c_fractions c_pulseMany c_times c_energies c_far c_near c_echoes c_left c_dropped c_merged c_drops c_contributions c_packet c_peelResult c_peelTime c_peelSum c_at c_commands c_draft c_hash) (some (.int r)) (wR a T c_m c_saved c_savedCount c_script c_scriptLength o_code o_lineParts o_lengths o_fractions o_pulseMany o_times o_energies o_far o_near o_echoes o_left o_dropped o_merged o_drops o_contributions o_packet o_peelResult o_peelTime o_peelSum c_at c_commands c_draft c_hash) :=
  MetM.of [(0, .ref (a 0)), (1, .int x1)] (by decide) (Nat.le_of_ble_eq_true rfl) rfl (fun X C hret => Rb_peel C hret hf)
def Rf_found_67 (c_code : Int32) (c_lineParts : Int32) (c_lengths : Nat → Int32) (c_fractions : Nat → Int32) (c_pulseMany : Int32) (c_times : Nat → Int32) (c_energies : Nat → Int64) (c_far : Nat → Int64) (c_near : Nat → Int64) (c_echoes : Nat → Int64) (c_left : Int64) (c_dropped : Int64) (c_merged : Int32) (c_drops : Int32) (c_contributions : Int32) (c_packet : Int64) (c_peelResult : Int32) (c_peelTime : Int32) (c_peelSum : Int32) (s0 : Int32) : Option (Int32 × Int32 × (Nat → Int32) × (Nat → Int32) × Int32 × (Nat → Int32) × (Nat → Int64) × (Nat → Int64) × (Nat → Int64) × (Nat → Int64) × Int64 × Int64 × Int32 × Int32 × Int32 × Int64 × Int32 × Int32 × Int32 × Int32) :=
  some (c_code, c_lineParts, c_lengths, c_fractions, c_pulseMany, c_times, c_energies, c_far, c_near, c_echoes, c_left, c_dropped, c_merged, c_drops, c_contributions, c_packet, c_peelResult, c_peelTime, c_peelSum, s0)
set_option maxRecDepth 100000 in
set_option maxHeartbeats 4000000 in
theorem Rb_found_67 (C : Cx X G T cX10_found RX10 (some .int) 3 7 163) {s0 : Int32} {o_code : Int32} {o_lineParts : Int32} {o_lengths : Nat → Int32} {o_fractions : Nat → Int32} {o_pulseMany : Int32} {o_times : Nat → Int32} {o_energies : Nat → Int64} {o_far : Nat → Int64} {o_near : Nat → Int64} {o_echoes : Nat → Int64} {o_left : Int64} {o_dropped : Int64} {o_merged : Int32} {o_drops : Int32} {o_contributions : Int32} {o_packet : Int64} {o_peelResult : Int32} {o_peelTime : Int32} {o_peelSum : Int32} {r : Int32} (hret : RetOK X 0 0 (some (.int r)) (wR a T c_m c_saved c_savedCount c_script c_scriptLength o_code o_lineParts o_lengths o_fractions o_pulseMany o_times o_energies o_far o_near o_echoes o_left o_dropped o_merged o_drops o_contributions o_packet o_peelResult o_peelTime o_peelSum c_at c_commands c_draft c_hash)) (hf : Rf_found_67 c_code c_lineParts c_lengths c_fractions c_pulseMany c_times c_energies c_far c_near c_echoes c_left c_dropped c_merged c_drops c_contributions c_packet c_peelResult c_peelTime c_peelSum s0 = some (o_code, o_lineParts, o_lengths, o_fractions, o_pulseMany, o_times, o_energies, o_far, o_near, o_echoes, o_left, o_dropped, o_merged, o_drops, o_contributions, o_packet, o_peelResult, o_peelTime, o_peelSum, r)) : V X 0 0 (wR a T c_m c_saved c_savedCount c_script c_scriptLength c_code c_lineParts c_lengths c_fractions c_pulseMany c_times c_energies c_far c_near c_echoes c_left c_dropped c_merged c_drops c_contributions c_packet c_peelResult c_peelTime c_peelSum c_at c_commands c_draft c_hash) [] 67 [.int s0] := by
  unfold Rf_found_67 at hf
  cases hf
  exact v_iret C hret dX10_found_67
def Rf_found_20 (c_m : Nat → Int64) (c_code : Int32) (c_lineParts : Int32) (c_lengths : Nat → Int32) (c_fractions : Nat → Int32) (c_pulseMany : Int32) (c_times : Nat → Int32) (c_energies : Nat → Int64) (c_far : Nat → Int64) (c_near : Nat → Int64) (c_echoes : Nat → Int64) (c_left : Int64) (c_dropped : Int64) (c_merged : Int32) (c_drops : Int32) (c_contributions : Int32) (c_packet : Int64) (c_peelResult : Int32) (c_peelTime : Int32) (c_peelSum : Int32) (x1 : Int32) (x2 : Int32) (s1 : Int32) : Option (Int32 × Int32 × (Nat → Int32) × (Nat → Int32) × Int32 × (Nat → Int32) × (Nat → Int64) × (Nat → Int64) × (Nat → Int64) × (Nat → Int64) × Int64 × Int64 × Int32 × Int32 × Int32 × Int64 × Int32 × Int32 × Int32 × Int32) :=
  if s1 = 0 then
    bd (Rf_peelAll c_m c_lineParts c_lengths c_fractions c_pulseMany c_times c_energies c_far c_near c_echoes c_left c_dropped c_merged c_drops c_contributions c_packet c_peelResult c_peelTime c_peelSum) fun (lineParts_33, lengths_33, fractions_33, pulseMany_33, times_33, energies_33, far_33, near_33, echoes_33, left_33, dropped_33, merged_33, drops_33, contributions_33, packet_33, peelResult_33, peelTime_33, peelSum_33) =>
    if x1 < lineParts_33 then
      if x2 = 0 then
        chk (inb x1 8) <| nm (lengths_33 x1.toNatClampNeg) fun z55 =>
        Rf_found_67 s1 lineParts_33 lengths_33 fractions_33 pulseMany_33 times_33 energies_33 far_33 near_33 echoes_33 left_33 dropped_33 merged_33 drops_33 contributions_33 packet_33 peelResult_33 peelTime_33 peelSum_33 z55
      else
        nm (x1 + (1 : Int32)) fun z65 =>
        chk (inb z65 9) <| nm (fractions_33 z65.toNatClampNeg) fun z66 =>
        Rf_found_67 s1 lineParts_33 lengths_33 fractions_33 pulseMany_33 times_33 energies_33 far_33 near_33 echoes_33 left_33 dropped_33 merged_33 drops_33 contributions_33 packet_33 peelResult_33 peelTime_33 peelSum_33 z66
    else
      some (s1, lineParts_33, lengths_33, fractions_33, pulseMany_33, times_33, energies_33, far_33, near_33, echoes_33, left_33, dropped_33, merged_33, drops_33, contributions_33, packet_33, peelResult_33, peelTime_33, peelSum_33, (-1 : Int32))
  else
    some (s1, c_lineParts, c_lengths, c_fractions, c_pulseMany, c_times, c_energies, c_far, c_near, c_echoes, c_left, c_dropped, c_merged, c_drops, c_contributions, c_packet, c_peelResult, c_peelTime, c_peelSum, (0 : Int32))
set_option maxRecDepth 100000 in
set_option maxHeartbeats 4000000 in
theorem Rb_found_20 (C : Cx X G T cX10_found RX10 (some .int) 3 7 163) {x1 : Int32} {x2 : Int32} {s1 : Int32} {o_code : Int32} {o_lineParts : Int32} {o_lengths : Nat → Int32} {o_fractions : Nat → Int32} {o_pulseMany : Int32} {o_times : Nat → Int32} {o_energies : Nat → Int64} {o_far : Nat → Int64} {o_near : Nat → Int64} {o_echoes : Nat → Int64} {o_left : Int64} {o_dropped : Int64} {o_merged : Int32} {o_drops : Int32} {o_contributions : Int32} {o_packet : Int64} {o_peelResult : Int32} {o_peelTime : Int32} {o_peelSum : Int32} {r : Int32} (hret : RetOK X 0 0 (some (.int r)) (wR a T c_m c_saved c_savedCount c_script c_scriptLength o_code o_lineParts o_lengths o_fractions o_pulseMany o_times o_energies o_far o_near o_echoes o_left o_dropped o_merged o_drops o_contributions o_packet o_peelResult o_peelTime o_peelSum c_at c_commands c_draft c_hash)) (hf : Rf_found_20 c_m c_code c_lineParts c_lengths c_fractions c_pulseMany c_times c_energies c_far c_near c_echoes c_left c_dropped c_merged c_drops c_contributions c_packet c_peelResult c_peelTime c_peelSum x1 x2 s1 = some (o_code, o_lineParts, o_lengths, o_fractions, o_pulseMany, o_times, o_energies, o_far, o_near, o_echoes, o_left, o_dropped, o_merged, o_drops, o_contributions, o_packet, o_peelResult, o_peelTime, o_peelSum, r)) : V X 0 0 (wR a T c_m c_saved c_savedCount c_script c_scriptLength c_code c_lineParts c_lengths c_fractions c_pulseMany c_times c_energies c_far c_near c_echoes c_left c_dropped c_merged c_drops c_contributions c_packet c_peelResult c_peelTime c_peelSum c_at c_commands c_draft c_hash) [(0, .ref (a 0)), (1, .int x1), (2, .int x2)] 20 [.int s1, .ref (a 0)] := by
  unfold Rf_found_20 at hf
  refine Rp_code C dX10_found_20 ?_
  refine v_aload_n 0 C dX10_found_23 rfl rfl ?_
  refine Rg_code C dX10_found_24 ?_
  refine v_if_eq 32 C dX10_found_27 (by decide) hf (fun c hf => ?_) (fun c hf => ?_)
  · refine v_aload_n 0 C dX10_found_32 rfl rfl ?_
    refine Rc_peelAll C dX10_found_33 (by decide) (Nat.le_of_ble_eq_true rfl) hf (fun lineParts_33 lengths_33 fractions_33 pulseMany_33 times_33 energies_33 far_33 near_33 echoes_33 left_33 dropped_33 merged_33 drops_33 contributions_33 packet_33 peelResult_33 peelTime_33 peelSum_33 hf => ?_)
    refine v_iload_n 1 C dX10_found_36 rfl rfl ?_
    refine v_aload_n 0 C dX10_found_37 rfl rfl ?_
    refine Rg_lineParts C dX10_found_38 ?_
    refine v_icmp_lt 46 C dX10_found_41 (by decide) hf (fun c hf => ?_) (fun c hf => ?_)
    · refine v_iload_n 2 C dX10_found_46 rfl rfl ?_
      refine v_if_ne 59 C dX10_found_47 (by decide) hf (fun c hf => ?_) (fun c hf => ?_)
      · refine v_aload_n 0 C dX10_found_50 rfl rfl ?_
        refine Rg_lengths C dX10_found_51 ?_
        refine v_iload_n 1 C dX10_found_54 rfl rfl ?_
        refine Ral_lengths C dX10_found_55 hf (fun z55 hf => ?_)
        refine v_goto 67 C dX10_found_56 (by decide) ?_
        refine v_lv [] [] rfl ?_
        exact Rb_found_67 C hret hf
      · refine v_aload_n 0 C dX10_found_59 rfl rfl ?_
        refine Rg_fractions C dX10_found_60 ?_
        refine v_iload_n 1 C dX10_found_63 rfl rfl ?_
        refine v_iconst (v := 1) C dX10_found_64 (by decide) ?_
        refine v_iadd C dX10_found_65 hf (fun z65 hf => ?_)
        refine Ral_fractions C dX10_found_66 hf (fun z66 hf => ?_)
        refine v_lv [] [] rfl ?_
        exact Rb_found_67 C hret hf
    · refine v_iconst (v := -1) C dX10_found_44 (by decide) ?_
      cases hf
      exact v_iret C hret dX10_found_45
  · refine v_iconst (v := 0) C dX10_found_30 (by decide) ?_
    cases hf
    exact v_iret C hret dX10_found_31
def Rf_found_19 (c_m : Nat → Int64) (c_code : Int32) (c_lineParts : Int32) (c_lengths : Nat → Int32) (c_fractions : Nat → Int32) (c_pulseMany : Int32) (c_times : Nat → Int32) (c_energies : Nat → Int64) (c_far : Nat → Int64) (c_near : Nat → Int64) (c_echoes : Nat → Int64) (c_left : Int64) (c_dropped : Int64) (c_merged : Int32) (c_drops : Int32) (c_contributions : Int32) (c_packet : Int64) (c_peelResult : Int32) (c_peelTime : Int32) (c_peelSum : Int32) (x1 : Int32) (x2 : Int32) : Option (Int32 × Int32 × (Nat → Int32) × (Nat → Int32) × Int32 × (Nat → Int32) × (Nat → Int64) × (Nat → Int64) × (Nat → Int64) × (Nat → Int64) × Int64 × Int64 × Int32 × Int32 × Int32 × Int64 × Int32 × Int32 × Int32 × Int32) :=
  Rf_found_20 c_m c_code c_lineParts c_lengths c_fractions c_pulseMany c_times c_energies c_far c_near c_echoes c_left c_dropped c_merged c_drops c_contributions c_packet c_peelResult c_peelTime c_peelSum x1 x2 (1 : Int32)
set_option maxRecDepth 100000 in
set_option maxHeartbeats 4000000 in
theorem Rb_found_19 (C : Cx X G T cX10_found RX10 (some .int) 3 7 163) {x1 : Int32} {x2 : Int32} {o_code : Int32} {o_lineParts : Int32} {o_lengths : Nat → Int32} {o_fractions : Nat → Int32} {o_pulseMany : Int32} {o_times : Nat → Int32} {o_energies : Nat → Int64} {o_far : Nat → Int64} {o_near : Nat → Int64} {o_echoes : Nat → Int64} {o_left : Int64} {o_dropped : Int64} {o_merged : Int32} {o_drops : Int32} {o_contributions : Int32} {o_packet : Int64} {o_peelResult : Int32} {o_peelTime : Int32} {o_peelSum : Int32} {r : Int32} (hret : RetOK X 0 0 (some (.int r)) (wR a T c_m c_saved c_savedCount c_script c_scriptLength o_code o_lineParts o_lengths o_fractions o_pulseMany o_times o_energies o_far o_near o_echoes o_left o_dropped o_merged o_drops o_contributions o_packet o_peelResult o_peelTime o_peelSum c_at c_commands c_draft c_hash)) (hf : Rf_found_19 c_m c_code c_lineParts c_lengths c_fractions c_pulseMany c_times c_energies c_far c_near c_echoes c_left c_dropped c_merged c_drops c_contributions c_packet c_peelResult c_peelTime c_peelSum x1 x2 = some (o_code, o_lineParts, o_lengths, o_fractions, o_pulseMany, o_times, o_energies, o_far, o_near, o_echoes, o_left, o_dropped, o_merged, o_drops, o_contributions, o_packet, o_peelResult, o_peelTime, o_peelSum, r)) : V X 0 0 (wR a T c_m c_saved c_savedCount c_script c_scriptLength c_code c_lineParts c_lengths c_fractions c_pulseMany c_times c_energies c_far c_near c_echoes c_left c_dropped c_merged c_drops c_contributions c_packet c_peelResult c_peelTime c_peelSum c_at c_commands c_draft c_hash) [(0, .ref (a 0)), (1, .int x1), (2, .int x2)] 19 [.ref (a 0)] := by
  unfold Rf_found_19 at hf
  refine v_iconst (v := 1) C dX10_found_19 (by decide) ?_
  exact Rb_found_20 C hret hf
def Rf_found (c_m : Nat → Int64) (c_code : Int32) (c_lineParts : Int32) (c_lengths : Nat → Int32) (c_fractions : Nat → Int32) (c_pulseMany : Int32) (c_times : Nat → Int32) (c_energies : Nat → Int64) (c_far : Nat → Int64) (c_near : Nat → Int64) (c_echoes : Nat → Int64) (c_left : Int64) (c_dropped : Int64) (c_merged : Int32) (c_drops : Int32) (c_contributions : Int32) (c_packet : Int64) (c_peelResult : Int32) (c_peelTime : Int32) (c_peelSum : Int32) (x1 : Int32) (x2 : Int32) : Option (Int32 × Int32 × (Nat → Int32) × (Nat → Int32) × Int32 × (Nat → Int32) × (Nat → Int64) × (Nat → Int64) × (Nat → Int64) × (Nat → Int64) × Int64 × Int64 × Int32 × Int32 × Int32 × Int64 × Int32 × Int32 × Int32 × Int32) :=
  if x1 < 0 then
    Rf_found_19 c_m c_code c_lineParts c_lengths c_fractions c_pulseMany c_times c_energies c_far c_near c_echoes c_left c_dropped c_merged c_drops c_contributions c_packet c_peelResult c_peelTime c_peelSum x1 x2
  else
    nm (x2.toInt64) fun z6 =>
    bd (Rf_in z6 (0 : Int64) (1 : Int64)) fun r9 =>
    if r9 = 0 then
      Rf_found_19 c_m c_code c_lineParts c_lengths c_fractions c_pulseMany c_times c_energies c_far c_near c_echoes c_left c_dropped c_merged c_drops c_contributions c_packet c_peelResult c_peelTime c_peelSum x1 x2
    else
      Rf_found_20 c_m c_code c_lineParts c_lengths c_fractions c_pulseMany c_times c_energies c_far c_near c_echoes c_left c_dropped c_merged c_drops c_contributions c_packet c_peelResult c_peelTime c_peelSum x1 x2 (0 : Int32)
set_option maxRecDepth 100000 in
set_option maxHeartbeats 4000000 in
theorem Rb_found (C : Cx X G T cX10_found RX10 (some .int) 3 7 163) {x1 : Int32} {x2 : Int32} {o_code : Int32} {o_lineParts : Int32} {o_lengths : Nat → Int32} {o_fractions : Nat → Int32} {o_pulseMany : Int32} {o_times : Nat → Int32} {o_energies : Nat → Int64} {o_far : Nat → Int64} {o_near : Nat → Int64} {o_echoes : Nat → Int64} {o_left : Int64} {o_dropped : Int64} {o_merged : Int32} {o_drops : Int32} {o_contributions : Int32} {o_packet : Int64} {o_peelResult : Int32} {o_peelTime : Int32} {o_peelSum : Int32} {r : Int32} (hret : RetOK X 0 0 (some (.int r)) (wR a T c_m c_saved c_savedCount c_script c_scriptLength o_code o_lineParts o_lengths o_fractions o_pulseMany o_times o_energies o_far o_near o_echoes o_left o_dropped o_merged o_drops o_contributions o_packet o_peelResult o_peelTime o_peelSum c_at c_commands c_draft c_hash)) (hf : Rf_found c_m c_code c_lineParts c_lengths c_fractions c_pulseMany c_times c_energies c_far c_near c_echoes c_left c_dropped c_merged c_drops c_contributions c_packet c_peelResult c_peelTime c_peelSum x1 x2 = some (o_code, o_lineParts, o_lengths, o_fractions, o_pulseMany, o_times, o_energies, o_far, o_near, o_echoes, o_left, o_dropped, o_merged, o_drops, o_contributions, o_packet, o_peelResult, o_peelTime, o_peelSum, r)) : V X 0 0 (wR a T c_m c_saved c_savedCount c_script c_scriptLength c_code c_lineParts c_lengths c_fractions c_pulseMany c_times c_energies c_far c_near c_echoes c_left c_dropped c_merged c_drops c_contributions c_packet c_peelResult c_peelTime c_peelSum c_at c_commands c_draft c_hash) [(0, .ref (a 0)), (1, .int x1), (2, .int x2)] 0 [] := by
  unfold Rf_found at hf
  refine v_aload_n 0 C dX10_found_0 rfl rfl ?_
  refine v_iload_n 1 C dX10_found_1 rfl rfl ?_
  refine v_if_lt 19 C dX10_found_2 (by decide) hf (fun c hf => ?_) (fun c hf => ?_)
  · exact Rb_found_19 C hret hf
  · refine v_iload_n 2 C dX10_found_5 rfl rfl ?_
    refine v_i2l C dX10_found_6 hf (fun z6 hf => ?_)
    refine v_lconst (v := 0) C dX10_found_7 (by decide) ?_
    refine v_lconst (v := 1) C dX10_found_8 (by decide) ?_
    refine Rc_in C dX10_found_9 (by decide) (Nat.le_of_ble_eq_true rfl) hf (fun r9 hf => ?_)
    refine v_if_eq 19 C dX10_found_12 (by decide) hf (fun c hf => ?_) (fun c hf => ?_)
    · exact Rb_found_19 C hret hf
    · refine v_iconst (v := 0) C dX10_found_15 (by decide) ?_
      refine v_goto 20 C dX10_found_16 (by decide) ?_
      exact Rb_found_20 C hret hf
set_option maxRecDepth 100000 in
set_option maxHeartbeats 4000000 in
theorem Rm_found {D : va_G} {x1 : Int32} {x2 : Int32} {o_code : Int32} {o_lineParts : Int32} {o_lengths : Nat → Int32} {o_fractions : Nat → Int32} {o_pulseMany : Int32} {o_times : Nat → Int32} {o_energies : Nat → Int64} {o_far : Nat → Int64} {o_near : Nat → Int64} {o_echoes : Nat → Int64} {o_left : Int64} {o_dropped : Int64} {o_merged : Int32} {o_drops : Int32} {o_contributions : Int32} {o_packet : Int64} {o_peelResult : Int32} {o_peelTime : Int32} {o_peelSum : Int32} {r : Int32} (hf : Rf_found c_m c_code c_lineParts c_lengths c_fractions c_pulseMany c_times c_energies c_far c_near c_echoes c_left c_dropped c_merged c_drops c_contributions c_packet c_peelResult c_peelTime c_peelSum x1 x2 = some (o_code, o_lineParts, o_lengths, o_fractions, o_pulseMany, o_times, o_energies, o_far, o_near, o_echoes, o_left, o_dropped, o_merged, o_drops, o_contributions, o_packet, o_peelResult, o_peelTime, o_peelSum, r)) : MetM G yX10_found cX10_found 3 (some .int) { frames := 7, cells := 0, slots := 0, locals := 163 } D T [.ref (a 0), .int x1, .int x2] (wR a T c_m c_saved c_savedCount c_script c_scriptLength c_code c_lineParts c_lengths c_fractions c_pulseMany c_times c_energies c_far c_near c_echoes c_left c_dropped c_merged c_drops c_contributions c_packet c_peelResult c_peelTime c_peelSum c_at c_commands c_draft c_hash) (some (.int r)) (wR a T c_m c_saved c_savedCount c_script c_scriptLength o_code o_lineParts o_lengths o_fractions o_pulseMany o_times o_energies o_far o_near o_echoes o_left o_dropped o_merged o_drops o_contributions o_packet o_peelResult o_peelTime o_peelSum c_at c_commands c_draft c_hash) :=
  MetM.of [(0, .ref (a 0)), (1, .int x1), (2, .int x2)] (by decide) (Nat.le_of_ble_eq_true rfl) rfl (fun X C hret => Rb_found C hret hf)
def Rl_adopts_17 (c_lineParts : Int32) (c_lengths : Nat → Int32) (c_fractions : Nat → Int32) : Nat → (Nat → Int64) → Int32 → Option (Nat → Int64)
  | 0, _, _ => none
  | n + 1, c_m, x1 =>
    if c_lineParts ≤ x1 then
      some c_m
    else
      chk (inb x1 8) <| nm (c_lengths x1.toNatClampNeg) fun z32 =>
      nm (x1 + (1 : Int32)) fun z39 =>
      chk (inb z39 9) <| nm (c_fractions z39.toNatClampNeg) fun z40 =>
      bd (Rf_laysPart c_m x1 z32 z40) fun m_41 =>
      nm (x1 + (1 : Int32)) fun x1_44 =>
      Rl_adopts_17 c_lineParts c_lengths c_fractions n m_41 x1_44
set_option maxRecDepth 100000 in
set_option maxHeartbeats 4000000 in
theorem Rk_adopts_17 (C : Cx X G T cX10_adopts RX10 (some .int) 2 7 163)  {o_m : Nat → Int64} (hk : V X 0 0 (wR a T o_m c_saved c_savedCount c_script c_scriptLength c_code c_lineParts c_lengths c_fractions c_pulseMany c_times c_energies c_far c_near c_echoes c_left c_dropped c_merged c_drops c_contributions c_packet c_peelResult c_peelTime c_peelSum c_at c_commands c_draft c_hash) [(0, .ref (a 0))] 50 []) : ∀ (n : Nat) (c_m : Nat → Int64) (x1 : Int32), Rl_adopts_17 c_lineParts c_lengths c_fractions n c_m x1 = some o_m → V X 0 0 (wR a T c_m c_saved c_savedCount c_script c_scriptLength c_code c_lineParts c_lengths c_fractions c_pulseMany c_times c_energies c_far c_near c_echoes c_left c_dropped c_merged c_drops c_contributions c_packet c_peelResult c_peelTime c_peelSum c_at c_commands c_draft c_hash) [(0, .ref (a 0)), (1, .int x1)] 17 [] := by
  intro n
  induction n with
  | zero =>
    intro _ _ hf
    cases hf
  | succ n hrec =>
    intro c_m x1 hf
    rw [Rl_adopts_17] at hf
    refine v_iload_n 1 C dX10_adopts_17 rfl rfl ?_
    refine v_aload_n 0 C dX10_adopts_18 rfl rfl ?_
    refine Rg_lineParts C dX10_adopts_19 ?_
    refine v_icmp_ge 50 C dX10_adopts_22 (by decide) hf (fun c hf => ?_) (fun c hf => ?_)
    · refine v_lv [(0, .ref (a 0))] [0] rfl ?_
      cases hf
      exact hk
    · refine v_aload_n 0 C dX10_adopts_25 rfl rfl ?_
      refine v_iload_n 1 C dX10_adopts_26 rfl rfl ?_
      refine v_aload_n 0 C dX10_adopts_27 rfl rfl ?_
      refine Rg_lengths C dX10_adopts_28 ?_
      refine v_iload_n 1 C dX10_adopts_31 rfl rfl ?_
      refine Ral_lengths C dX10_adopts_32 hf (fun z32 hf => ?_)
      refine v_aload_n 0 C dX10_adopts_33 rfl rfl ?_
      refine Rg_fractions C dX10_adopts_34 ?_
      refine v_iload_n 1 C dX10_adopts_37 rfl rfl ?_
      refine v_iconst (v := 1) C dX10_adopts_38 (by decide) ?_
      refine v_iadd C dX10_adopts_39 hf (fun z39 hf => ?_)
      refine Ral_fractions C dX10_adopts_40 hf (fun z40 hf => ?_)
      refine Rc_laysPart C dX10_adopts_41 (by decide) (Nat.le_of_ble_eq_true rfl) hf (fun m_41 hf => ?_)
      refine v_iinc (fun x1_44 => [(0, .ref (a 0)), (1, .int x1_44)]) [1, 0] C dX10_adopts_44 (j := 1) rfl (dv := 1) (by decide) (by decide) (fun _ => rfl) hf (fun x1_44 hf => ?_)
      refine v_goto 17 C dX10_adopts_47 (by decide) ?_
      exact hrec _ _ hf
def Rf_adopts (c_m : Nat → Int64) (c_lineParts : Int32) (c_lengths : Nat → Int32) (c_fractions : Nat → Int32) (c_pulseMany : Int32) (c_times : Nat → Int32) (c_energies : Nat → Int64) (c_far : Nat → Int64) (c_near : Nat → Int64) (c_echoes : Nat → Int64) (c_left : Int64) (c_dropped : Int64) (c_merged : Int32) (c_drops : Int32) (c_contributions : Int32) (c_packet : Int64) (c_peelResult : Int32) (c_peelTime : Int32) (c_peelSum : Int32) : Option ((Nat → Int64) × Int32 × (Nat → Int32) × (Nat → Int32) × Int32 × (Nat → Int32) × (Nat → Int64) × (Nat → Int64) × (Nat → Int64) × (Nat → Int64) × Int64 × Int64 × Int32 × Int32 × Int32 × Int64 × Int32 × Int32 × Int32 × Int32) :=
  bd (Rf_peelAll c_m c_lineParts c_lengths c_fractions c_pulseMany c_times c_energies c_far c_near c_echoes c_left c_dropped c_merged c_drops c_contributions c_packet c_peelResult c_peelTime c_peelSum) fun (lineParts_1, lengths_1, fractions_1, pulseMany_1, times_1, energies_1, far_1, near_1, echoes_1, left_1, dropped_1, merged_1, drops_1, contributions_1, packet_1, peelResult_1, peelTime_1, peelSum_1) =>
  nm (lineParts_1.toInt64) fun z13 =>
  chk (inb (0 : Int32) 431) <| nm (vp_updL c_m (0 : Int32).toNatClampNeg z13) fun m_14 =>
  bd (Rl_adopts_17 lineParts_1 lengths_1 fractions_1 FUEL m_14 (0 : Int32)) fun o_m_17 =>
  some (o_m_17, lineParts_1, lengths_1, fractions_1, pulseMany_1, times_1, energies_1, far_1, near_1, echoes_1, left_1, dropped_1, merged_1, drops_1, contributions_1, packet_1, peelResult_1, peelTime_1, peelSum_1, lineParts_1)
set_option maxRecDepth 100000 in
set_option maxHeartbeats 4000000 in
theorem Rb_adopts (C : Cx X G T cX10_adopts RX10 (some .int) 2 7 163)  {o_m : Nat → Int64} {o_lineParts : Int32} {o_lengths : Nat → Int32} {o_fractions : Nat → Int32} {o_pulseMany : Int32} {o_times : Nat → Int32} {o_energies : Nat → Int64} {o_far : Nat → Int64} {o_near : Nat → Int64} {o_echoes : Nat → Int64} {o_left : Int64} {o_dropped : Int64} {o_merged : Int32} {o_drops : Int32} {o_contributions : Int32} {o_packet : Int64} {o_peelResult : Int32} {o_peelTime : Int32} {o_peelSum : Int32} {r : Int32} (hret : RetOK X 0 0 (some (.int r)) (wR a T o_m c_saved c_savedCount c_script c_scriptLength c_code o_lineParts o_lengths o_fractions o_pulseMany o_times o_energies o_far o_near o_echoes o_left o_dropped o_merged o_drops o_contributions o_packet o_peelResult o_peelTime o_peelSum c_at c_commands c_draft c_hash)) (hf : Rf_adopts c_m c_lineParts c_lengths c_fractions c_pulseMany c_times c_energies c_far c_near c_echoes c_left c_dropped c_merged c_drops c_contributions c_packet c_peelResult c_peelTime c_peelSum = some (o_m, o_lineParts, o_lengths, o_fractions, o_pulseMany, o_times, o_energies, o_far, o_near, o_echoes, o_left, o_dropped, o_merged, o_drops, o_contributions, o_packet, o_peelResult, o_peelTime, o_peelSum, r)) : V X 0 0 (wR a T c_m c_saved c_savedCount c_script c_scriptLength c_code c_lineParts c_lengths c_fractions c_pulseMany c_times c_energies c_far c_near c_echoes c_left c_dropped c_merged c_drops c_contributions c_packet c_peelResult c_peelTime c_peelSum c_at c_commands c_draft c_hash) [(0, .ref (a 0))] 0 [] := by
  unfold Rf_adopts at hf
  refine v_aload_n 0 C dX10_adopts_0 rfl rfl ?_
  refine Rc_peelAll C dX10_adopts_1 (by decide) (Nat.le_of_ble_eq_true rfl) hf (fun lineParts_1 lengths_1 fractions_1 pulseMany_1 times_1 energies_1 far_1 near_1 echoes_1 left_1 dropped_1 merged_1 drops_1 contributions_1 packet_1 peelResult_1 peelTime_1 peelSum_1 hf => ?_)
  refine v_aload_n 0 C dX10_adopts_4 rfl rfl ?_
  refine Rg_m C dX10_adopts_5 ?_
  refine v_iconst (v := 0) C dX10_adopts_8 (by decide) ?_
  refine v_aload_n 0 C dX10_adopts_9 rfl rfl ?_
  refine Rg_lineParts C dX10_adopts_10 ?_
  refine v_i2l C dX10_adopts_13 hf (fun z13 hf => ?_)
  refine Ras_m C dX10_adopts_14 hf (fun m_14 hf => ?_)
  refine v_iconst (v := 0) C dX10_adopts_15 (by decide) ?_
  refine v_istore_n [(0, .ref (a 0)), (1, .int (0 : Int32))] [1, 0] C dX10_adopts_16 rfl (by decide) rfl ?_
  obtain ⟨o_m_17, hc, hf⟩ := bd_some hf
  refine Rk_adopts_17 C ?_ _ _ _ hc
  refine v_aload_n 0 C dX10_adopts_50 rfl rfl ?_
  refine Rg_lineParts C dX10_adopts_51 ?_
  cases hf
  exact v_iret C hret dX10_adopts_54
set_option maxRecDepth 100000 in
set_option maxHeartbeats 4000000 in
theorem Rm_adopts {D : va_G}  {o_m : Nat → Int64} {o_lineParts : Int32} {o_lengths : Nat → Int32} {o_fractions : Nat → Int32} {o_pulseMany : Int32} {o_times : Nat → Int32} {o_energies : Nat → Int64} {o_far : Nat → Int64} {o_near : Nat → Int64} {o_echoes : Nat → Int64} {o_left : Int64} {o_dropped : Int64} {o_merged : Int32} {o_drops : Int32} {o_contributions : Int32} {o_packet : Int64} {o_peelResult : Int32} {o_peelTime : Int32} {o_peelSum : Int32} {r : Int32} (hf : Rf_adopts c_m c_lineParts c_lengths c_fractions c_pulseMany c_times c_energies c_far c_near c_echoes c_left c_dropped c_merged c_drops c_contributions c_packet c_peelResult c_peelTime c_peelSum = some (o_m, o_lineParts, o_lengths, o_fractions, o_pulseMany, o_times, o_energies, o_far, o_near, o_echoes, o_left, o_dropped, o_merged, o_drops, o_contributions, o_packet, o_peelResult, o_peelTime, o_peelSum, r)) : MetM G yX10_adopts cX10_adopts 2 (some .int) { frames := 7, cells := 0, slots := 0, locals := 163 } D T [.ref (a 0)] (wR a T c_m c_saved c_savedCount c_script c_scriptLength c_code c_lineParts c_lengths c_fractions c_pulseMany c_times c_energies c_far c_near c_echoes c_left c_dropped c_merged c_drops c_contributions c_packet c_peelResult c_peelTime c_peelSum c_at c_commands c_draft c_hash) (some (.int r)) (wR a T o_m c_saved c_savedCount c_script c_scriptLength c_code o_lineParts o_lengths o_fractions o_pulseMany o_times o_energies o_far o_near o_echoes o_left o_dropped o_merged o_drops o_contributions o_packet o_peelResult o_peelTime o_peelSum c_at c_commands c_draft c_hash) :=
  MetM.of [(0, .ref (a 0))] (by decide) (Nat.le_of_ble_eq_true rfl) rfl (fun X C hret => Rb_adopts C hret hf)
set_option maxRecDepth 100000 in
theorem Rc_adopts  {cc : ByteArray} {ret : Option FieldType} {nl fr lo pc : Nat} {lv : List (Nat × Value)} {rest : List Value} {β : Type} {K : ((Nat → Int64) × Int32 × (Nat → Int32) × (Nat → Int32) × Int32 × (Nat → Int32) × (Nat → Int64) × (Nat → Int64) × (Nat → Int64) × (Nat → Int64) × Int64 × Int64 × Int32 × Int32 × Int32 × Int64 × Int32 × Int32 × Int32 × Int32) → Option β} {oo : β} (C : Cx X G T cc RX10 ret nl fr lo) (hdg : decode cc pc = .ok (.invokevirtual 256, 3)) (hroom : 7 + 1 ≤ fr ∧ 8 + (2 + 11) + 163 ≤ lo) (hst : (rest.map fun v => v.category).sum ≤ 8) (hf : bd (Rf_adopts c_m c_lineParts c_lengths c_fractions c_pulseMany c_times c_energies c_far c_near c_echoes c_left c_dropped c_merged c_drops c_contributions c_packet c_peelResult c_peelTime c_peelSum) K = some oo) (kk : ∀ (o_m : Nat → Int64) (o_lineParts : Int32) (o_lengths : Nat → Int32) (o_fractions : Nat → Int32) (o_pulseMany : Int32) (o_times : Nat → Int32) (o_energies : Nat → Int64) (o_far : Nat → Int64) (o_near : Nat → Int64) (o_echoes : Nat → Int64) (o_left : Int64) (o_dropped : Int64) (o_merged : Int32) (o_drops : Int32) (o_contributions : Int32) (o_packet : Int64) (o_peelResult : Int32) (o_peelTime : Int32) (o_peelSum : Int32) (r : Int32), K (o_m, o_lineParts, o_lengths, o_fractions, o_pulseMany, o_times, o_energies, o_far, o_near, o_echoes, o_left, o_dropped, o_merged, o_drops, o_contributions, o_packet, o_peelResult, o_peelTime, o_peelSum, r) = some oo → V X 0 0 (wR a T o_m c_saved c_savedCount c_script c_scriptLength c_code o_lineParts o_lengths o_fractions o_pulseMany o_times o_energies o_far o_near o_echoes o_left o_dropped o_merged o_drops o_contributions o_packet o_peelResult o_peelTime o_peelSum c_at c_commands c_draft c_hash) lv (pc + 3) (.int r :: rest)) : V X 0 0 (wR a T c_m c_saved c_savedCount c_script c_scriptLength c_code c_lineParts c_lengths c_fractions c_pulseMany c_times c_energies c_far c_near c_echoes c_left c_dropped c_merged c_drops c_contributions c_packet c_peelResult c_peelTime c_peelSum c_at c_commands c_draft c_hash) lv pc (.ref (a 0) :: rest) := by
  obtain ⟨⟨o_m, o_lineParts, o_lengths, o_fractions, o_pulseMany, o_times, o_energies, o_far, o_near, o_echoes, o_left, o_dropped, o_merged, o_drops, o_contributions, o_packet, o_peelResult, o_peelTime, o_peelSum, r⟩, hc, hk⟩ := bd_some hf
  exact v_callV (As := []) (rest := rest) (q0 := 0) 0 C (CapOK.z X) (fun D => Rm_adopts hc) (goodV wmethodLink_RX10_256_yX10_adopts winstanceMethod_yX10_adopts wselects_RX10_yX10_adopts_yX10_adopts winitialized_RX10 wcode_yX10_adopts_cX10_adopts_2_some_int) (by decide +kernel) hroom ⟨rfl, rfl⟩ rfl rfl rfl hst hdg (kk o_m o_lineParts o_lengths o_fractions o_pulseMany o_times o_energies o_far o_near o_echoes o_left o_dropped o_merged o_drops o_contributions o_packet o_peelResult o_peelTime o_peelSum r hk)
end RM4
