section RM1
variable {X : CxT} {G : SG} {T : Nat → ClassId} {a : Nat → Nat} {w : va_W} {c_m : Nat → Int64} {c_saved : Nat → Int64} {c_savedCount : Int32} {c_script : Nat → Int32} {c_scriptLength : Int32} {c_code : Int32} {c_lineParts : Int32} {c_lengths : Nat → Int32} {c_fractions : Nat → Int32} {c_pulseMany : Int32} {c_times : Nat → Int32} {c_energies : Nat → Int64} {c_far : Nat → Int64} {c_near : Nat → Int64} {c_echoes : Nat → Int64} {c_left : Int64} {c_dropped : Int64} {c_merged : Int32} {c_drops : Int32} {c_contributions : Int32} {c_packet : Int64} {c_peelResult : Int32} {c_peelTime : Int32} {c_peelSum : Int32} {c_at : Int32} {c_commands : Int32} {c_draft : Nat → Int32} {c_hash : Int64}
def Rf_underWay_86 (rec : Int64 → Int32 → Option Int64) (x3 : Int32) (x4 : Int32) (s0 : Int64) (s1 : Int64) : Option Int64 :=
  nm (s0 + s1) fun z86 =>
  nm (x4 + (1 : Int32)) fun x4_88 =>
  rec z86 x4_88
set_option maxRecDepth 100000 in
set_option maxHeartbeats 4000000 in
theorem Rb_underWay_86 (C : Cx X G T cX10_underWay RX10 (some .long) 6 1 20) {rec : Int64 → Int32 → Option Int64} {x3 : Int32} {x4 : Int32} {s0 : Int64} {s1 : Int64} {y1 : Int64} (hrec : ∀ (x1 : Int64) (x4 : Int32), rec x1 x4 = some y1 → V X 0 0 (wR a T c_m c_saved c_savedCount c_script c_scriptLength c_code c_lineParts c_lengths c_fractions c_pulseMany c_times c_energies c_far c_near c_echoes c_left c_dropped c_merged c_drops c_contributions c_packet c_peelResult c_peelTime c_peelSum c_at c_commands c_draft c_hash) [(0, .ref (a 0)), (1, .long x1), (3, .int x3), (4, .int x4)] 15 []) (hk : V X 0 0 (wR a T c_m c_saved c_savedCount c_script c_scriptLength c_code c_lineParts c_lengths c_fractions c_pulseMany c_times c_energies c_far c_near c_echoes c_left c_dropped c_merged c_drops c_contributions c_packet c_peelResult c_peelTime c_peelSum c_at c_commands c_draft c_hash) [(0, .ref (a 0)), (1, .long y1), (3, .int x3)] 94 []) (hf : Rf_underWay_86 rec x3 x4 s0 s1 = some y1) : V X 0 0 (wR a T c_m c_saved c_savedCount c_script c_scriptLength c_code c_lineParts c_lengths c_fractions c_pulseMany c_times c_energies c_far c_near c_echoes c_left c_dropped c_merged c_drops c_contributions c_packet c_peelResult c_peelTime c_peelSum c_at c_commands c_draft c_hash) [(0, .ref (a 0)), (3, .int x3), (4, .int x4)] 86 [.long s1, .long s0] := by
  unfold Rf_underWay_86 at hf
  refine v_ladd C dX10_underWay_86 hf (fun z86 hf => ?_)
  refine v_lstore_n [(0, .ref (a 0)), (1, .long z86), (3, .int x3), (4, .int x4)] [1, 0, 2, 3] C dX10_underWay_87 rfl (by decide) rfl ?_
  refine v_iinc (fun x4_88 => [(0, .ref (a 0)), (1, .long z86), (3, .int x3), (4, .int x4_88)]) [1, 2, 3, 0] C dX10_underWay_88 (j := 3) rfl (dv := 1) (by decide) (by decide) (fun _ => rfl) hf (fun x4_88 hf => ?_)
  refine v_goto 15 C dX10_underWay_91 (by decide) ?_
  exact hrec _ _ hf
def Rf_underWay_45 (rec : Int64 → Int32 → Option Int64) (c_far : Nat → Int64) (c_near : Nat → Int64) (x1 : Int64) (x3 : Int32) (x4 : Int32) (s0 : Int32) : Option Int64 :=
  if s0 = 0 then
    Rf_underWay_86 rec x3 x4 x1 (0 : Int64)
  else
    nm ((201 : Int32) * x3) fun z61 =>
    nm (z61 + x4) fun z64 =>
    chk (inb z64 1809) <| nm (c_far z64.toNatClampNeg) fun z65 =>
    nm (x3 + (1 : Int32)) fun z75 =>
    nm ((201 : Int32) * z75) fun z76 =>
    nm (z76 + x4) fun z79 =>
    chk (inb z79 1809) <| nm (c_near z79.toNatClampNeg) fun z80 =>
    nm (z65 + z80) fun z81 =>
    Rf_underWay_86 rec x3 x4 x1 z81
set_option maxRecDepth 100000 in
set_option maxHeartbeats 4000000 in
theorem Rb_underWay_45 (C : Cx X G T cX10_underWay RX10 (some .long) 6 1 20) {rec : Int64 → Int32 → Option Int64} {x1 : Int64} {x3 : Int32} {x4 : Int32} {s0 : Int32} {y1 : Int64} (hrec : ∀ (x1 : Int64) (x4 : Int32), rec x1 x4 = some y1 → V X 0 0 (wR a T c_m c_saved c_savedCount c_script c_scriptLength c_code c_lineParts c_lengths c_fractions c_pulseMany c_times c_energies c_far c_near c_echoes c_left c_dropped c_merged c_drops c_contributions c_packet c_peelResult c_peelTime c_peelSum c_at c_commands c_draft c_hash) [(0, .ref (a 0)), (1, .long x1), (3, .int x3), (4, .int x4)] 15 []) (hk : V X 0 0 (wR a T c_m c_saved c_savedCount c_script c_scriptLength c_code c_lineParts c_lengths c_fractions c_pulseMany c_times c_energies c_far c_near c_echoes c_left c_dropped c_merged c_drops c_contributions c_packet c_peelResult c_peelTime c_peelSum c_at c_commands c_draft c_hash) [(0, .ref (a 0)), (1, .long y1), (3, .int x3)] 94 []) (hf : Rf_underWay_45 rec c_far c_near x1 x3 x4 s0 = some y1) : V X 0 0 (wR a T c_m c_saved c_savedCount c_script c_scriptLength c_code c_lineParts c_lengths c_fractions c_pulseMany c_times c_energies c_far c_near c_echoes c_left c_dropped c_merged c_drops c_contributions c_packet c_peelResult c_peelTime c_peelSum c_at c_commands c_draft c_hash) [(0, .ref (a 0)), (1, .long x1), (3, .int x3), (4, .int x4)] 45 [.int s0] := by
  unfold Rf_underWay_45 at hf
  refine v_istore [(0, .ref (a 0)), (1, .long x1), (3, .int x3), (4, .int x4), (5, .int s0)] [1, 2, 3, 4, 0] C dX10_underWay_45 (by decide) rfl ?_
  refine v_lload_n 1 C dX10_underWay_47 rfl rfl ?_
  refine v_iload 4 C dX10_underWay_48 rfl ?_
  refine v_if_eq 85 C dX10_underWay_50 (by decide) hf (fun c hf => ?_) (fun c hf => ?_)
  · refine v_lconst (v := 0) C dX10_underWay_85 (by decide) ?_
    refine v_lv [(0, .ref (a 0)), (3, .int x3), (4, .int x4)] [0, 2, 3] rfl ?_
    exact Rb_underWay_86 C hrec hk hf
  · refine v_aload_n 0 C dX10_underWay_53 rfl rfl ?_
    refine Rg_far C dX10_underWay_54 ?_
    refine v_sipush (v := 201) C dX10_underWay_57 (by decide) ?_
    refine v_iload_n 2 C dX10_underWay_60 rfl rfl ?_
    refine v_imul C dX10_underWay_61 hf (fun z61 hf => ?_)
    refine v_iload 3 C dX10_underWay_62 rfl ?_
    refine v_iadd C dX10_underWay_64 hf (fun z64 hf => ?_)
    refine Ral_far C dX10_underWay_65 hf (fun z65 hf => ?_)
    refine v_aload_n 0 C dX10_underWay_66 rfl rfl ?_
    refine Rg_near C dX10_underWay_67 ?_
    refine v_sipush (v := 201) C dX10_underWay_70 (by decide) ?_
    refine v_iload_n 2 C dX10_underWay_73 rfl rfl ?_
    refine v_iconst (v := 1) C dX10_underWay_74 (by decide) ?_
    refine v_iadd C dX10_underWay_75 hf (fun z75 hf => ?_)
    refine v_imul C dX10_underWay_76 hf (fun z76 hf => ?_)
    refine v_iload 3 C dX10_underWay_77 rfl ?_
    refine v_iadd C dX10_underWay_79 hf (fun z79 hf => ?_)
    refine Ral_near C dX10_underWay_80 hf (fun z80 hf => ?_)
    refine v_ladd C dX10_underWay_81 hf (fun z81 hf => ?_)
    refine v_goto 86 C dX10_underWay_82 (by decide) ?_
    refine v_lv [(0, .ref (a 0)), (3, .int x3), (4, .int x4)] [0, 2, 3] rfl ?_
    exact Rb_underWay_86 C hrec hk hf
def Rl_underWay_15 (c_m : Nat → Int64) (c_lengths : Nat → Int32) (c_far : Nat → Int64) (c_near : Nat → Int64) (x3 : Int32) : Nat → Int64 → Int32 → Option Int64
  | 0, _, _ => none
  | n + 1, x1, x4 =>
    bd (Rf_window c_m) fun r18 =>
    if r18 < x4 then
      some x1
    else
      chk (inb x3 8) <| nm (c_lengths x3.toNatClampNeg) fun z31 =>
      nm (x4 + z31) fun z32 =>
      bd (Rf_window c_m) fun r34 =>
      if z32 ≤ r34 then
        Rf_underWay_45 (Rl_underWay_15 c_m c_lengths c_far c_near x3 n) c_far c_near x1 x3 x4 (0 : Int32)
      else
        Rf_underWay_45 (Rl_underWay_15 c_m c_lengths c_far c_near x3 n) c_far c_near x1 x3 x4 (1 : Int32)
set_option maxRecDepth 100000 in
set_option maxHeartbeats 4000000 in
theorem Rk_underWay_15 (C : Cx X G T cX10_underWay RX10 (some .long) 6 1 20) {x3 : Int32} {y1 : Int64} (hk : V X 0 0 (wR a T c_m c_saved c_savedCount c_script c_scriptLength c_code c_lineParts c_lengths c_fractions c_pulseMany c_times c_energies c_far c_near c_echoes c_left c_dropped c_merged c_drops c_contributions c_packet c_peelResult c_peelTime c_peelSum c_at c_commands c_draft c_hash) [(0, .ref (a 0)), (1, .long y1), (3, .int x3)] 94 []) : ∀ (n : Nat) (x1 : Int64) (x4 : Int32), Rl_underWay_15 c_m c_lengths c_far c_near x3 n x1 x4 = some y1 → V X 0 0 (wR a T c_m c_saved c_savedCount c_script c_scriptLength c_code c_lineParts c_lengths c_fractions c_pulseMany c_times c_energies c_far c_near c_echoes c_left c_dropped c_merged c_drops c_contributions c_packet c_peelResult c_peelTime c_peelSum c_at c_commands c_draft c_hash) [(0, .ref (a 0)), (1, .long x1), (3, .int x3), (4, .int x4)] 15 [] := by
  intro n
  induction n with
  | zero =>
    intro _ _ hf
    cases hf
  | succ n hrec =>
    intro x1 x4 hf
    rw [Rl_underWay_15] at hf
    refine v_iload 3 C dX10_underWay_15 rfl ?_
    refine v_aload_n 0 C dX10_underWay_17 rfl rfl ?_
    refine Rc_window C dX10_underWay_18 (by decide) (Nat.le_of_ble_eq_true rfl) hf (fun r18 hf => ?_)
    refine v_icmp_gt 94 C dX10_underWay_21 (by decide) hf (fun c hf => ?_) (fun c hf => ?_)
    · refine v_lv [(0, .ref (a 0)), (1, .long x1), (3, .int x3)] [0, 1, 2] rfl ?_
      cases hf
      exact hk
    · refine v_iload 3 C dX10_underWay_24 rfl ?_
      refine v_aload_n 0 C dX10_underWay_26 rfl rfl ?_
      refine Rg_lengths C dX10_underWay_27 ?_
      refine v_iload_n 2 C dX10_underWay_30 rfl rfl ?_
      refine Ral_lengths C dX10_underWay_31 hf (fun z31 hf => ?_)
      refine v_iadd C dX10_underWay_32 hf (fun z32 hf => ?_)
      refine v_aload_n 0 C dX10_underWay_33 rfl rfl ?_
      refine Rc_window C dX10_underWay_34 (by decide) (Nat.le_of_ble_eq_true rfl) hf (fun r34 hf => ?_)
      refine v_icmp_le 44 C dX10_underWay_37 (by decide) hf (fun c hf => ?_) (fun c hf => ?_)
      · refine v_iconst (v := 0) C dX10_underWay_44 (by decide) ?_
        exact Rb_underWay_45 C hrec hk hf
      · refine v_iconst (v := 1) C dX10_underWay_40 (by decide) ?_
        refine v_goto 45 C dX10_underWay_41 (by decide) ?_
        exact Rb_underWay_45 C hrec hk hf
def Rl_underWay_4 (c_m : Nat → Int64) (c_lineParts : Int32) (c_lengths : Nat → Int32) (c_far : Nat → Int64) (c_near : Nat → Int64) : Nat → Int64 → Int32 → Option Int64
  | 0, _, _ => none
  | n + 1, x1, x3 =>
    if c_lineParts ≤ x3 then
      some x1
    else
      bd (Rl_underWay_15 c_m c_lengths c_far c_near x3 FUEL x1 (0 : Int32)) fun y1_15 =>
      nm (x3 + (1 : Int32)) fun x3_94 =>
      Rl_underWay_4 c_m c_lineParts c_lengths c_far c_near n y1_15 x3_94
set_option maxRecDepth 100000 in
set_option maxHeartbeats 4000000 in
theorem Rk_underWay_4 (C : Cx X G T cX10_underWay RX10 (some .long) 6 1 20)  {y1 : Int64} (hk : V X 0 0 (wR a T c_m c_saved c_savedCount c_script c_scriptLength c_code c_lineParts c_lengths c_fractions c_pulseMany c_times c_energies c_far c_near c_echoes c_left c_dropped c_merged c_drops c_contributions c_packet c_peelResult c_peelTime c_peelSum c_at c_commands c_draft c_hash) [(1, .long y1)] 100 []) : ∀ (n : Nat) (x1 : Int64) (x3 : Int32), Rl_underWay_4 c_m c_lineParts c_lengths c_far c_near n x1 x3 = some y1 → V X 0 0 (wR a T c_m c_saved c_savedCount c_script c_scriptLength c_code c_lineParts c_lengths c_fractions c_pulseMany c_times c_energies c_far c_near c_echoes c_left c_dropped c_merged c_drops c_contributions c_packet c_peelResult c_peelTime c_peelSum c_at c_commands c_draft c_hash) [(0, .ref (a 0)), (1, .long x1), (3, .int x3)] 4 [] := by
  intro n
  induction n with
  | zero =>
    intro _ _ hf
    cases hf
  | succ n hrec =>
    intro x1 x3 hf
    rw [Rl_underWay_4] at hf
    refine v_iload_n 2 C dX10_underWay_4 rfl rfl ?_
    refine v_aload_n 0 C dX10_underWay_5 rfl rfl ?_
    refine Rg_lineParts C dX10_underWay_6 ?_
    refine v_icmp_ge 100 C dX10_underWay_9 (by decide) hf (fun c hf => ?_) (fun c hf => ?_)
    · refine v_lv [(1, .long x1)] [1] rfl ?_
      cases hf
      exact hk
    · refine v_iconst (v := 0) C dX10_underWay_12 (by decide) ?_
      refine v_istore [(0, .ref (a 0)), (1, .long x1), (3, .int x3), (4, .int (0 : Int32))] [1, 2, 3, 0] C dX10_underWay_13 (by decide) rfl ?_
      obtain ⟨y1_15, hc, hf⟩ := bd_some hf
      refine Rk_underWay_15 C ?_ _ _ _ hc
      refine v_iinc (fun x3_94 => [(0, .ref (a 0)), (1, .long y1_15), (3, .int x3_94)]) [1, 2, 0] C dX10_underWay_94 (j := 2) rfl (dv := 1) (by decide) (by decide) (fun _ => rfl) hf (fun x3_94 hf => ?_)
      refine v_goto 4 C dX10_underWay_97 (by decide) ?_
      exact hrec _ _ hf
def Rf_underWay (c_m : Nat → Int64) (c_lineParts : Int32) (c_lengths : Nat → Int32) (c_far : Nat → Int64) (c_near : Nat → Int64) : Option Int64 :=
  bd (Rl_underWay_4 c_m c_lineParts c_lengths c_far c_near FUEL (0 : Int64) (0 : Int32)) fun y1_4 =>
  some y1_4
set_option maxRecDepth 100000 in
set_option maxHeartbeats 4000000 in
theorem Rb_underWay (C : Cx X G T cX10_underWay RX10 (some .long) 6 1 20)  {r : Int64} (hret : RetOK X 0 0 (some (.long r)) (wR a T c_m c_saved c_savedCount c_script c_scriptLength c_code c_lineParts c_lengths c_fractions c_pulseMany c_times c_energies c_far c_near c_echoes c_left c_dropped c_merged c_drops c_contributions c_packet c_peelResult c_peelTime c_peelSum c_at c_commands c_draft c_hash)) (hf : Rf_underWay c_m c_lineParts c_lengths c_far c_near = some r) : V X 0 0 (wR a T c_m c_saved c_savedCount c_script c_scriptLength c_code c_lineParts c_lengths c_fractions c_pulseMany c_times c_energies c_far c_near c_echoes c_left c_dropped c_merged c_drops c_contributions c_packet c_peelResult c_peelTime c_peelSum c_at c_commands c_draft c_hash) [(0, .ref (a 0))] 0 [] := by
  unfold Rf_underWay at hf
  refine v_lconst (v := 0) C dX10_underWay_0 (by decide) ?_
  refine v_lstore_n [(0, .ref (a 0)), (1, .long (0 : Int64))] [1, 0] C dX10_underWay_1 rfl (by decide) rfl ?_
  refine v_iconst (v := 0) C dX10_underWay_2 (by decide) ?_
  refine v_istore_n [(0, .ref (a 0)), (1, .long (0 : Int64)), (3, .int (0 : Int32))] [1, 2, 0] C dX10_underWay_3 rfl (by decide) rfl ?_
  obtain ⟨y1_4, hc, hf⟩ := bd_some hf
  refine Rk_underWay_4 C ?_ _ _ _ hc
  refine v_lload_n 0 C dX10_underWay_100 rfl rfl ?_
  cases hf
  exact v_lret C hret dX10_underWay_101
set_option maxRecDepth 100000 in
set_option maxHeartbeats 4000000 in
theorem Rm_underWay {D : va_G}  {r : Int64} (hf : Rf_underWay c_m c_lineParts c_lengths c_far c_near = some r) : MetM G yX10_underWay cX10_underWay 6 (some .long) { frames := 1, cells := 0, slots := 0, locals := 20 } D T [.ref (a 0)] (wR a T c_m c_saved c_savedCount c_script c_scriptLength c_code c_lineParts c_lengths c_fractions c_pulseMany c_times c_energies c_far c_near c_echoes c_left c_dropped c_merged c_drops c_contributions c_packet c_peelResult c_peelTime c_peelSum c_at c_commands c_draft c_hash) (some (.long r)) (wR a T c_m c_saved c_savedCount c_script c_scriptLength c_code c_lineParts c_lengths c_fractions c_pulseMany c_times c_energies c_far c_near c_echoes c_left c_dropped c_merged c_drops c_contributions c_packet c_peelResult c_peelTime c_peelSum c_at c_commands c_draft c_hash) :=
  MetM.of [(0, .ref (a 0))] (by decide) (Nat.le_of_ble_eq_true rfl) rfl (fun X C hret => Rb_underWay C hret hf)
set_option maxRecDepth 100000 in
theorem Rc_underWay  {cc : ByteArray} {ret : Option FieldType} {nl fr lo pc : Nat} {lv : List (Nat × Value)} {rest : List Value} {β : Type} {K : Int64 → Option β} {oo : β} (C : Cx X G T cc RX10 ret nl fr lo) (hdg : decode cc pc = .ok (.invokevirtual 196, 3)) (hroom : 1 + 1 ≤ fr ∧ 8 + (6 + 11) + 20 ≤ lo) (hst : (rest.map fun v => v.category).sum ≤ 8) (hf : bd (Rf_underWay c_m c_lineParts c_lengths c_far c_near) K = some oo) (kk : ∀ (r : Int64), K r = some oo → V X 0 0 (wR a T c_m c_saved c_savedCount c_script c_scriptLength c_code c_lineParts c_lengths c_fractions c_pulseMany c_times c_energies c_far c_near c_echoes c_left c_dropped c_merged c_drops c_contributions c_packet c_peelResult c_peelTime c_peelSum c_at c_commands c_draft c_hash) lv (pc + 3) (.long r :: rest)) : V X 0 0 (wR a T c_m c_saved c_savedCount c_script c_scriptLength c_code c_lineParts c_lengths c_fractions c_pulseMany c_times c_energies c_far c_near c_echoes c_left c_dropped c_merged c_drops c_contributions c_packet c_peelResult c_peelTime c_peelSum c_at c_commands c_draft c_hash) lv pc (.ref (a 0) :: rest) := by
  obtain ⟨r, hc, hk⟩ := bd_some hf
  exact v_callV (As := []) (rest := rest) (q0 := 0) 0 C (CapOK.z X) (fun D => Rm_underWay hc) (goodV wmethodLink_RX10_196_yX10_underWay winstanceMethod_yX10_underWay wselects_RX10_yX10_underWay_yX10_underWay winitialized_RX10 wcode_yX10_underWay_cX10_underWay_6_some_long) (by decide +kernel) hroom ⟨rfl, rfl⟩ rfl rfl rfl hst hdg (kk r hk)
def Rf_arePartNumbers_29 (s0 : Int32) : Option Int32 :=
  chk (s0 = 0 ∨ s0 = 1) <| some s0
set_option maxRecDepth 100000 in
set_option maxHeartbeats 4000000 in
theorem Rb_arePartNumbers_29 (C : Cx X G T cX10_arePartNumbers RX10 (some .boolean) 2 1 25) {s0 : Int32} {r : Int32} (hret : RetOK X 0 0 (some (.int r)) w) (hf : Rf_arePartNumbers_29 s0 = some r) : V X 0 0 w [] 29 [.int s0] := by
  unfold Rf_arePartNumbers_29 at hf
  obtain ⟨hv, hf⟩ := chk_some hf
  cases hf
  exact v_zret hv C hret dX10_arePartNumbers_29
def Rf_arePartNumbers_28  : Option Int32 :=
  Rf_arePartNumbers_29 (0 : Int32)
set_option maxRecDepth 100000 in
set_option maxHeartbeats 4000000 in
theorem Rb_arePartNumbers_28 (C : Cx X G T cX10_arePartNumbers RX10 (some .boolean) 2 1 25)  {r : Int32} (hret : RetOK X 0 0 (some (.int r)) w) (hf : Rf_arePartNumbers_28  = some r) : V X 0 0 w [] 28 [] := by
  unfold Rf_arePartNumbers_28 at hf
  refine v_iconst (v := 0) C dX10_arePartNumbers_28 (by decide) ?_
  exact Rb_arePartNumbers_29 C hret hf
def Rf_arePartNumbers (x0 : Int32) (x1 : Int32) : Option Int32 :=
  nm (x0.toInt64) fun z1 =>
  bd (Rf_in z1 (1 : Int64) (20 : Int64)) fun r6 =>
  if r6 = 0 then
    Rf_arePartNumbers_28 
  else
    nm (x1.toInt64) fun z13 =>
    bd (Rf_in z13 (0 : Int64) (1000 : Int64)) fun r18 =>
    if r18 = 0 then
      Rf_arePartNumbers_28 
    else
      Rf_arePartNumbers_29 (1 : Int32)
set_option maxRecDepth 100000 in
set_option maxHeartbeats 4000000 in
theorem Rb_arePartNumbers (C : Cx X G T cX10_arePartNumbers RX10 (some .boolean) 2 1 25) {x0 : Int32} {x1 : Int32} {r : Int32} (hret : RetOK X 0 0 (some (.int r)) w) (hf : Rf_arePartNumbers x0 x1 = some r) : V X 0 0 w [(0, .int x0), (1, .int x1)] 0 [] := by
  unfold Rf_arePartNumbers at hf
  refine v_iload_n 0 C dX10_arePartNumbers_0 rfl rfl ?_
  refine v_i2l C dX10_arePartNumbers_1 hf (fun z1 hf => ?_)
  refine v_lconst (v := 1) C dX10_arePartNumbers_2 (by decide) ?_
  refine v_ldc2 (v := 20) C wconstantLong_RX10_120_20 dX10_arePartNumbers_3 ?_
  refine Rc_in C dX10_arePartNumbers_6 (by decide) (Nat.le_of_ble_eq_true rfl) hf (fun r6 hf => ?_)
  refine v_if_eq 28 C dX10_arePartNumbers_9 (by decide) hf (fun c hf => ?_) (fun c hf => ?_)
  · refine v_lv [] [] rfl ?_
    exact Rb_arePartNumbers_28 C hret hf
  · refine v_iload_n 1 C dX10_arePartNumbers_12 rfl rfl ?_
    refine v_i2l C dX10_arePartNumbers_13 hf (fun z13 hf => ?_)
    refine v_lconst (v := 0) C dX10_arePartNumbers_14 (by decide) ?_
    refine v_ldc2 (v := 1000) C wconstantLong_RX10_82_1000 dX10_arePartNumbers_15 ?_
    refine Rc_in C dX10_arePartNumbers_18 (by decide) (Nat.le_of_ble_eq_true rfl) hf (fun r18 hf => ?_)
    refine v_if_eq 28 C dX10_arePartNumbers_21 (by decide) hf (fun c hf => ?_) (fun c hf => ?_)
    · refine v_lv [] [] rfl ?_
      exact Rb_arePartNumbers_28 C hret hf
    · refine v_iconst (v := 1) C dX10_arePartNumbers_24 (by decide) ?_
      refine v_goto 29 C dX10_arePartNumbers_25 (by decide) ?_
      refine v_lv [] [] rfl ?_
      exact Rb_arePartNumbers_29 C hret hf
set_option maxRecDepth 100000 in
set_option maxHeartbeats 4000000 in
theorem Rm_arePartNumbers {D : va_G} {x0 : Int32} {x1 : Int32} {r : Int32} (hf : Rf_arePartNumbers x0 x1 = some r) : MetM G yX10_arePartNumbers cX10_arePartNumbers 2 (some .boolean) { frames := 1, cells := 0, slots := 0, locals := 25 } D T [.int x0, .int x1] w (some (.int r)) w :=
  MetM.of [(0, .int x0), (1, .int x1)] (by decide) (Nat.le_of_ble_eq_true rfl) rfl (fun X C hret => Rb_arePartNumbers C hret hf)
set_option maxRecDepth 100000 in
theorem Rc_arePartNumbers {x0 : Int32} {x1 : Int32} {cc : ByteArray} {ret : Option FieldType} {nl fr lo pc : Nat} {lv : List (Nat × Value)} {rest : List Value} {β : Type} {K : Int32 → Option β} {oo : β} (C : Cx X G T cc RX10 ret nl fr lo) (hdg : decode cc pc = .ok (.invokestatic 122, 3)) (hroom : 1 + 1 ≤ fr ∧ 8 + (2 + 11) + 25 ≤ lo) (hst : (rest.map fun v => v.category).sum ≤ 8) (hf : bd (Rf_arePartNumbers x0 x1) K = some oo) (kk : ∀ (r : Int32), K r = some oo → V X 0 0 w lv (pc + 3) (.int r :: rest)) : V X 0 0 w lv pc (.int x1 :: .int x0 :: rest) := by
  obtain ⟨r, hc, hk⟩ := bd_some hf
  exact v_callS (As := [.int x0, .int x1]) (rest := rest) 2 C (CapOK.z X) (fun D => Rm_arePartNumbers hc) (goodS wmethodLink_RX10_122_yX10_arePartNumbers wstatic_yX10_arePartNumbers winitialized_RX10 wcode_yX10_arePartNumbers_cX10_arePartNumbers_2_some_boolean) (by decide +kernel) hroom ⟨rfl, rfl⟩ rfl hst hdg (kk r hk)
def Rf_laysPart (c_m : Nat → Int64) (x1 : Int32) (x2 : Int32) (x3 : Int32) : Option (Nat → Int64) :=
  nm ((1 : Int32) + x1) fun z6 =>
  nm (x2.toInt64) fun z8 =>
  chk (inb z6 431) <| nm (vp_updL c_m z6.toNatClampNeg z8) fun m_9 =>
  nm ((9 : Int32) + x1) fun z17 =>
  nm (x3.toInt64) fun z19 =>
  chk (inb z17 431) <| nm (vp_updL m_9 z17.toNatClampNeg z19) fun m_20 =>
  some m_20
set_option maxRecDepth 100000 in
set_option maxHeartbeats 4000000 in
theorem Rb_laysPart (C : Cx X G T cX10_laysPart RX10 none 4 0 0) {x1 : Int32} {x2 : Int32} {x3 : Int32} {o_m : Nat → Int64} (hret : RetOK X 0 0 none (wR a T o_m c_saved c_savedCount c_script c_scriptLength c_code c_lineParts c_lengths c_fractions c_pulseMany c_times c_energies c_far c_near c_echoes c_left c_dropped c_merged c_drops c_contributions c_packet c_peelResult c_peelTime c_peelSum c_at c_commands c_draft c_hash)) (hf : Rf_laysPart c_m x1 x2 x3 = some o_m) : V X 0 0 (wR a T c_m c_saved c_savedCount c_script c_scriptLength c_code c_lineParts c_lengths c_fractions c_pulseMany c_times c_energies c_far c_near c_echoes c_left c_dropped c_merged c_drops c_contributions c_packet c_peelResult c_peelTime c_peelSum c_at c_commands c_draft c_hash) [(0, .ref (a 0)), (1, .int x1), (2, .int x2), (3, .int x3)] 0 [] := by
  unfold Rf_laysPart at hf
  refine v_aload_n 0 C dX10_laysPart_0 rfl rfl ?_
  refine Rg_m C dX10_laysPart_1 ?_
  refine v_iconst (v := 1) C dX10_laysPart_4 (by decide) ?_
  refine v_iload_n 1 C dX10_laysPart_5 rfl rfl ?_
  refine v_iadd C dX10_laysPart_6 hf (fun z6 hf => ?_)
  refine v_iload_n 2 C dX10_laysPart_7 rfl rfl ?_
  refine v_i2l C dX10_laysPart_8 hf (fun z8 hf => ?_)
  refine Ras_m C dX10_laysPart_9 hf (fun m_9 hf => ?_)
  refine v_aload_n 0 C dX10_laysPart_10 rfl rfl ?_
  refine Rg_m C dX10_laysPart_11 ?_
  refine v_bipush (v := 9) C dX10_laysPart_14 (by decide) ?_
  refine v_iload_n 1 C dX10_laysPart_16 rfl rfl ?_
  refine v_iadd C dX10_laysPart_17 hf (fun z17 hf => ?_)
  refine v_iload_n 3 C dX10_laysPart_18 rfl rfl ?_
  refine v_i2l C dX10_laysPart_19 hf (fun z19 hf => ?_)
  refine Ras_m C dX10_laysPart_20 hf (fun m_20 hf => ?_)
  cases hf
  exact v_vret C hret dX10_laysPart_21
set_option maxRecDepth 100000 in
set_option maxHeartbeats 4000000 in
theorem Rm_laysPart {D : va_G} {x1 : Int32} {x2 : Int32} {x3 : Int32} {o_m : Nat → Int64} (hf : Rf_laysPart c_m x1 x2 x3 = some o_m) : MetM G yX10_laysPart cX10_laysPart 4 none { frames := 0, cells := 0, slots := 0, locals := 0 } D T [.ref (a 0), .int x1, .int x2, .int x3] (wR a T c_m c_saved c_savedCount c_script c_scriptLength c_code c_lineParts c_lengths c_fractions c_pulseMany c_times c_energies c_far c_near c_echoes c_left c_dropped c_merged c_drops c_contributions c_packet c_peelResult c_peelTime c_peelSum c_at c_commands c_draft c_hash) none (wR a T o_m c_saved c_savedCount c_script c_scriptLength c_code c_lineParts c_lengths c_fractions c_pulseMany c_times c_energies c_far c_near c_echoes c_left c_dropped c_merged c_drops c_contributions c_packet c_peelResult c_peelTime c_peelSum c_at c_commands c_draft c_hash) :=
  MetM.of [(0, .ref (a 0)), (1, .int x1), (2, .int x2), (3, .int x3)] (by decide) (Nat.le_of_ble_eq_true rfl) rfl (fun X C hret => Rb_laysPart C hret hf)
set_option maxRecDepth 100000 in
theorem Rc_laysPart {x1 : Int32} {x2 : Int32} {x3 : Int32} {cc : ByteArray} {ret : Option FieldType} {nl fr lo pc : Nat} {lv : List (Nat × Value)} {rest : List Value} {β : Type} {K : (Nat → Int64) → Option β} {oo : β} (C : Cx X G T cc RX10 ret nl fr lo) (hdg : decode cc pc = .ok (.invokevirtual 126, 3)) (hroom : 0 + 1 ≤ fr ∧ 8 + (4 + 11) + 0 ≤ lo) (hst : (rest.map fun v => v.category).sum ≤ 8) (hf : bd (Rf_laysPart c_m x1 x2 x3) K = some oo) (kk : ∀ (o_m : Nat → Int64), K o_m = some oo → V X 0 0 (wR a T o_m c_saved c_savedCount c_script c_scriptLength c_code c_lineParts c_lengths c_fractions c_pulseMany c_times c_energies c_far c_near c_echoes c_left c_dropped c_merged c_drops c_contributions c_packet c_peelResult c_peelTime c_peelSum c_at c_commands c_draft c_hash) lv (pc + 3) rest) : V X 0 0 (wR a T c_m c_saved c_savedCount c_script c_scriptLength c_code c_lineParts c_lengths c_fractions c_pulseMany c_times c_energies c_far c_near c_echoes c_left c_dropped c_merged c_drops c_contributions c_packet c_peelResult c_peelTime c_peelSum c_at c_commands c_draft c_hash) lv pc (.int x3 :: .int x2 :: .int x1 :: .ref (a 0) :: rest) := by
  obtain ⟨o_m, hc, hk⟩ := bd_some hf
  exact v_callV (As := [.int x1, .int x2, .int x3]) (rest := rest) (q0 := 0) 3 C (CapOK.z X) (fun D => Rm_laysPart hc) (goodV wmethodLink_RX10_126_yX10_laysPart winstanceMethod_yX10_laysPart wselects_RX10_yX10_laysPart_yX10_laysPart winitialized_RX10 wcode_yX10_laysPart_cX10_laysPart_4_none) (by decide +kernel) hroom ⟨rfl, rfl⟩ rfl rfl rfl hst hdg (kk o_m hk)
def Rf_whyNoPart_26 (s0 : Int32) : Option Int32 :=
  some s0
set_option maxRecDepth 100000 in
set_option maxHeartbeats 4000000 in
theorem Rb_whyNoPart_26 (C : Cx X G T cX10_whyNoPart RX10 (some .int) 3 2 46) {s0 : Int32} {r : Int32} (hret : RetOK X 0 0 (some (.int r)) (wR a T c_m c_saved c_savedCount c_script c_scriptLength c_code c_lineParts c_lengths c_fractions c_pulseMany c_times c_energies c_far c_near c_echoes c_left c_dropped c_merged c_drops c_contributions c_packet c_peelResult c_peelTime c_peelSum c_at c_commands c_draft c_hash)) (hf : Rf_whyNoPart_26 s0 = some r) : V X 0 0 (wR a T c_m c_saved c_savedCount c_script c_scriptLength c_code c_lineParts c_lengths c_fractions c_pulseMany c_times c_energies c_far c_near c_echoes c_left c_dropped c_merged c_drops c_contributions c_packet c_peelResult c_peelTime c_peelSum c_at c_commands c_draft c_hash) [] 26 [.int s0] := by
  unfold Rf_whyNoPart_26 at hf
  cases hf
  exact v_iret C hret dX10_whyNoPart_26
def Rf_whyNoPart (c_m : Nat → Int64) (x1 : Int32) (x2 : Int32) : Option Int32 :=
  bd (Rf_arePartNumbers x1 x2) fun r2 =>
  if r2 = 0 then
    Rf_whyNoPart_26 (1 : Int32)
  else
    bd (Rf_parts c_m) fun r13 =>
    if r13 = (8 : Int32) then
      Rf_whyNoPart_26 (2 : Int32)
    else
      Rf_whyNoPart_26 (0 : Int32)
set_option maxRecDepth 100000 in
set_option maxHeartbeats 4000000 in
theorem Rb_whyNoPart (C : Cx X G T cX10_whyNoPart RX10 (some .int) 3 2 46) {x1 : Int32} {x2 : Int32} {r : Int32} (hret : RetOK X 0 0 (some (.int r)) (wR a T c_m c_saved c_savedCount c_script c_scriptLength c_code c_lineParts c_lengths c_fractions c_pulseMany c_times c_energies c_far c_near c_echoes c_left c_dropped c_merged c_drops c_contributions c_packet c_peelResult c_peelTime c_peelSum c_at c_commands c_draft c_hash)) (hf : Rf_whyNoPart c_m x1 x2 = some r) : V X 0 0 (wR a T c_m c_saved c_savedCount c_script c_scriptLength c_code c_lineParts c_lengths c_fractions c_pulseMany c_times c_energies c_far c_near c_echoes c_left c_dropped c_merged c_drops c_contributions c_packet c_peelResult c_peelTime c_peelSum c_at c_commands c_draft c_hash) [(0, .ref (a 0)), (1, .int x1), (2, .int x2)] 0 [] := by
  unfold Rf_whyNoPart at hf
  refine v_iload_n 1 C dX10_whyNoPart_0 rfl rfl ?_
  refine v_iload_n 2 C dX10_whyNoPart_1 rfl rfl ?_
  refine Rc_arePartNumbers C dX10_whyNoPart_2 (by decide) (Nat.le_of_ble_eq_true rfl) hf (fun r2 hf => ?_)
  refine v_if_ne 12 C dX10_whyNoPart_5 (by decide) hf (fun c hf => ?_) (fun c hf => ?_)
  · refine v_iconst (v := 1) C dX10_whyNoPart_8 (by decide) ?_
    refine v_goto 26 C dX10_whyNoPart_9 (by decide) ?_
    refine v_lv [] [] rfl ?_
    exact Rb_whyNoPart_26 C hret hf
  · refine v_aload_n 0 C dX10_whyNoPart_12 rfl rfl ?_
    refine Rc_parts C dX10_whyNoPart_13 (by decide) (Nat.le_of_ble_eq_true rfl) hf (fun r13 hf => ?_)
    refine v_bipush (v := 8) C dX10_whyNoPart_16 (by decide) ?_
    refine v_icmp_ne 25 C dX10_whyNoPart_18 (by decide) hf (fun c hf => ?_) (fun c hf => ?_)
    · refine v_iconst (v := 2) C dX10_whyNoPart_21 (by decide) ?_
      refine v_goto 26 C dX10_whyNoPart_22 (by decide) ?_
      refine v_lv [] [] rfl ?_
      exact Rb_whyNoPart_26 C hret hf
    · refine v_iconst (v := 0) C dX10_whyNoPart_25 (by decide) ?_
      refine v_lv [] [] rfl ?_
      exact Rb_whyNoPart_26 C hret hf
set_option maxRecDepth 100000 in
set_option maxHeartbeats 4000000 in
theorem Rm_whyNoPart {D : va_G} {x1 : Int32} {x2 : Int32} {r : Int32} (hf : Rf_whyNoPart c_m x1 x2 = some r) : MetM G yX10_whyNoPart cX10_whyNoPart 3 (some .int) { frames := 2, cells := 0, slots := 0, locals := 46 } D T [.ref (a 0), .int x1, .int x2] (wR a T c_m c_saved c_savedCount c_script c_scriptLength c_code c_lineParts c_lengths c_fractions c_pulseMany c_times c_energies c_far c_near c_echoes c_left c_dropped c_merged c_drops c_contributions c_packet c_peelResult c_peelTime c_peelSum c_at c_commands c_draft c_hash) (some (.int r)) (wR a T c_m c_saved c_savedCount c_script c_scriptLength c_code c_lineParts c_lengths c_fractions c_pulseMany c_times c_energies c_far c_near c_echoes c_left c_dropped c_merged c_drops c_contributions c_packet c_peelResult c_peelTime c_peelSum c_at c_commands c_draft c_hash) :=
  MetM.of [(0, .ref (a 0)), (1, .int x1), (2, .int x2)] (by decide) (Nat.le_of_ble_eq_true rfl) rfl (fun X C hret => Rb_whyNoPart C hret hf)
set_option maxRecDepth 100000 in
theorem Rc_whyNoPart {x1 : Int32} {x2 : Int32} {cc : ByteArray} {ret : Option FieldType} {nl fr lo pc : Nat} {lv : List (Nat × Value)} {rest : List Value} {β : Type} {K : Int32 → Option β} {oo : β} (C : Cx X G T cc RX10 ret nl fr lo) (hdg : decode cc pc = .ok (.invokevirtual 130, 3)) (hroom : 2 + 1 ≤ fr ∧ 8 + (3 + 11) + 46 ≤ lo) (hst : (rest.map fun v => v.category).sum ≤ 8) (hf : bd (Rf_whyNoPart c_m x1 x2) K = some oo) (kk : ∀ (r : Int32), K r = some oo → V X 0 0 (wR a T c_m c_saved c_savedCount c_script c_scriptLength c_code c_lineParts c_lengths c_fractions c_pulseMany c_times c_energies c_far c_near c_echoes c_left c_dropped c_merged c_drops c_contributions c_packet c_peelResult c_peelTime c_peelSum c_at c_commands c_draft c_hash) lv (pc + 3) (.int r :: rest)) : V X 0 0 (wR a T c_m c_saved c_savedCount c_script c_scriptLength c_code c_lineParts c_lengths c_fractions c_pulseMany c_times c_energies c_far c_near c_echoes c_left c_dropped c_merged c_drops c_contributions c_packet c_peelResult c_peelTime c_peelSum c_at c_commands c_draft c_hash) lv pc (.int x2 :: .int x1 :: .ref (a 0) :: rest) := by
  obtain ⟨r, hc, hk⟩ := bd_some hf
  exact v_callV (As := [.int x1, .int x2]) (rest := rest) (q0 := 0) 2 C (CapOK.z X) (fun D => Rm_whyNoPart hc) (goodV wmethodLink_RX10_130_yX10_whyNoPart winstanceMethod_yX10_whyNoPart wselects_RX10_yX10_whyNoPart_yX10_whyNoPart winitialized_RX10 wcode_yX10_whyNoPart_cX10_whyNoPart_3_some_int) (by decide +kernel) hroom ⟨rfl, rfl⟩ rfl rfl rfl hst hdg (kk r hk)
def Rf_addsPart (c_m : Nat → Int64) (x1 : Int32) (x2 : Int32) : Option ((Nat → Int64) × Int32) :=
  bd (Rf_parts c_m) fun r2 =>
  bd (Rf_laysPart c_m r2 x1 x2) fun m_7 =>
  chk (inb (0 : Int32) 431) <| nm (m_7 (0 : Int32).toNatClampNeg) fun z16 =>
  nm (z16 + (1 : Int64)) fun z18 =>
  chk (inb (0 : Int32) 431) <| nm (vp_updL m_7 (0 : Int32).toNatClampNeg z18) fun m_19 =>
  bd (Rf_parts m_19) fun r21 =>
  some (m_19, r21)
set_option maxRecDepth 100000 in
set_option maxHeartbeats 4000000 in
theorem Rb_addsPart (C : Cx X G T cX10_addsPart RX10 (some .int) 3 1 23) {x1 : Int32} {x2 : Int32} {o_m : Nat → Int64} {r : Int32} (hret : RetOK X 0 0 (some (.int r)) (wR a T o_m c_saved c_savedCount c_script c_scriptLength c_code c_lineParts c_lengths c_fractions c_pulseMany c_times c_energies c_far c_near c_echoes c_left c_dropped c_merged c_drops c_contributions c_packet c_peelResult c_peelTime c_peelSum c_at c_commands c_draft c_hash)) (hf : Rf_addsPart c_m x1 x2 = some (o_m, r)) : V X 0 0 (wR a T c_m c_saved c_savedCount c_script c_scriptLength c_code c_lineParts c_lengths c_fractions c_pulseMany c_times c_energies c_far c_near c_echoes c_left c_dropped c_merged c_drops c_contributions c_packet c_peelResult c_peelTime c_peelSum c_at c_commands c_draft c_hash) [(0, .ref (a 0)), (1, .int x1), (2, .int x2)] 0 [] := by
  unfold Rf_addsPart at hf
  refine v_aload_n 0 C dX10_addsPart_0 rfl rfl ?_
  refine v_aload_n 0 C dX10_addsPart_1 rfl rfl ?_
  refine Rc_parts C dX10_addsPart_2 (by decide) (Nat.le_of_ble_eq_true rfl) hf (fun r2 hf => ?_)
  refine v_iload_n 1 C dX10_addsPart_5 rfl rfl ?_
  refine v_iload_n 2 C dX10_addsPart_6 rfl rfl ?_
  refine Rc_laysPart C dX10_addsPart_7 (by decide) (Nat.le_of_ble_eq_true rfl) hf (fun m_7 hf => ?_)
  refine v_aload_n 0 C dX10_addsPart_10 rfl rfl ?_
  refine Rg_m C dX10_addsPart_11 ?_
  refine v_iconst (v := 0) C dX10_addsPart_14 (by decide) ?_
  refine v_dup2_11 C dX10_addsPart_15 rfl rfl ?_
  refine Ral_m C dX10_addsPart_16 hf (fun z16 hf => ?_)
  refine v_lconst (v := 1) C dX10_addsPart_17 (by decide) ?_
  refine v_ladd C dX10_addsPart_18 hf (fun z18 hf => ?_)
  refine Ras_m C dX10_addsPart_19 hf (fun m_19 hf => ?_)
  refine v_aload_n 0 C dX10_addsPart_20 rfl rfl ?_
  refine Rc_parts C dX10_addsPart_21 (by decide) (Nat.le_of_ble_eq_true rfl) hf (fun r21 hf => ?_)
  cases hf
  exact v_iret C hret dX10_addsPart_24
set_option maxRecDepth 100000 in
set_option maxHeartbeats 4000000 in
theorem Rm_addsPart {D : va_G} {x1 : Int32} {x2 : Int32} {o_m : Nat → Int64} {r : Int32} (hf : Rf_addsPart c_m x1 x2 = some (o_m, r)) : MetM G yX10_addsPart cX10_addsPart 3 (some .int) { frames := 1, cells := 0, slots := 0, locals := 23 } D T [.ref (a 0), .int x1, .int x2] (wR a T c_m c_saved c_savedCount c_script c_scriptLength c_code c_lineParts c_lengths c_fractions c_pulseMany c_times c_energies c_far c_near c_echoes c_left c_dropped c_merged c_drops c_contributions c_packet c_peelResult c_peelTime c_peelSum c_at c_commands c_draft c_hash) (some (.int r)) (wR a T o_m c_saved c_savedCount c_script c_scriptLength c_code c_lineParts c_lengths c_fractions c_pulseMany c_times c_energies c_far c_near c_echoes c_left c_dropped c_merged c_drops c_contributions c_packet c_peelResult c_peelTime c_peelSum c_at c_commands c_draft c_hash) :=
  MetM.of [(0, .ref (a 0)), (1, .int x1), (2, .int x2)] (by decide) (Nat.le_of_ble_eq_true rfl) rfl (fun X C hret => Rb_addsPart C hret hf)
set_option maxRecDepth 100000 in
theorem Rc_addsPart {x1 : Int32} {x2 : Int32} {cc : ByteArray} {ret : Option FieldType} {nl fr lo pc : Nat} {lv : List (Nat × Value)} {rest : List Value} {β : Type} {K : ((Nat → Int64) × Int32) → Option β} {oo : β} (C : Cx X G T cc RX10 ret nl fr lo) (hdg : decode cc pc = .ok (.invokevirtual 137, 3)) (hroom : 1 + 1 ≤ fr ∧ 8 + (3 + 11) + 23 ≤ lo) (hst : (rest.map fun v => v.category).sum ≤ 8) (hf : bd (Rf_addsPart c_m x1 x2) K = some oo) (kk : ∀ (o_m : Nat → Int64) (r : Int32), K (o_m, r) = some oo → V X 0 0 (wR a T o_m c_saved c_savedCount c_script c_scriptLength c_code c_lineParts c_lengths c_fractions c_pulseMany c_times c_energies c_far c_near c_echoes c_left c_dropped c_merged c_drops c_contributions c_packet c_peelResult c_peelTime c_peelSum c_at c_commands c_draft c_hash) lv (pc + 3) (.int r :: rest)) : V X 0 0 (wR a T c_m c_saved c_savedCount c_script c_scriptLength c_code c_lineParts c_lengths c_fractions c_pulseMany c_times c_energies c_far c_near c_echoes c_left c_dropped c_merged c_drops c_contributions c_packet c_peelResult c_peelTime c_peelSum c_at c_commands c_draft c_hash) lv pc (.int x2 :: .int x1 :: .ref (a 0) :: rest) := by
  obtain ⟨⟨o_m, r⟩, hc, hk⟩ := bd_some hf
  exact v_callV (As := [.int x1, .int x2]) (rest := rest) (q0 := 0) 2 C (CapOK.z X) (fun D => Rm_addsPart hc) (goodV wmethodLink_RX10_137_yX10_addsPart winstanceMethod_yX10_addsPart wselects_RX10_yX10_addsPart_yX10_addsPart winitialized_RX10 wcode_yX10_addsPart_cX10_addsPart_3_some_int) (by decide +kernel) hroom ⟨rfl, rfl⟩ rfl rfl rfl hst hdg (kk o_m r hk)
def Rf_addPart (c_m : Nat → Int64) (c_saved : Nat → Int64) (c_savedCount : Int32) (c_code : Int32) (x1 : Int32) (x2 : Int32) : Option ((Nat → Int64) × (Nat → Int64) × Int32 × Int32 × Int32) :=
  bd (Rf_whyNoPart c_m x1 x2) fun r4 =>
  if r4 = 0 then
    bd (Rf_keep c_m c_saved c_savedCount) fun (saved_20, savedCount_20) =>
    bd (Rf_addsPart c_m x1 x2) fun (m_26, r26) =>
    some (m_26, saved_20, savedCount_20, r4, r26)
  else
    some (c_m, c_saved, c_savedCount, r4, (0 : Int32))
set_option maxRecDepth 100000 in
set_option maxHeartbeats 4000000 in
theorem Rb_addPart (C : Cx X G T cX10_addPart RX10 (some .int) 3 3 68) {x1 : Int32} {x2 : Int32} {o_m : Nat → Int64} {o_saved : Nat → Int64} {o_savedCount : Int32} {o_code : Int32} {r : Int32} (hret : RetOK X 0 0 (some (.int r)) (wR a T o_m o_saved o_savedCount c_script c_scriptLength o_code c_lineParts c_lengths c_fractions c_pulseMany c_times c_energies c_far c_near c_echoes c_left c_dropped c_merged c_drops c_contributions c_packet c_peelResult c_peelTime c_peelSum c_at c_commands c_draft c_hash)) (hf : Rf_addPart c_m c_saved c_savedCount c_code x1 x2 = some (o_m, o_saved, o_savedCount, o_code, r)) : V X 0 0 (wR a T c_m c_saved c_savedCount c_script c_scriptLength c_code c_lineParts c_lengths c_fractions c_pulseMany c_times c_energies c_far c_near c_echoes c_left c_dropped c_merged c_drops c_contributions c_packet c_peelResult c_peelTime c_peelSum c_at c_commands c_draft c_hash) [(0, .ref (a 0)), (1, .int x1), (2, .int x2)] 0 [] := by
  unfold Rf_addPart at hf
  refine v_aload_n 0 C dX10_addPart_0 rfl rfl ?_
  refine v_aload_n 0 C dX10_addPart_1 rfl rfl ?_
  refine v_iload_n 1 C dX10_addPart_2 rfl rfl ?_
  refine v_iload_n 2 C dX10_addPart_3 rfl rfl ?_
  refine Rc_whyNoPart C dX10_addPart_4 (by decide) (Nat.le_of_ble_eq_true rfl) hf (fun r4 hf => ?_)
  refine Rp_code C dX10_addPart_7 ?_
  refine v_aload_n 0 C dX10_addPart_10 rfl rfl ?_
  refine Rg_code C dX10_addPart_11 ?_
  refine v_if_eq 19 C dX10_addPart_14 (by decide) hf (fun c hf => ?_) (fun c hf => ?_)
  · refine v_aload_n 0 C dX10_addPart_19 rfl rfl ?_
    refine Rc_keep C dX10_addPart_20 (by decide) (Nat.le_of_ble_eq_true rfl) hf (fun saved_20 savedCount_20 hf => ?_)
    refine v_aload_n 0 C dX10_addPart_23 rfl rfl ?_
    refine v_iload_n 1 C dX10_addPart_24 rfl rfl ?_
    refine v_iload_n 2 C dX10_addPart_25 rfl rfl ?_
    refine Rc_addsPart C dX10_addPart_26 (by decide) (Nat.le_of_ble_eq_true rfl) hf (fun m_26 r26 hf => ?_)
    cases hf
    exact v_iret C hret dX10_addPart_29
  · refine v_iconst (v := 0) C dX10_addPart_17 (by decide) ?_
    cases hf
    exact v_iret C hret dX10_addPart_18
set_option maxRecDepth 100000 in
set_option maxHeartbeats 4000000 in
theorem Rm_addPart {D : va_G} {x1 : Int32} {x2 : Int32} {o_m : Nat → Int64} {o_saved : Nat → Int64} {o_savedCount : Int32} {o_code : Int32} {r : Int32} (hf : Rf_addPart c_m c_saved c_savedCount c_code x1 x2 = some (o_m, o_saved, o_savedCount, o_code, r)) : MetM G yX10_addPart cX10_addPart 3 (some .int) { frames := 3, cells := 0, slots := 0, locals := 68 } D T [.ref (a 0), .int x1, .int x2] (wR a T c_m c_saved c_savedCount c_script c_scriptLength c_code c_lineParts c_lengths c_fractions c_pulseMany c_times c_energies c_far c_near c_echoes c_left c_dropped c_merged c_drops c_contributions c_packet c_peelResult c_peelTime c_peelSum c_at c_commands c_draft c_hash) (some (.int r)) (wR a T o_m o_saved o_savedCount c_script c_scriptLength o_code c_lineParts c_lengths c_fractions c_pulseMany c_times c_energies c_far c_near c_echoes c_left c_dropped c_merged c_drops c_contributions c_packet c_peelResult c_peelTime c_peelSum c_at c_commands c_draft c_hash) :=
  MetM.of [(0, .ref (a 0)), (1, .int x1), (2, .int x2)] (by decide) (Nat.le_of_ble_eq_true rfl) rfl (fun X C hret => Rb_addPart C hret hf)
def Rf_whyNotSet_25 (s0 : Int32) : Option Int32 :=
  some s0
set_option maxRecDepth 100000 in
set_option maxHeartbeats 4000000 in
theorem Rb_whyNotSet_25 (C : Cx X G T cX10_whyNotSet RX10 (some .int) 4 2 46) {s0 : Int32} {r : Int32} (hret : RetOK X 0 0 (some (.int r)) (wR a T c_m c_saved c_savedCount c_script c_scriptLength c_code c_lineParts c_lengths c_fractions c_pulseMany c_times c_energies c_far c_near c_echoes c_left c_dropped c_merged c_drops c_contributions c_packet c_peelResult c_peelTime c_peelSum c_at c_commands c_draft c_hash)) (hf : Rf_whyNotSet_25 s0 = some r) : V X 0 0 (wR a T c_m c_saved c_savedCount c_script c_scriptLength c_code c_lineParts c_lengths c_fractions c_pulseMany c_times c_energies c_far c_near c_echoes c_left c_dropped c_merged c_drops c_contributions c_packet c_peelResult c_peelTime c_peelSum c_at c_commands c_draft c_hash) [] 25 [.int s0] := by
  unfold Rf_whyNotSet_25 at hf
  cases hf
  exact v_iret C hret dX10_whyNotSet_25
def Rf_whyNotSet (c_m : Nat → Int64) (x1 : Int32) (x2 : Int32) (x3 : Int32) : Option Int32 :=
  bd (Rf_isPart c_m x1) fun r2 =>
  if r2 = 0 then
    Rf_whyNotSet_25 (1 : Int32)
  else
    bd (Rf_arePartNumbers x2 x3) fun r14 =>
    if r14 = 0 then
      Rf_whyNotSet_25 (2 : Int32)
    else
      Rf_whyNotSet_25 (0 : Int32)
set_option maxRecDepth 100000 in
set_option maxHeartbeats 4000000 in
theorem Rb_whyNotSet (C : Cx X G T cX10_whyNotSet RX10 (some .int) 4 2 46) {x1 : Int32} {x2 : Int32} {x3 : Int32} {r : Int32} (hret : RetOK X 0 0 (some (.int r)) (wR a T c_m c_saved c_savedCount c_script c_scriptLength c_code c_lineParts c_lengths c_fractions c_pulseMany c_times c_energies c_far c_near c_echoes c_left c_dropped c_merged c_drops c_contributions c_packet c_peelResult c_peelTime c_peelSum c_at c_commands c_draft c_hash)) (hf : Rf_whyNotSet c_m x1 x2 x3 = some r) : V X 0 0 (wR a T c_m c_saved c_savedCount c_script c_scriptLength c_code c_lineParts c_lengths c_fractions c_pulseMany c_times c_energies c_far c_near c_echoes c_left c_dropped c_merged c_drops c_contributions c_packet c_peelResult c_peelTime c_peelSum c_at c_commands c_draft c_hash) [(0, .ref (a 0)), (1, .int x1), (2, .int x2), (3, .int x3)] 0 [] := by
  unfold Rf_whyNotSet at hf
  refine v_aload_n 0 C dX10_whyNotSet_0 rfl rfl ?_
  refine v_iload_n 1 C dX10_whyNotSet_1 rfl rfl ?_
  refine Rc_isPart C dX10_whyNotSet_2 (by decide) (Nat.le_of_ble_eq_true rfl) hf (fun r2 hf => ?_)
  refine v_if_ne 12 C dX10_whyNotSet_5 (by decide) hf (fun c hf => ?_) (fun c hf => ?_)
  · refine v_iconst (v := 1) C dX10_whyNotSet_8 (by decide) ?_
    refine v_goto 25 C dX10_whyNotSet_9 (by decide) ?_
    refine v_lv [] [] rfl ?_
    exact Rb_whyNotSet_25 C hret hf
  · refine v_iload_n 2 C dX10_whyNotSet_12 rfl rfl ?_
    refine v_iload_n 3 C dX10_whyNotSet_13 rfl rfl ?_
    refine Rc_arePartNumbers C dX10_whyNotSet_14 (by decide) (Nat.le_of_ble_eq_true rfl) hf (fun r14 hf => ?_)
    refine v_if_eq 24 C dX10_whyNotSet_17 (by decide) hf (fun c hf => ?_) (fun c hf => ?_)
    · refine v_iconst (v := 2) C dX10_whyNotSet_24 (by decide) ?_
      refine v_lv [] [] rfl ?_
      exact Rb_whyNotSet_25 C hret hf
    · refine v_iconst (v := 0) C dX10_whyNotSet_20 (by decide) ?_
      refine v_goto 25 C dX10_whyNotSet_21 (by decide) ?_
      refine v_lv [] [] rfl ?_
      exact Rb_whyNotSet_25 C hret hf
set_option maxRecDepth 100000 in
set_option maxHeartbeats 4000000 in
theorem Rm_whyNotSet {D : va_G} {x1 : Int32} {x2 : Int32} {x3 : Int32} {r : Int32} (hf : Rf_whyNotSet c_m x1 x2 x3 = some r) : MetM G yX10_whyNotSet cX10_whyNotSet 4 (some .int) { frames := 2, cells := 0, slots := 0, locals := 46 } D T [.ref (a 0), .int x1, .int x2, .int x3] (wR a T c_m c_saved c_savedCount c_script c_scriptLength c_code c_lineParts c_lengths c_fractions c_pulseMany c_times c_energies c_far c_near c_echoes c_left c_dropped c_merged c_drops c_contributions c_packet c_peelResult c_peelTime c_peelSum c_at c_commands c_draft c_hash) (some (.int r)) (wR a T c_m c_saved c_savedCount c_script c_scriptLength c_code c_lineParts c_lengths c_fractions c_pulseMany c_times c_energies c_far c_near c_echoes c_left c_dropped c_merged c_drops c_contributions c_packet c_peelResult c_peelTime c_peelSum c_at c_commands c_draft c_hash) :=
  MetM.of [(0, .ref (a 0)), (1, .int x1), (2, .int x2), (3, .int x3)] (by decide) (Nat.le_of_ble_eq_true rfl) rfl (fun X C hret => Rb_whyNotSet C hret hf)
set_option maxRecDepth 100000 in
theorem Rc_whyNotSet {x1 : Int32} {x2 : Int32} {x3 : Int32} {cc : ByteArray} {ret : Option FieldType} {nl fr lo pc : Nat} {lv : List (Nat × Value)} {rest : List Value} {β : Type} {K : Int32 → Option β} {oo : β} (C : Cx X G T cc RX10 ret nl fr lo) (hdg : decode cc pc = .ok (.invokevirtual 144, 3)) (hroom : 2 + 1 ≤ fr ∧ 8 + (4 + 11) + 46 ≤ lo) (hst : (rest.map fun v => v.category).sum ≤ 8) (hf : bd (Rf_whyNotSet c_m x1 x2 x3) K = some oo) (kk : ∀ (r : Int32), K r = some oo → V X 0 0 (wR a T c_m c_saved c_savedCount c_script c_scriptLength c_code c_lineParts c_lengths c_fractions c_pulseMany c_times c_energies c_far c_near c_echoes c_left c_dropped c_merged c_drops c_contributions c_packet c_peelResult c_peelTime c_peelSum c_at c_commands c_draft c_hash) lv (pc + 3) (.int r :: rest)) : V X 0 0 (wR a T c_m c_saved c_savedCount c_script c_scriptLength c_code c_lineParts c_lengths c_fractions c_pulseMany c_times c_energies c_far c_near c_echoes c_left c_dropped c_merged c_drops c_contributions c_packet c_peelResult c_peelTime c_peelSum c_at c_commands c_draft c_hash) lv pc (.int x3 :: .int x2 :: .int x1 :: .ref (a 0) :: rest) := by
  obtain ⟨r, hc, hk⟩ := bd_some hf
  exact v_callV (As := [.int x1, .int x2, .int x3]) (rest := rest) (q0 := 0) 3 C (CapOK.z X) (fun D => Rm_whyNotSet hc) (goodV wmethodLink_RX10_144_yX10_whyNotSet winstanceMethod_yX10_whyNotSet wselects_RX10_yX10_whyNotSet_yX10_whyNotSet winitialized_RX10 wcode_yX10_whyNotSet_cX10_whyNotSet_4_some_int) (by decide +kernel) hroom ⟨rfl, rfl⟩ rfl rfl rfl hst hdg (kk r hk)
def Rf_setsPart (c_m : Nat → Int64) (x1 : Int32) (x2 : Int32) (x3 : Int32) : Option ((Nat → Int64) × Int32) :=
  nm ((9 : Int32) + x1) fun z7 =>
  chk (inb z7 431) <| nm (c_m z7.toNatClampNeg) fun z8 =>
  nm (z8.toInt32) fun z9 =>
  bd (Rf_laysPart c_m x1 x2 x3) fun m_16 =>
  some (m_16, z9)
set_option maxRecDepth 100000 in
set_option maxHeartbeats 4000000 in
theorem Rb_setsPart (C : Cx X G T cX10_setsPart RX10 (some .int) 5 1 23) {x1 : Int32} {x2 : Int32} {x3 : Int32} {o_m : Nat → Int64} {r : Int32} (hret : RetOK X 0 0 (some (.int r)) (wR a T o_m c_saved c_savedCount c_script c_scriptLength c_code c_lineParts c_lengths c_fractions c_pulseMany c_times c_energies c_far c_near c_echoes c_left c_dropped c_merged c_drops c_contributions c_packet c_peelResult c_peelTime c_peelSum c_at c_commands c_draft c_hash)) (hf : Rf_setsPart c_m x1 x2 x3 = some (o_m, r)) : V X 0 0 (wR a T c_m c_saved c_savedCount c_script c_scriptLength c_code c_lineParts c_lengths c_fractions c_pulseMany c_times c_energies c_far c_near c_echoes c_left c_dropped c_merged c_drops c_contributions c_packet c_peelResult c_peelTime c_peelSum c_at c_commands c_draft c_hash) [(0, .ref (a 0)), (1, .int x1), (2, .int x2), (3, .int x3)] 0 [] := by
  unfold Rf_setsPart at hf
  refine v_aload_n 0 C dX10_setsPart_0 rfl rfl ?_
  refine Rg_m C dX10_setsPart_1 ?_
  refine v_bipush (v := 9) C dX10_setsPart_4 (by decide) ?_
  refine v_iload_n 1 C dX10_setsPart_6 rfl rfl ?_
  refine v_iadd C dX10_setsPart_7 hf (fun z7 hf => ?_)
  refine Ral_m C dX10_setsPart_8 hf (fun z8 hf => ?_)
  refine v_l2i C dX10_setsPart_9 hf (fun z9 hf => ?_)
  refine v_istore [(0, .ref (a 0)), (1, .int x1), (2, .int x2), (3, .int x3), (4, .int z9)] [1, 2, 3, 4, 0] C dX10_setsPart_10 (by decide) rfl ?_
  refine v_aload_n 0 C dX10_setsPart_12 rfl rfl ?_
  refine v_iload_n 1 C dX10_setsPart_13 rfl rfl ?_
  refine v_iload_n 2 C dX10_setsPart_14 rfl rfl ?_
  refine v_iload_n 3 C dX10_setsPart_15 rfl rfl ?_
  refine Rc_laysPart C dX10_setsPart_16 (by decide) (Nat.le_of_ble_eq_true rfl) hf (fun m_16 hf => ?_)
  refine v_iload 4 C dX10_setsPart_19 rfl ?_
  cases hf
  exact v_iret C hret dX10_setsPart_21
set_option maxRecDepth 100000 in
set_option maxHeartbeats 4000000 in
theorem Rm_setsPart {D : va_G} {x1 : Int32} {x2 : Int32} {x3 : Int32} {o_m : Nat → Int64} {r : Int32} (hf : Rf_setsPart c_m x1 x2 x3 = some (o_m, r)) : MetM G yX10_setsPart cX10_setsPart 5 (some .int) { frames := 1, cells := 0, slots := 0, locals := 23 } D T [.ref (a 0), .int x1, .int x2, .int x3] (wR a T c_m c_saved c_savedCount c_script c_scriptLength c_code c_lineParts c_lengths c_fractions c_pulseMany c_times c_energies c_far c_near c_echoes c_left c_dropped c_merged c_drops c_contributions c_packet c_peelResult c_peelTime c_peelSum c_at c_commands c_draft c_hash) (some (.int r)) (wR a T o_m c_saved c_savedCount c_script c_scriptLength c_code c_lineParts c_lengths c_fractions c_pulseMany c_times c_energies c_far c_near c_echoes c_left c_dropped c_merged c_drops c_contributions c_packet c_peelResult c_peelTime c_peelSum c_at c_commands c_draft c_hash) :=
  MetM.of [(0, .ref (a 0)), (1, .int x1), (2, .int x2), (3, .int x3)] (by decide) (Nat.le_of_ble_eq_true rfl) rfl (fun X C hret => Rb_setsPart C hret hf)
set_option maxRecDepth 100000 in
theorem Rc_setsPart {x1 : Int32} {x2 : Int32} {x3 : Int32} {cc : ByteArray} {ret : Option FieldType} {nl fr lo pc : Nat} {lv : List (Nat × Value)} {rest : List Value} {β : Type} {K : ((Nat → Int64) × Int32) → Option β} {oo : β} (C : Cx X G T cc RX10 ret nl fr lo) (hdg : decode cc pc = .ok (.invokevirtual 148, 3)) (hroom : 1 + 1 ≤ fr ∧ 8 + (5 + 11) + 23 ≤ lo) (hst : (rest.map fun v => v.category).sum ≤ 8) (hf : bd (Rf_setsPart c_m x1 x2 x3) K = some oo) (kk : ∀ (o_m : Nat → Int64) (r : Int32), K (o_m, r) = some oo → V X 0 0 (wR a T o_m c_saved c_savedCount c_script c_scriptLength c_code c_lineParts c_lengths c_fractions c_pulseMany c_times c_energies c_far c_near c_echoes c_left c_dropped c_merged c_drops c_contributions c_packet c_peelResult c_peelTime c_peelSum c_at c_commands c_draft c_hash) lv (pc + 3) (.int r :: rest)) : V X 0 0 (wR a T c_m c_saved c_savedCount c_script c_scriptLength c_code c_lineParts c_lengths c_fractions c_pulseMany c_times c_energies c_far c_near c_echoes c_left c_dropped c_merged c_drops c_contributions c_packet c_peelResult c_peelTime c_peelSum c_at c_commands c_draft c_hash) lv pc (.int x3 :: .int x2 :: .int x1 :: .ref (a 0) :: rest) := by
  obtain ⟨⟨o_m, r⟩, hc, hk⟩ := bd_some hf
  exact v_callV (As := [.int x1, .int x2, .int x3]) (rest := rest) (q0 := 0) 3 C (CapOK.z X) (fun D => Rm_setsPart hc) (goodV wmethodLink_RX10_148_yX10_setsPart winstanceMethod_yX10_setsPart wselects_RX10_yX10_setsPart_yX10_setsPart winitialized_RX10 wcode_yX10_setsPart_cX10_setsPart_5_some_int) (by decide +kernel) hroom ⟨rfl, rfl⟩ rfl rfl rfl hst hdg (kk o_m r hk)
def Rf_setPart (c_m : Nat → Int64) (c_saved : Nat → Int64) (c_savedCount : Int32) (c_code : Int32) (x1 : Int32) (x2 : Int32) (x3 : Int32) : Option ((Nat → Int64) × (Nat → Int64) × Int32 × Int32 × Int32) :=
  bd (Rf_whyNotSet c_m x1 x2 x3) fun r5 =>
  if r5 = 0 then
    bd (Rf_keep c_m c_saved c_savedCount) fun (saved_21, savedCount_21) =>
    bd (Rf_setsPart c_m x1 x2 x3) fun (m_28, r28) =>
    some (m_28, saved_21, savedCount_21, r5, r28)
  else
    some (c_m, c_saved, c_savedCount, r5, (0 : Int32))
set_option maxRecDepth 100000 in
set_option maxHeartbeats 4000000 in
theorem Rb_setPart (C : Cx X G T cX10_setPart RX10 (some .int) 4 3 69) {x1 : Int32} {x2 : Int32} {x3 : Int32} {o_m : Nat → Int64} {o_saved : Nat → Int64} {o_savedCount : Int32} {o_code : Int32} {r : Int32} (hret : RetOK X 0 0 (some (.int r)) (wR a T o_m o_saved o_savedCount c_script c_scriptLength o_code c_lineParts c_lengths c_fractions c_pulseMany c_times c_energies c_far c_near c_echoes c_left c_dropped c_merged c_drops c_contributions c_packet c_peelResult c_peelTime c_peelSum c_at c_commands c_draft c_hash)) (hf : Rf_setPart c_m c_saved c_savedCount c_code x1 x2 x3 = some (o_m, o_saved, o_savedCount, o_code, r)) : V X 0 0 (wR a T c_m c_saved c_savedCount c_script c_scriptLength c_code c_lineParts c_lengths c_fractions c_pulseMany c_times c_energies c_far c_near c_echoes c_left c_dropped c_merged c_drops c_contributions c_packet c_peelResult c_peelTime c_peelSum c_at c_commands c_draft c_hash) [(0, .ref (a 0)), (1, .int x1), (2, .int x2), (3, .int x3)] 0 [] := by
  unfold Rf_setPart at hf
  refine v_aload_n 0 C dX10_setPart_0 rfl rfl ?_
  refine v_aload_n 0 C dX10_setPart_1 rfl rfl ?_
  refine v_iload_n 1 C dX10_setPart_2 rfl rfl ?_
  refine v_iload_n 2 C dX10_setPart_3 rfl rfl ?_
  refine v_iload_n 3 C dX10_setPart_4 rfl rfl ?_
  refine Rc_whyNotSet C dX10_setPart_5 (by decide) (Nat.le_of_ble_eq_true rfl) hf (fun r5 hf => ?_)
  refine Rp_code C dX10_setPart_8 ?_
  refine v_aload_n 0 C dX10_setPart_11 rfl rfl ?_
  refine Rg_code C dX10_setPart_12 ?_
  refine v_if_eq 20 C dX10_setPart_15 (by decide) hf (fun c hf => ?_) (fun c hf => ?_)
  · refine v_aload_n 0 C dX10_setPart_20 rfl rfl ?_
    refine Rc_keep C dX10_setPart_21 (by decide) (Nat.le_of_ble_eq_true rfl) hf (fun saved_21 savedCount_21 hf => ?_)
    refine v_aload_n 0 C dX10_setPart_24 rfl rfl ?_
    refine v_iload_n 1 C dX10_setPart_25 rfl rfl ?_
    refine v_iload_n 2 C dX10_setPart_26 rfl rfl ?_
    refine v_iload_n 3 C dX10_setPart_27 rfl rfl ?_
    refine Rc_setsPart C dX10_setPart_28 (by decide) (Nat.le_of_ble_eq_true rfl) hf (fun m_28 r28 hf => ?_)
    cases hf
    exact v_iret C hret dX10_setPart_31
  · refine v_iconst (v := 0) C dX10_setPart_18 (by decide) ?_
    cases hf
    exact v_iret C hret dX10_setPart_19
set_option maxRecDepth 100000 in
set_option maxHeartbeats 4000000 in
theorem Rm_setPart {D : va_G} {x1 : Int32} {x2 : Int32} {x3 : Int32} {o_m : Nat → Int64} {o_saved : Nat → Int64} {o_savedCount : Int32} {o_code : Int32} {r : Int32} (hf : Rf_setPart c_m c_saved c_savedCount c_code x1 x2 x3 = some (o_m, o_saved, o_savedCount, o_code, r)) : MetM G yX10_setPart cX10_setPart 4 (some .int) { frames := 3, cells := 0, slots := 0, locals := 69 } D T [.ref (a 0), .int x1, .int x2, .int x3] (wR a T c_m c_saved c_savedCount c_script c_scriptLength c_code c_lineParts c_lengths c_fractions c_pulseMany c_times c_energies c_far c_near c_echoes c_left c_dropped c_merged c_drops c_contributions c_packet c_peelResult c_peelTime c_peelSum c_at c_commands c_draft c_hash) (some (.int r)) (wR a T o_m o_saved o_savedCount c_script c_scriptLength o_code c_lineParts c_lengths c_fractions c_pulseMany c_times c_energies c_far c_near c_echoes c_left c_dropped c_merged c_drops c_contributions c_packet c_peelResult c_peelTime c_peelSum c_at c_commands c_draft c_hash) :=
  MetM.of [(0, .ref (a 0)), (1, .int x1), (2, .int x2), (3, .int x3)] (by decide) (Nat.le_of_ble_eq_true rfl) rfl (fun X C hret => Rb_setPart C hret hf)
def Rl_removesPart_12  : Nat → (Nat → Int64) → Int32 → Option (Nat → Int64)
  | 0, _, _ => none
  | n + 1, c_m, x2 =>
    bd (Rf_parts c_m) fun r14 =>
    if r14 ≤ x2 then
      some c_m
    else
      nm ((1 : Int32) + x2) fun z26 =>
      nm ((1 : Int32) + x2) fun z33 =>
      nm (z33 + (1 : Int32)) fun z35 =>
      chk (inb z35 431) <| nm (c_m z35.toNatClampNeg) fun z36 =>
      chk (inb z26 431) <| nm (vp_updL c_m z26.toNatClampNeg z36) fun m_37 =>
      nm ((9 : Int32) + x2) fun z45 =>
      nm ((9 : Int32) + x2) fun z53 =>
      nm (z53 + (1 : Int32)) fun z55 =>
      chk (inb z55 431) <| nm (m_37 z55.toNatClampNeg) fun z56 =>
      chk (inb z45 431) <| nm (vp_updL m_37 z45.toNatClampNeg z56) fun m_57 =>
      nm (x2 + (1 : Int32)) fun x2_58 =>
      Rl_removesPart_12 n m_57 x2_58
set_option maxRecDepth 100000 in
set_option maxHeartbeats 4000000 in
theorem Rk_removesPart_12 (C : Cx X G T cX10_removesPart RX10 (some .int) 3 1 20)  {o_m : Nat → Int64} (hk : V X 0 0 (wR a T o_m c_saved c_savedCount c_script c_scriptLength c_code c_lineParts c_lengths c_fractions c_pulseMany c_times c_energies c_far c_near c_echoes c_left c_dropped c_merged c_drops c_contributions c_packet c_peelResult c_peelTime c_peelSum c_at c_commands c_draft c_hash) [(0, .ref (a 0))] 64 []) : ∀ (n : Nat) (c_m : Nat → Int64) (x2 : Int32), Rl_removesPart_12  n c_m x2 = some o_m → V X 0 0 (wR a T c_m c_saved c_savedCount c_script c_scriptLength c_code c_lineParts c_lengths c_fractions c_pulseMany c_times c_energies c_far c_near c_echoes c_left c_dropped c_merged c_drops c_contributions c_packet c_peelResult c_peelTime c_peelSum c_at c_commands c_draft c_hash) [(0, .ref (a 0)), (2, .int x2)] 12 [] := by
  intro n
  induction n with
  | zero =>
    intro _ _ hf
    cases hf
  | succ n hrec =>
    intro c_m x2 hf
    rw [Rl_removesPart_12] at hf
    refine v_iload_n 1 C dX10_removesPart_12 rfl rfl ?_
    refine v_aload_n 0 C dX10_removesPart_13 rfl rfl ?_
    refine Rc_parts C dX10_removesPart_14 (by decide) (Nat.le_of_ble_eq_true rfl) hf (fun r14 hf => ?_)
    refine v_icmp_ge 64 C dX10_removesPart_17 (by decide) hf (fun c hf => ?_) (fun c hf => ?_)
    · refine v_lv [(0, .ref (a 0))] [0] rfl ?_
      cases hf
      exact hk
    · refine v_aload_n 0 C dX10_removesPart_20 rfl rfl ?_
      refine Rg_m C dX10_removesPart_21 ?_
      refine v_iconst (v := 1) C dX10_removesPart_24 (by decide) ?_
      refine v_iload_n 1 C dX10_removesPart_25 rfl rfl ?_
      refine v_iadd C dX10_removesPart_26 hf (fun z26 hf => ?_)
      refine v_aload_n 0 C dX10_removesPart_27 rfl rfl ?_
      refine Rg_m C dX10_removesPart_28 ?_
      refine v_iconst (v := 1) C dX10_removesPart_31 (by decide) ?_
      refine v_iload_n 1 C dX10_removesPart_32 rfl rfl ?_
      refine v_iadd C dX10_removesPart_33 hf (fun z33 hf => ?_)
      refine v_iconst (v := 1) C dX10_removesPart_34 (by decide) ?_
      refine v_iadd C dX10_removesPart_35 hf (fun z35 hf => ?_)
      refine Ral_m C dX10_removesPart_36 hf (fun z36 hf => ?_)
      refine Ras_m C dX10_removesPart_37 hf (fun m_37 hf => ?_)
      refine v_aload_n 0 C dX10_removesPart_38 rfl rfl ?_
      refine Rg_m C dX10_removesPart_39 ?_
      refine v_bipush (v := 9) C dX10_removesPart_42 (by decide) ?_
      refine v_iload_n 1 C dX10_removesPart_44 rfl rfl ?_
      refine v_iadd C dX10_removesPart_45 hf (fun z45 hf => ?_)
      refine v_aload_n 0 C dX10_removesPart_46 rfl rfl ?_
      refine Rg_m C dX10_removesPart_47 ?_
      refine v_bipush (v := 9) C dX10_removesPart_50 (by decide) ?_
      refine v_iload_n 1 C dX10_removesPart_52 rfl rfl ?_
      refine v_iadd C dX10_removesPart_53 hf (fun z53 hf => ?_)
      refine v_iconst (v := 1) C dX10_removesPart_54 (by decide) ?_
      refine v_iadd C dX10_removesPart_55 hf (fun z55 hf => ?_)
      refine Ral_m C dX10_removesPart_56 hf (fun z56 hf => ?_)
      refine Ras_m C dX10_removesPart_57 hf (fun m_57 hf => ?_)
      refine v_iinc (fun x2_58 => [(0, .ref (a 0)), (2, .int x2_58)]) [1, 0] C dX10_removesPart_58 (j := 1) rfl (dv := 1) (by decide) (by decide) (fun _ => rfl) hf (fun x2_58 hf => ?_)
      refine v_goto 12 C dX10_removesPart_61 (by decide) ?_
      exact hrec _ _ hf
def Rf_removesPart (c_m : Nat → Int64) (x1 : Int32) : Option ((Nat → Int64) × Int32) :=
  chk (inb (0 : Int32) 431) <| nm (c_m (0 : Int32).toNatClampNeg) fun z6 =>
  nm (z6 - (1 : Int64)) fun z8 =>
  chk (inb (0 : Int32) 431) <| nm (vp_updL c_m (0 : Int32).toNatClampNeg z8) fun m_9 =>
  bd (Rl_removesPart_12 FUEL m_9 x1) fun o_m_12 =>
  bd (Rf_parts o_m_12) fun r65 =>
  some (o_m_12, r65)
set_option maxRecDepth 100000 in
set_option maxHeartbeats 4000000 in
theorem Rb_removesPart (C : Cx X G T cX10_removesPart RX10 (some .int) 3 1 20) {x1 : Int32} {o_m : Nat → Int64} {r : Int32} (hret : RetOK X 0 0 (some (.int r)) (wR a T o_m c_saved c_savedCount c_script c_scriptLength c_code c_lineParts c_lengths c_fractions c_pulseMany c_times c_energies c_far c_near c_echoes c_left c_dropped c_merged c_drops c_contributions c_packet c_peelResult c_peelTime c_peelSum c_at c_commands c_draft c_hash)) (hf : Rf_removesPart c_m x1 = some (o_m, r)) : V X 0 0 (wR a T c_m c_saved c_savedCount c_script c_scriptLength c_code c_lineParts c_lengths c_fractions c_pulseMany c_times c_energies c_far c_near c_echoes c_left c_dropped c_merged c_drops c_contributions c_packet c_peelResult c_peelTime c_peelSum c_at c_commands c_draft c_hash) [(0, .ref (a 0)), (1, .int x1)] 0 [] := by
  unfold Rf_removesPart at hf
  refine v_aload_n 0 C dX10_removesPart_0 rfl rfl ?_
  refine Rg_m C dX10_removesPart_1 ?_
  refine v_iconst (v := 0) C dX10_removesPart_4 (by decide) ?_
  refine v_dup2_11 C dX10_removesPart_5 rfl rfl ?_
  refine Ral_m C dX10_removesPart_6 hf (fun z6 hf => ?_)
  refine v_lconst (v := 1) C dX10_removesPart_7 (by decide) ?_
  refine v_lsub C dX10_removesPart_8 hf (fun z8 hf => ?_)
  refine Ras_m C dX10_removesPart_9 hf (fun m_9 hf => ?_)
  refine v_iload_n 1 C dX10_removesPart_10 rfl rfl ?_
  refine v_istore_n [(0, .ref (a 0)), (2, .int x1)] [1, 0] C dX10_removesPart_11 rfl (by decide) rfl ?_
  obtain ⟨o_m_12, hc, hf⟩ := bd_some hf
  refine Rk_removesPart_12 C ?_ _ _ _ hc
  refine v_aload_n 0 C dX10_removesPart_64 rfl rfl ?_
  refine Rc_parts C dX10_removesPart_65 (by decide) (Nat.le_of_ble_eq_true rfl) hf (fun r65 hf => ?_)
  cases hf
  exact v_iret C hret dX10_removesPart_68
set_option maxRecDepth 100000 in
set_option maxHeartbeats 4000000 in
theorem Rm_removesPart {D : va_G} {x1 : Int32} {o_m : Nat → Int64} {r : Int32} (hf : Rf_removesPart c_m x1 = some (o_m, r)) : MetM G yX10_removesPart cX10_removesPart 3 (some .int) { frames := 1, cells := 0, slots := 0, locals := 20 } D T [.ref (a 0), .int x1] (wR a T c_m c_saved c_savedCount c_script c_scriptLength c_code c_lineParts c_lengths c_fractions c_pulseMany c_times c_energies c_far c_near c_echoes c_left c_dropped c_merged c_drops c_contributions c_packet c_peelResult c_peelTime c_peelSum c_at c_commands c_draft c_hash) (some (.int r)) (wR a T o_m c_saved c_savedCount c_script c_scriptLength c_code c_lineParts c_lengths c_fractions c_pulseMany c_times c_energies c_far c_near c_echoes c_left c_dropped c_merged c_drops c_contributions c_packet c_peelResult c_peelTime c_peelSum c_at c_commands c_draft c_hash) :=
  MetM.of [(0, .ref (a 0)), (1, .int x1)] (by decide) (Nat.le_of_ble_eq_true rfl) rfl (fun X C hret => Rb_removesPart C hret hf)
set_option maxRecDepth 100000 in
theorem Rc_removesPart {x1 : Int32} {cc : ByteArray} {ret : Option FieldType} {nl fr lo pc : Nat} {lv : List (Nat × Value)} {rest : List Value} {β : Type} {K : ((Nat → Int64) × Int32) → Option β} {oo : β} (C : Cx X G T cc RX10 ret nl fr lo) (hdg : decode cc pc = .ok (.invokevirtual 151, 3)) (hroom : 1 + 1 ≤ fr ∧ 8 + (3 + 11) + 20 ≤ lo) (hst : (rest.map fun v => v.category).sum ≤ 8) (hf : bd (Rf_removesPart c_m x1) K = some oo) (kk : ∀ (o_m : Nat → Int64) (r : Int32), K (o_m, r) = some oo → V X 0 0 (wR a T o_m c_saved c_savedCount c_script c_scriptLength c_code c_lineParts c_lengths c_fractions c_pulseMany c_times c_energies c_far c_near c_echoes c_left c_dropped c_merged c_drops c_contributions c_packet c_peelResult c_peelTime c_peelSum c_at c_commands c_draft c_hash) lv (pc + 3) (.int r :: rest)) : V X 0 0 (wR a T c_m c_saved c_savedCount c_script c_scriptLength c_code c_lineParts c_lengths c_fractions c_pulseMany c_times c_energies c_far c_near c_echoes c_left c_dropped c_merged c_drops c_contributions c_packet c_peelResult c_peelTime c_peelSum c_at c_commands c_draft c_hash) lv pc (.int x1 :: .ref (a 0) :: rest) := by
  obtain ⟨⟨o_m, r⟩, hc, hk⟩ := bd_some hf
  exact v_callV (As := [.int x1]) (rest := rest) (q0 := 0) 1 C (CapOK.z X) (fun D => Rm_removesPart hc) (goodV wmethodLink_RX10_151_yX10_removesPart winstanceMethod_yX10_removesPart wselects_RX10_yX10_removesPart_yX10_removesPart winitialized_RX10 wcode_yX10_removesPart_cX10_removesPart_3_some_int) (by decide +kernel) hroom ⟨rfl, rfl⟩ rfl rfl rfl hst hdg (kk o_m r hk)
def Rf_removePart_14 (c_m : Nat → Int64) (c_saved : Nat → Int64) (c_savedCount : Int32) (c_code : Int32) (x1 : Int32) (s1 : Int32) : Option ((Nat → Int64) × (Nat → Int64) × Int32 × Int32 × Int32) :=
  if s1 = 0 then
    bd (Rf_keep c_m c_saved c_savedCount) fun (saved_27, savedCount_27) =>
    bd (Rf_removesPart c_m x1) fun (m_32, r32) =>
    some (m_32, saved_27, savedCount_27, s1, r32)
  else
    some (c_m, c_saved, c_savedCount, s1, (0 : Int32))
set_option maxRecDepth 100000 in
set_option maxHeartbeats 4000000 in
theorem Rb_removePart_14 (C : Cx X G T cX10_removePart RX10 (some .int) 2 2 46) {x1 : Int32} {s1 : Int32} {o_m : Nat → Int64} {o_saved : Nat → Int64} {o_savedCount : Int32} {o_code : Int32} {r : Int32} (hret : RetOK X 0 0 (some (.int r)) (wR a T o_m o_saved o_savedCount c_script c_scriptLength o_code c_lineParts c_lengths c_fractions c_pulseMany c_times c_energies c_far c_near c_echoes c_left c_dropped c_merged c_drops c_contributions c_packet c_peelResult c_peelTime c_peelSum c_at c_commands c_draft c_hash)) (hf : Rf_removePart_14 c_m c_saved c_savedCount c_code x1 s1 = some (o_m, o_saved, o_savedCount, o_code, r)) : V X 0 0 (wR a T c_m c_saved c_savedCount c_script c_scriptLength c_code c_lineParts c_lengths c_fractions c_pulseMany c_times c_energies c_far c_near c_echoes c_left c_dropped c_merged c_drops c_contributions c_packet c_peelResult c_peelTime c_peelSum c_at c_commands c_draft c_hash) [(0, .ref (a 0)), (1, .int x1)] 14 [.int s1, .ref (a 0)] := by
  unfold Rf_removePart_14 at hf
  refine Rp_code C dX10_removePart_14 ?_
  refine v_aload_n 0 C dX10_removePart_17 rfl rfl ?_
  refine Rg_code C dX10_removePart_18 ?_
  refine v_if_eq 26 C dX10_removePart_21 (by decide) hf (fun c hf => ?_) (fun c hf => ?_)
  · refine v_aload_n 0 C dX10_removePart_26 rfl rfl ?_
    refine Rc_keep C dX10_removePart_27 (by decide) (Nat.le_of_ble_eq_true rfl) hf (fun saved_27 savedCount_27 hf => ?_)
    refine v_aload_n 0 C dX10_removePart_30 rfl rfl ?_
    refine v_iload_n 1 C dX10_removePart_31 rfl rfl ?_
    refine Rc_removesPart C dX10_removePart_32 (by decide) (Nat.le_of_ble_eq_true rfl) hf (fun m_32 r32 hf => ?_)
    cases hf
    exact v_iret C hret dX10_removePart_35
  · refine v_iconst (v := 0) C dX10_removePart_24 (by decide) ?_
    cases hf
    exact v_iret C hret dX10_removePart_25
def Rf_removePart (c_m : Nat → Int64) (c_saved : Nat → Int64) (c_savedCount : Int32) (c_code : Int32) (x1 : Int32) : Option ((Nat → Int64) × (Nat → Int64) × Int32 × Int32 × Int32) :=
  bd (Rf_isPart c_m x1) fun r3 =>
  if r3 = 0 then
    Rf_removePart_14 c_m c_saved c_savedCount c_code x1 (1 : Int32)
  else
    Rf_removePart_14 c_m c_saved c_savedCount c_code x1 (0 : Int32)
set_option maxRecDepth 100000 in
set_option maxHeartbeats 4000000 in
theorem Rb_removePart (C : Cx X G T cX10_removePart RX10 (some .int) 2 2 46) {x1 : Int32} {o_m : Nat → Int64} {o_saved : Nat → Int64} {o_savedCount : Int32} {o_code : Int32} {r : Int32} (hret : RetOK X 0 0 (some (.int r)) (wR a T o_m o_saved o_savedCount c_script c_scriptLength o_code c_lineParts c_lengths c_fractions c_pulseMany c_times c_energies c_far c_near c_echoes c_left c_dropped c_merged c_drops c_contributions c_packet c_peelResult c_peelTime c_peelSum c_at c_commands c_draft c_hash)) (hf : Rf_removePart c_m c_saved c_savedCount c_code x1 = some (o_m, o_saved, o_savedCount, o_code, r)) : V X 0 0 (wR a T c_m c_saved c_savedCount c_script c_scriptLength c_code c_lineParts c_lengths c_fractions c_pulseMany c_times c_energies c_far c_near c_echoes c_left c_dropped c_merged c_drops c_contributions c_packet c_peelResult c_peelTime c_peelSum c_at c_commands c_draft c_hash) [(0, .ref (a 0)), (1, .int x1)] 0 [] := by
  unfold Rf_removePart at hf
  refine v_aload_n 0 C dX10_removePart_0 rfl rfl ?_
  refine v_aload_n 0 C dX10_removePart_1 rfl rfl ?_
  refine v_iload_n 1 C dX10_removePart_2 rfl rfl ?_
  refine Rc_isPart C dX10_removePart_3 (by decide) (Nat.le_of_ble_eq_true rfl) hf (fun r3 hf => ?_)
  refine v_if_eq 13 C dX10_removePart_6 (by decide) hf (fun c hf => ?_) (fun c hf => ?_)
  · refine v_iconst (v := 1) C dX10_removePart_13 (by decide) ?_
    exact Rb_removePart_14 C hret hf
  · refine v_iconst (v := 0) C dX10_removePart_9 (by decide) ?_
    refine v_goto 14 C dX10_removePart_10 (by decide) ?_
    exact Rb_removePart_14 C hret hf
set_option maxRecDepth 100000 in
set_option maxHeartbeats 4000000 in
theorem Rm_removePart {D : va_G} {x1 : Int32} {o_m : Nat → Int64} {o_saved : Nat → Int64} {o_savedCount : Int32} {o_code : Int32} {r : Int32} (hf : Rf_removePart c_m c_saved c_savedCount c_code x1 = some (o_m, o_saved, o_savedCount, o_code, r)) : MetM G yX10_removePart cX10_removePart 2 (some .int) { frames := 2, cells := 0, slots := 0, locals := 46 } D T [.ref (a 0), .int x1] (wR a T c_m c_saved c_savedCount c_script c_scriptLength c_code c_lineParts c_lengths c_fractions c_pulseMany c_times c_energies c_far c_near c_echoes c_left c_dropped c_merged c_drops c_contributions c_packet c_peelResult c_peelTime c_peelSum c_at c_commands c_draft c_hash) (some (.int r)) (wR a T o_m o_saved o_savedCount c_script c_scriptLength o_code c_lineParts c_lengths c_fractions c_pulseMany c_times c_energies c_far c_near c_echoes c_left c_dropped c_merged c_drops c_contributions c_packet c_peelResult c_peelTime c_peelSum c_at c_commands c_draft c_hash) :=
  MetM.of [(0, .ref (a 0)), (1, .int x1)] (by decide) (Nat.le_of_ble_eq_true rfl) rfl (fun X C hret => Rb_removePart C hret hf)
def Rf_whyNotSplit_59 (s0 : Int32) : Option Int32 :=
  some s0
set_option maxRecDepth 100000 in
set_option maxHeartbeats 4000000 in
theorem Rb_whyNotSplit_59 (C : Cx X G T cX10_whyNotSplit RX10 (some .int) 4 2 46) {s0 : Int32} {r : Int32} (hret : RetOK X 0 0 (some (.int r)) (wR a T c_m c_saved c_savedCount c_script c_scriptLength c_code c_lineParts c_lengths c_fractions c_pulseMany c_times c_energies c_far c_near c_echoes c_left c_dropped c_merged c_drops c_contributions c_packet c_peelResult c_peelTime c_peelSum c_at c_commands c_draft c_hash)) (hf : Rf_whyNotSplit_59 s0 = some r) : V X 0 0 (wR a T c_m c_saved c_savedCount c_script c_scriptLength c_code c_lineParts c_lengths c_fractions c_pulseMany c_times c_energies c_far c_near c_echoes c_left c_dropped c_merged c_drops c_contributions c_packet c_peelResult c_peelTime c_peelSum c_at c_commands c_draft c_hash) [] 59 [.int s0] := by
  unfold Rf_whyNotSplit_59 at hf
  cases hf
  exact v_iret C hret dX10_whyNotSplit_59
def Rf_whyNotSplit_41  : Option Int32 :=
  Rf_whyNotSplit_59 (2 : Int32)
set_option maxRecDepth 100000 in
set_option maxHeartbeats 4000000 in
theorem Rb_whyNotSplit_41 (C : Cx X G T cX10_whyNotSplit RX10 (some .int) 4 2 46)  {r : Int32} (hret : RetOK X 0 0 (some (.int r)) (wR a T c_m c_saved c_savedCount c_script c_scriptLength c_code c_lineParts c_lengths c_fractions c_pulseMany c_times c_energies c_far c_near c_echoes c_left c_dropped c_merged c_drops c_contributions c_packet c_peelResult c_peelTime c_peelSum c_at c_commands c_draft c_hash)) (hf : Rf_whyNotSplit_41  = some r) : V X 0 0 (wR a T c_m c_saved c_savedCount c_script c_scriptLength c_code c_lineParts c_lengths c_fractions c_pulseMany c_times c_energies c_far c_near c_echoes c_left c_dropped c_merged c_drops c_contributions c_packet c_peelResult c_peelTime c_peelSum c_at c_commands c_draft c_hash) [] 41 [] := by
  unfold Rf_whyNotSplit_41 at hf
  refine v_iconst (v := 2) C dX10_whyNotSplit_41 (by decide) ?_
  refine v_goto 59 C dX10_whyNotSplit_42 (by decide) ?_
  exact Rb_whyNotSplit_59 C hret hf
def Rf_whyNotSplit (c_m : Nat → Int64) (x1 : Int32) (x2 : Int32) (x3 : Int32) : Option Int32 :=
  bd (Rf_isPart c_m x1) fun r2 =>
  if r2 = 0 then
    some (1 : Int32)
  else
    nm (x2.toInt64) fun z11 =>
    nm ((1 : Int32) + x1) fun z19 =>
    chk (inb z19 431) <| nm (c_m z19.toNatClampNeg) fun z20 =>
    nm (z20 - (1 : Int64)) fun z22 =>
    bd (Rf_in z11 (1 : Int64) z22) fun r23 =>
    if r23 = 0 then
      Rf_whyNotSplit_41 
    else
      nm (x3.toInt64) fun z30 =>
      bd (Rf_in z30 (0 : Int64) (1000 : Int64)) fun r35 =>
      if r35 = 0 then
        Rf_whyNotSplit_41 
      else
        bd (Rf_parts c_m) fun r46 =>
        if r46 = (8 : Int32) then
          Rf_whyNotSplit_59 (3 : Int32)
        else
          Rf_whyNotSplit_59 (0 : Int32)
set_option maxRecDepth 100000 in
set_option maxHeartbeats 4000000 in
theorem Rb_whyNotSplit (C : Cx X G T cX10_whyNotSplit RX10 (some .int) 4 2 46) {x1 : Int32} {x2 : Int32} {x3 : Int32} {r : Int32} (hret : RetOK X 0 0 (some (.int r)) (wR a T c_m c_saved c_savedCount c_script c_scriptLength c_code c_lineParts c_lengths c_fractions c_pulseMany c_times c_energies c_far c_near c_echoes c_left c_dropped c_merged c_drops c_contributions c_packet c_peelResult c_peelTime c_peelSum c_at c_commands c_draft c_hash)) (hf : Rf_whyNotSplit c_m x1 x2 x3 = some r) : V X 0 0 (wR a T c_m c_saved c_savedCount c_script c_scriptLength c_code c_lineParts c_lengths c_fractions c_pulseMany c_times c_energies c_far c_near c_echoes c_left c_dropped c_merged c_drops c_contributions c_packet c_peelResult c_peelTime c_peelSum c_at c_commands c_draft c_hash) [(0, .ref (a 0)), (1, .int x1), (2, .int x2), (3, .int x3)] 0 [] := by
  unfold Rf_whyNotSplit at hf
  refine v_aload_n 0 C dX10_whyNotSplit_0 rfl rfl ?_
  refine v_iload_n 1 C dX10_whyNotSplit_1 rfl rfl ?_
  refine Rc_isPart C dX10_whyNotSplit_2 (by decide) (Nat.le_of_ble_eq_true rfl) hf (fun r2 hf => ?_)
  refine v_if_ne 10 C dX10_whyNotSplit_5 (by decide) hf (fun c hf => ?_) (fun c hf => ?_)
  · refine v_iconst (v := 1) C dX10_whyNotSplit_8 (by decide) ?_
    cases hf
    exact v_iret C hret dX10_whyNotSplit_9
  · refine v_iload_n 2 C dX10_whyNotSplit_10 rfl rfl ?_
    refine v_i2l C dX10_whyNotSplit_11 hf (fun z11 hf => ?_)
    refine v_lconst (v := 1) C dX10_whyNotSplit_12 (by decide) ?_
    refine v_aload_n 0 C dX10_whyNotSplit_13 rfl rfl ?_
    refine Rg_m C dX10_whyNotSplit_14 ?_
    refine v_iconst (v := 1) C dX10_whyNotSplit_17 (by decide) ?_
    refine v_iload_n 1 C dX10_whyNotSplit_18 rfl rfl ?_
    refine v_iadd C dX10_whyNotSplit_19 hf (fun z19 hf => ?_)
    refine Ral_m C dX10_whyNotSplit_20 hf (fun z20 hf => ?_)
    refine v_lconst (v := 1) C dX10_whyNotSplit_21 (by decide) ?_
    refine v_lsub C dX10_whyNotSplit_22 hf (fun z22 hf => ?_)
    refine Rc_in C dX10_whyNotSplit_23 (by decide) (Nat.le_of_ble_eq_true rfl) hf (fun r23 hf => ?_)
    refine v_if_eq 41 C dX10_whyNotSplit_26 (by decide) hf (fun c hf => ?_) (fun c hf => ?_)
    · refine v_lv [] [] rfl ?_
      exact Rb_whyNotSplit_41 C hret hf
    · refine v_iload_n 3 C dX10_whyNotSplit_29 rfl rfl ?_
      refine v_i2l C dX10_whyNotSplit_30 hf (fun z30 hf => ?_)
      refine v_lconst (v := 0) C dX10_whyNotSplit_31 (by decide) ?_
      refine v_ldc2 (v := 1000) C wconstantLong_RX10_82_1000 dX10_whyNotSplit_32 ?_
      refine Rc_in C dX10_whyNotSplit_35 (by decide) (Nat.le_of_ble_eq_true rfl) hf (fun r35 hf => ?_)
      refine v_if_ne 45 C dX10_whyNotSplit_38 (by decide) hf (fun c hf => ?_) (fun c hf => ?_)
      · refine v_lv [] [] rfl ?_
        exact Rb_whyNotSplit_41 C hret hf
      · refine v_aload_n 0 C dX10_whyNotSplit_45 rfl rfl ?_
        refine Rc_parts C dX10_whyNotSplit_46 (by decide) (Nat.le_of_ble_eq_true rfl) hf (fun r46 hf => ?_)
        refine v_bipush (v := 8) C dX10_whyNotSplit_49 (by decide) ?_
        refine v_icmp_ne 58 C dX10_whyNotSplit_51 (by decide) hf (fun c hf => ?_) (fun c hf => ?_)
        · refine v_iconst (v := 3) C dX10_whyNotSplit_54 (by decide) ?_
          refine v_goto 59 C dX10_whyNotSplit_55 (by decide) ?_
          refine v_lv [] [] rfl ?_
          exact Rb_whyNotSplit_59 C hret hf
        · refine v_iconst (v := 0) C dX10_whyNotSplit_58 (by decide) ?_
          refine v_lv [] [] rfl ?_
          exact Rb_whyNotSplit_59 C hret hf
set_option maxRecDepth 100000 in
set_option maxHeartbeats 4000000 in
theorem Rm_whyNotSplit {D : va_G} {x1 : Int32} {x2 : Int32} {x3 : Int32} {r : Int32} (hf : Rf_whyNotSplit c_m x1 x2 x3 = some r) : MetM G yX10_whyNotSplit cX10_whyNotSplit 4 (some .int) { frames := 2, cells := 0, slots := 0, locals := 46 } D T [.ref (a 0), .int x1, .int x2, .int x3] (wR a T c_m c_saved c_savedCount c_script c_scriptLength c_code c_lineParts c_lengths c_fractions c_pulseMany c_times c_energies c_far c_near c_echoes c_left c_dropped c_merged c_drops c_contributions c_packet c_peelResult c_peelTime c_peelSum c_at c_commands c_draft c_hash) (some (.int r)) (wR a T c_m c_saved c_savedCount c_script c_scriptLength c_code c_lineParts c_lengths c_fractions c_pulseMany c_times c_energies c_far c_near c_echoes c_left c_dropped c_merged c_drops c_contributions c_packet c_peelResult c_peelTime c_peelSum c_at c_commands c_draft c_hash) :=
  MetM.of [(0, .ref (a 0)), (1, .int x1), (2, .int x2), (3, .int x3)] (by decide) (Nat.le_of_ble_eq_true rfl) rfl (fun X C hret => Rb_whyNotSplit C hret hf)
set_option maxRecDepth 100000 in
theorem Rc_whyNotSplit {x1 : Int32} {x2 : Int32} {x3 : Int32} {cc : ByteArray} {ret : Option FieldType} {nl fr lo pc : Nat} {lv : List (Nat × Value)} {rest : List Value} {β : Type} {K : Int32 → Option β} {oo : β} (C : Cx X G T cc RX10 ret nl fr lo) (hdg : decode cc pc = .ok (.invokevirtual 155, 3)) (hroom : 2 + 1 ≤ fr ∧ 8 + (4 + 11) + 46 ≤ lo) (hst : (rest.map fun v => v.category).sum ≤ 8) (hf : bd (Rf_whyNotSplit c_m x1 x2 x3) K = some oo) (kk : ∀ (r : Int32), K r = some oo → V X 0 0 (wR a T c_m c_saved c_savedCount c_script c_scriptLength c_code c_lineParts c_lengths c_fractions c_pulseMany c_times c_energies c_far c_near c_echoes c_left c_dropped c_merged c_drops c_contributions c_packet c_peelResult c_peelTime c_peelSum c_at c_commands c_draft c_hash) lv (pc + 3) (.int r :: rest)) : V X 0 0 (wR a T c_m c_saved c_savedCount c_script c_scriptLength c_code c_lineParts c_lengths c_fractions c_pulseMany c_times c_energies c_far c_near c_echoes c_left c_dropped c_merged c_drops c_contributions c_packet c_peelResult c_peelTime c_peelSum c_at c_commands c_draft c_hash) lv pc (.int x3 :: .int x2 :: .int x1 :: .ref (a 0) :: rest) := by
  obtain ⟨r, hc, hk⟩ := bd_some hf
  exact v_callV (As := [.int x1, .int x2, .int x3]) (rest := rest) (q0 := 0) 3 C (CapOK.z X) (fun D => Rm_whyNotSplit hc) (goodV wmethodLink_RX10_155_yX10_whyNotSplit winstanceMethod_yX10_whyNotSplit wselects_RX10_yX10_whyNotSplit_yX10_whyNotSplit winitialized_RX10 wcode_yX10_whyNotSplit_cX10_whyNotSplit_4_some_int) (by decide +kernel) hroom ⟨rfl, rfl⟩ rfl rfl rfl hst hdg (kk r hk)
def Rl_splitsPart_6 (x1 : Int32) (x2 : Int32) (x3 : Int32) : Nat → (Nat → Int64) → Int32 → Option (Nat → Int64)
  | 0, _, _ => none
  | n + 1, c_m, x4 =>
    if x4 ≤ x1 then
      some c_m
    else
      nm ((1 : Int32) + x4) fun z19 =>
      nm ((1 : Int32) + x4) fun z27 =>
      nm (z27 - (1 : Int32)) fun z29 =>
      chk (inb z29 431) <| nm (c_m z29.toNatClampNeg) fun z30 =>
      chk (inb z19 431) <| nm (vp_updL c_m z19.toNatClampNeg z30) fun m_31 =>
      nm ((9 : Int32) + x4) fun z40 =>
      nm ((9 : Int32) + x4) fun z49 =>
      nm (z49 - (1 : Int32)) fun z51 =>
      chk (inb z51 431) <| nm (m_31 z51.toNatClampNeg) fun z52 =>
      chk (inb z40 431) <| nm (vp_updL m_31 z40.toNatClampNeg z52) fun m_53 =>
      nm (x4 + (-1 : Int32)) fun x4_54 =>
      Rl_splitsPart_6 x1 x2 x3 n m_53 x4_54
set_option maxRecDepth 100000 in
set_option maxHeartbeats 4000000 in
theorem Rk_splitsPart_6 (C : Cx X G T cX10_splitsPart RX10 (some .int) 5 1 23) {x1 : Int32} {x2 : Int32} {x3 : Int32} {o_m : Nat → Int64} (hk : V X 0 0 (wR a T o_m c_saved c_savedCount c_script c_scriptLength c_code c_lineParts c_lengths c_fractions c_pulseMany c_times c_energies c_far c_near c_echoes c_left c_dropped c_merged c_drops c_contributions c_packet c_peelResult c_peelTime c_peelSum c_at c_commands c_draft c_hash) [(0, .ref (a 0)), (1, .int x1), (2, .int x2), (3, .int x3)] 60 []) : ∀ (n : Nat) (c_m : Nat → Int64) (x4 : Int32), Rl_splitsPart_6 x1 x2 x3 n c_m x4 = some o_m → V X 0 0 (wR a T c_m c_saved c_savedCount c_script c_scriptLength c_code c_lineParts c_lengths c_fractions c_pulseMany c_times c_energies c_far c_near c_echoes c_left c_dropped c_merged c_drops c_contributions c_packet c_peelResult c_peelTime c_peelSum c_at c_commands c_draft c_hash) [(0, .ref (a 0)), (1, .int x1), (2, .int x2), (3, .int x3), (4, .int x4)] 6 [] := by
  intro n
  induction n with
  | zero =>
    intro _ _ hf
    cases hf
  | succ n hrec =>
    intro c_m x4 hf
    rw [Rl_splitsPart_6] at hf
    refine v_iload 4 C dX10_splitsPart_6 rfl ?_
    refine v_iload_n 1 C dX10_splitsPart_8 rfl rfl ?_
    refine v_icmp_le 60 C dX10_splitsPart_9 (by decide) hf (fun c hf => ?_) (fun c hf => ?_)
    · refine v_lv [(0, .ref (a 0)), (1, .int x1), (2, .int x2), (3, .int x3)] [0, 1, 2, 3] rfl ?_
      cases hf
      exact hk
    · refine v_aload_n 0 C dX10_splitsPart_12 rfl rfl ?_
      refine Rg_m C dX10_splitsPart_13 ?_
      refine v_iconst (v := 1) C dX10_splitsPart_16 (by decide) ?_
      refine v_iload 4 C dX10_splitsPart_17 rfl ?_
      refine v_iadd C dX10_splitsPart_19 hf (fun z19 hf => ?_)
      refine v_aload_n 0 C dX10_splitsPart_20 rfl rfl ?_
      refine Rg_m C dX10_splitsPart_21 ?_
      refine v_iconst (v := 1) C dX10_splitsPart_24 (by decide) ?_
      refine v_iload 4 C dX10_splitsPart_25 rfl ?_
      refine v_iadd C dX10_splitsPart_27 hf (fun z27 hf => ?_)
      refine v_iconst (v := 1) C dX10_splitsPart_28 (by decide) ?_
      refine v_isub C dX10_splitsPart_29 hf (fun z29 hf => ?_)
      refine Ral_m C dX10_splitsPart_30 hf (fun z30 hf => ?_)
      refine Ras_m C dX10_splitsPart_31 hf (fun m_31 hf => ?_)
      refine v_aload_n 0 C dX10_splitsPart_32 rfl rfl ?_
      refine Rg_m C dX10_splitsPart_33 ?_
      refine v_bipush (v := 9) C dX10_splitsPart_36 (by decide) ?_
      refine v_iload 4 C dX10_splitsPart_38 rfl ?_
      refine v_iadd C dX10_splitsPart_40 hf (fun z40 hf => ?_)
      refine v_aload_n 0 C dX10_splitsPart_41 rfl rfl ?_
      refine Rg_m C dX10_splitsPart_42 ?_
      refine v_bipush (v := 9) C dX10_splitsPart_45 (by decide) ?_
      refine v_iload 4 C dX10_splitsPart_47 rfl ?_
      refine v_iadd C dX10_splitsPart_49 hf (fun z49 hf => ?_)
      refine v_iconst (v := 1) C dX10_splitsPart_50 (by decide) ?_
      refine v_isub C dX10_splitsPart_51 hf (fun z51 hf => ?_)
      refine Ral_m C dX10_splitsPart_52 hf (fun z52 hf => ?_)
      refine Ras_m C dX10_splitsPart_53 hf (fun m_53 hf => ?_)
      refine v_iinc (fun x4_54 => [(0, .ref (a 0)), (1, .int x1), (2, .int x2), (3, .int x3), (4, .int x4_54)]) [1, 2, 3, 4, 0] C dX10_splitsPart_54 (j := 4) rfl (dv := -1) (by decide) (by decide) (fun _ => rfl) hf (fun x4_54 hf => ?_)
      refine v_goto 6 C dX10_splitsPart_57 (by decide) ?_
      exact hrec _ _ hf
def Rf_splitsPart (c_m : Nat → Int64) (x1 : Int32) (x2 : Int32) (x3 : Int32) : Option ((Nat → Int64) × Int32) :=
  bd (Rf_parts c_m) fun r1 =>
  bd (Rl_splitsPart_6 x1 x2 x3 FUEL c_m r1) fun o_m_6 =>
  chk (inb (0 : Int32) 431) <| nm (o_m_6 (0 : Int32).toNatClampNeg) fun z66 =>
  nm (z66 + (1 : Int64)) fun z68 =>
  chk (inb (0 : Int32) 431) <| nm (vp_updL o_m_6 (0 : Int32).toNatClampNeg z68) fun m_69 =>
  nm ((1 : Int32) + x1) fun z76 =>
  nm (z76 + (1 : Int32)) fun z78 =>
  chk (inb z78 431) <| nm (m_69 z78.toNatClampNeg) fun z80 =>
  nm (x2.toInt64) fun z82 =>
  nm (z80 - z82) fun z83 =>
  chk (inb z78 431) <| nm (vp_updL m_69 z78.toNatClampNeg z83) fun m_84 =>
  bd (Rf_laysPart m_84 x1 x2 x3) fun m_89 =>
  bd (Rf_parts m_89) fun r93 =>
  some (m_89, r93)
set_option maxRecDepth 100000 in
set_option maxHeartbeats 4000000 in
theorem Rb_splitsPart (C : Cx X G T cX10_splitsPart RX10 (some .int) 5 1 23) {x1 : Int32} {x2 : Int32} {x3 : Int32} {o_m : Nat → Int64} {r : Int32} (hret : RetOK X 0 0 (some (.int r)) (wR a T o_m c_saved c_savedCount c_script c_scriptLength c_code c_lineParts c_lengths c_fractions c_pulseMany c_times c_energies c_far c_near c_echoes c_left c_dropped c_merged c_drops c_contributions c_packet c_peelResult c_peelTime c_peelSum c_at c_commands c_draft c_hash)) (hf : Rf_splitsPart c_m x1 x2 x3 = some (o_m, r)) : V X 0 0 (wR a T c_m c_saved c_savedCount c_script c_scriptLength c_code c_lineParts c_lengths c_fractions c_pulseMany c_times c_energies c_far c_near c_echoes c_left c_dropped c_merged c_drops c_contributions c_packet c_peelResult c_peelTime c_peelSum c_at c_commands c_draft c_hash) [(0, .ref (a 0)), (1, .int x1), (2, .int x2), (3, .int x3)] 0 [] := by
  unfold Rf_splitsPart at hf
  refine v_aload_n 0 C dX10_splitsPart_0 rfl rfl ?_
  refine Rc_parts C dX10_splitsPart_1 (by decide) (Nat.le_of_ble_eq_true rfl) hf (fun r1 hf => ?_)
  refine v_istore [(0, .ref (a 0)), (1, .int x1), (2, .int x2), (3, .int x3), (4, .int r1)] [1, 2, 3, 4, 0] C dX10_splitsPart_4 (by decide) rfl ?_
  obtain ⟨o_m_6, hc, hf⟩ := bd_some hf
  refine Rk_splitsPart_6 C ?_ _ _ _ hc
  refine v_aload_n 0 C dX10_splitsPart_60 rfl rfl ?_
  refine Rg_m C dX10_splitsPart_61 ?_
  refine v_iconst (v := 0) C dX10_splitsPart_64 (by decide) ?_
  refine v_dup2_11 C dX10_splitsPart_65 rfl rfl ?_
  refine Ral_m C dX10_splitsPart_66 hf (fun z66 hf => ?_)
  refine v_lconst (v := 1) C dX10_splitsPart_67 (by decide) ?_
  refine v_ladd C dX10_splitsPart_68 hf (fun z68 hf => ?_)
  refine Ras_m C dX10_splitsPart_69 hf (fun m_69 hf => ?_)
  refine v_aload_n 0 C dX10_splitsPart_70 rfl rfl ?_
  refine Rg_m C dX10_splitsPart_71 ?_
  refine v_iconst (v := 1) C dX10_splitsPart_74 (by decide) ?_
  refine v_iload_n 1 C dX10_splitsPart_75 rfl rfl ?_
  refine v_iadd C dX10_splitsPart_76 hf (fun z76 hf => ?_)
  refine v_iconst (v := 1) C dX10_splitsPart_77 (by decide) ?_
  refine v_iadd C dX10_splitsPart_78 hf (fun z78 hf => ?_)
  refine v_dup2_11 C dX10_splitsPart_79 rfl rfl ?_
  refine Ral_m C dX10_splitsPart_80 hf (fun z80 hf => ?_)
  refine v_iload_n 2 C dX10_splitsPart_81 rfl rfl ?_
  refine v_i2l C dX10_splitsPart_82 hf (fun z82 hf => ?_)
  refine v_lsub C dX10_splitsPart_83 hf (fun z83 hf => ?_)
  refine Ras_m C dX10_splitsPart_84 hf (fun m_84 hf => ?_)
  refine v_aload_n 0 C dX10_splitsPart_85 rfl rfl ?_
  refine v_iload_n 1 C dX10_splitsPart_86 rfl rfl ?_
  refine v_iload_n 2 C dX10_splitsPart_87 rfl rfl ?_
  refine v_iload_n 3 C dX10_splitsPart_88 rfl rfl ?_
  refine Rc_laysPart C dX10_splitsPart_89 (by decide) (Nat.le_of_ble_eq_true rfl) hf (fun m_89 hf => ?_)
  refine v_aload_n 0 C dX10_splitsPart_92 rfl rfl ?_
  refine Rc_parts C dX10_splitsPart_93 (by decide) (Nat.le_of_ble_eq_true rfl) hf (fun r93 hf => ?_)
  cases hf
  exact v_iret C hret dX10_splitsPart_96
set_option maxRecDepth 100000 in
set_option maxHeartbeats 4000000 in
theorem Rm_splitsPart {D : va_G} {x1 : Int32} {x2 : Int32} {x3 : Int32} {o_m : Nat → Int64} {r : Int32} (hf : Rf_splitsPart c_m x1 x2 x3 = some (o_m, r)) : MetM G yX10_splitsPart cX10_splitsPart 5 (some .int) { frames := 1, cells := 0, slots := 0, locals := 23 } D T [.ref (a 0), .int x1, .int x2, .int x3] (wR a T c_m c_saved c_savedCount c_script c_scriptLength c_code c_lineParts c_lengths c_fractions c_pulseMany c_times c_energies c_far c_near c_echoes c_left c_dropped c_merged c_drops c_contributions c_packet c_peelResult c_peelTime c_peelSum c_at c_commands c_draft c_hash) (some (.int r)) (wR a T o_m c_saved c_savedCount c_script c_scriptLength c_code c_lineParts c_lengths c_fractions c_pulseMany c_times c_energies c_far c_near c_echoes c_left c_dropped c_merged c_drops c_contributions c_packet c_peelResult c_peelTime c_peelSum c_at c_commands c_draft c_hash) :=
  MetM.of [(0, .ref (a 0)), (1, .int x1), (2, .int x2), (3, .int x3)] (by decide) (Nat.le_of_ble_eq_true rfl) rfl (fun X C hret => Rb_splitsPart C hret hf)
set_option maxRecDepth 100000 in
theorem Rc_splitsPart {x1 : Int32} {x2 : Int32} {x3 : Int32} {cc : ByteArray} {ret : Option FieldType} {nl fr lo pc : Nat} {lv : List (Nat × Value)} {rest : List Value} {β : Type} {K : ((Nat → Int64) × Int32) → Option β} {oo : β} (C : Cx X G T cc RX10 ret nl fr lo) (hdg : decode cc pc = .ok (.invokevirtual 158, 3)) (hroom : 1 + 1 ≤ fr ∧ 8 + (5 + 11) + 23 ≤ lo) (hst : (rest.map fun v => v.category).sum ≤ 8) (hf : bd (Rf_splitsPart c_m x1 x2 x3) K = some oo) (kk : ∀ (o_m : Nat → Int64) (r : Int32), K (o_m, r) = some oo → V X 0 0 (wR a T o_m c_saved c_savedCount c_script c_scriptLength c_code c_lineParts c_lengths c_fractions c_pulseMany c_times c_energies c_far c_near c_echoes c_left c_dropped c_merged c_drops c_contributions c_packet c_peelResult c_peelTime c_peelSum c_at c_commands c_draft c_hash) lv (pc + 3) (.int r :: rest)) : V X 0 0 (wR a T c_m c_saved c_savedCount c_script c_scriptLength c_code c_lineParts c_lengths c_fractions c_pulseMany c_times c_energies c_far c_near c_echoes c_left c_dropped c_merged c_drops c_contributions c_packet c_peelResult c_peelTime c_peelSum c_at c_commands c_draft c_hash) lv pc (.int x3 :: .int x2 :: .int x1 :: .ref (a 0) :: rest) := by
  obtain ⟨⟨o_m, r⟩, hc, hk⟩ := bd_some hf
  exact v_callV (As := [.int x1, .int x2, .int x3]) (rest := rest) (q0 := 0) 3 C (CapOK.z X) (fun D => Rm_splitsPart hc) (goodV wmethodLink_RX10_158_yX10_splitsPart winstanceMethod_yX10_splitsPart wselects_RX10_yX10_splitsPart_yX10_splitsPart winitialized_RX10 wcode_yX10_splitsPart_cX10_splitsPart_5_some_int) (by decide +kernel) hroom ⟨rfl, rfl⟩ rfl rfl rfl hst hdg (kk o_m r hk)
def Rf_splitPart (c_m : Nat → Int64) (c_saved : Nat → Int64) (c_savedCount : Int32) (c_code : Int32) (x1 : Int32) (x2 : Int32) (x3 : Int32) : Option ((Nat → Int64) × (Nat → Int64) × Int32 × Int32 × Int32) :=
  bd (Rf_whyNotSplit c_m x1 x2 x3) fun r5 =>
  if r5 = 0 then
    bd (Rf_keep c_m c_saved c_savedCount) fun (saved_21, savedCount_21) =>
    bd (Rf_splitsPart c_m x1 x2 x3) fun (m_28, r28) =>
    some (m_28, saved_21, savedCount_21, r5, r28)
  else
    some (c_m, c_saved, c_savedCount, r5, (0 : Int32))
set_option maxRecDepth 100000 in
set_option maxHeartbeats 4000000 in
theorem Rb_splitPart (C : Cx X G T cX10_splitPart RX10 (some .int) 4 3 69) {x1 : Int32} {x2 : Int32} {x3 : Int32} {o_m : Nat → Int64} {o_saved : Nat → Int64} {o_savedCount : Int32} {o_code : Int32} {r : Int32} (hret : RetOK X 0 0 (some (.int r)) (wR a T o_m o_saved o_savedCount c_script c_scriptLength o_code c_lineParts c_lengths c_fractions c_pulseMany c_times c_energies c_far c_near c_echoes c_left c_dropped c_merged c_drops c_contributions c_packet c_peelResult c_peelTime c_peelSum c_at c_commands c_draft c_hash)) (hf : Rf_splitPart c_m c_saved c_savedCount c_code x1 x2 x3 = some (o_m, o_saved, o_savedCount, o_code, r)) : V X 0 0 (wR a T c_m c_saved c_savedCount c_script c_scriptLength c_code c_lineParts c_lengths c_fractions c_pulseMany c_times c_energies c_far c_near c_echoes c_left c_dropped c_merged c_drops c_contributions c_packet c_peelResult c_peelTime c_peelSum c_at c_commands c_draft c_hash) [(0, .ref (a 0)), (1, .int x1), (2, .int x2), (3, .int x3)] 0 [] := by
  unfold Rf_splitPart at hf
  refine v_aload_n 0 C dX10_splitPart_0 rfl rfl ?_
  refine v_aload_n 0 C dX10_splitPart_1 rfl rfl ?_
  refine v_iload_n 1 C dX10_splitPart_2 rfl rfl ?_
  refine v_iload_n 2 C dX10_splitPart_3 rfl rfl ?_
  refine v_iload_n 3 C dX10_splitPart_4 rfl rfl ?_
  refine Rc_whyNotSplit C dX10_splitPart_5 (by decide) (Nat.le_of_ble_eq_true rfl) hf (fun r5 hf => ?_)
  refine Rp_code C dX10_splitPart_8 ?_
  refine v_aload_n 0 C dX10_splitPart_11 rfl rfl ?_
  refine Rg_code C dX10_splitPart_12 ?_
  refine v_if_eq 20 C dX10_splitPart_15 (by decide) hf (fun c hf => ?_) (fun c hf => ?_)
  · refine v_aload_n 0 C dX10_splitPart_20 rfl rfl ?_
    refine Rc_keep C dX10_splitPart_21 (by decide) (Nat.le_of_ble_eq_true rfl) hf (fun saved_21 savedCount_21 hf => ?_)
    refine v_aload_n 0 C dX10_splitPart_24 rfl rfl ?_
    refine v_iload_n 1 C dX10_splitPart_25 rfl rfl ?_
    refine v_iload_n 2 C dX10_splitPart_26 rfl rfl ?_
    refine v_iload_n 3 C dX10_splitPart_27 rfl rfl ?_
    refine Rc_splitsPart C dX10_splitPart_28 (by decide) (Nat.le_of_ble_eq_true rfl) hf (fun m_28 r28 hf => ?_)
    cases hf
    exact v_iret C hret dX10_splitPart_31
  · refine v_iconst (v := 0) C dX10_splitPart_18 (by decide) ?_
    cases hf
    exact v_iret C hret dX10_splitPart_19
set_option maxRecDepth 100000 in
set_option maxHeartbeats 4000000 in
theorem Rm_splitPart {D : va_G} {x1 : Int32} {x2 : Int32} {x3 : Int32} {o_m : Nat → Int64} {o_saved : Nat → Int64} {o_savedCount : Int32} {o_code : Int32} {r : Int32} (hf : Rf_splitPart c_m c_saved c_savedCount c_code x1 x2 x3 = some (o_m, o_saved, o_savedCount, o_code, r)) : MetM G yX10_splitPart cX10_splitPart 4 (some .int) { frames := 3, cells := 0, slots := 0, locals := 69 } D T [.ref (a 0), .int x1, .int x2, .int x3] (wR a T c_m c_saved c_savedCount c_script c_scriptLength c_code c_lineParts c_lengths c_fractions c_pulseMany c_times c_energies c_far c_near c_echoes c_left c_dropped c_merged c_drops c_contributions c_packet c_peelResult c_peelTime c_peelSum c_at c_commands c_draft c_hash) (some (.int r)) (wR a T o_m o_saved o_savedCount c_script c_scriptLength o_code c_lineParts c_lengths c_fractions c_pulseMany c_times c_energies c_far c_near c_echoes c_left c_dropped c_merged c_drops c_contributions c_packet c_peelResult c_peelTime c_peelSum c_at c_commands c_draft c_hash) :=
  MetM.of [(0, .ref (a 0)), (1, .int x1), (2, .int x2), (3, .int x3)] (by decide) (Nat.le_of_ble_eq_true rfl) rfl (fun X C hret => Rb_splitPart C hret hf)
def Rl_sumOfLengths_4 (c_m : Nat → Int64) : Nat → Int32 → Int32 → Option Int32
  | 0, _, _ => none
  | n + 1, x1, x2 =>
    bd (Rf_parts c_m) fun r6 =>
    if r6 ≤ x2 then
      some x1
    else
      nm ((1 : Int32) + x2) fun z19 =>
      chk (inb z19 431) <| nm (c_m z19.toNatClampNeg) fun z20 =>
      nm (z20.toInt32) fun z21 =>
      nm (x1 + z21) fun z22 =>
      nm (x2 + (1 : Int32)) fun x2_24 =>
      Rl_sumOfLengths_4 c_m n z22 x2_24
set_option maxRecDepth 100000 in
set_option maxHeartbeats 4000000 in
theorem Rk_sumOfLengths_4 (C : Cx X G T cX10_sumOfLengths RX10 (some .int) 3 1 20)  {y1 : Int32} (hk : V X 0 0 (wR a T c_m c_saved c_savedCount c_script c_scriptLength c_code c_lineParts c_lengths c_fractions c_pulseMany c_times c_energies c_far c_near c_echoes c_left c_dropped c_merged c_drops c_contributions c_packet c_peelResult c_peelTime c_peelSum c_at c_commands c_draft c_hash) [(1, .int y1)] 30 []) : ∀ (n : Nat) (x1 : Int32) (x2 : Int32), Rl_sumOfLengths_4 c_m n x1 x2 = some y1 → V X 0 0 (wR a T c_m c_saved c_savedCount c_script c_scriptLength c_code c_lineParts c_lengths c_fractions c_pulseMany c_times c_energies c_far c_near c_echoes c_left c_dropped c_merged c_drops c_contributions c_packet c_peelResult c_peelTime c_peelSum c_at c_commands c_draft c_hash) [(0, .ref (a 0)), (1, .int x1), (2, .int x2)] 4 [] := by
  intro n
  induction n with
  | zero =>
    intro _ _ hf
    cases hf
  | succ n hrec =>
    intro x1 x2 hf
    rw [Rl_sumOfLengths_4] at hf
    refine v_iload_n 2 C dX10_sumOfLengths_4 rfl rfl ?_
    refine v_aload_n 0 C dX10_sumOfLengths_5 rfl rfl ?_
    refine Rc_parts C dX10_sumOfLengths_6 (by decide) (Nat.le_of_ble_eq_true rfl) hf (fun r6 hf => ?_)
    refine v_icmp_ge 30 C dX10_sumOfLengths_9 (by decide) hf (fun c hf => ?_) (fun c hf => ?_)
    · refine v_lv [(1, .int x1)] [1] rfl ?_
      cases hf
      exact hk
    · refine v_iload_n 1 C dX10_sumOfLengths_12 rfl rfl ?_
      refine v_aload_n 0 C dX10_sumOfLengths_13 rfl rfl ?_
      refine Rg_m C dX10_sumOfLengths_14 ?_
      refine v_iconst (v := 1) C dX10_sumOfLengths_17 (by decide) ?_
      refine v_iload_n 2 C dX10_sumOfLengths_18 rfl rfl ?_
      refine v_iadd C dX10_sumOfLengths_19 hf (fun z19 hf => ?_)
      refine Ral_m C dX10_sumOfLengths_20 hf (fun z20 hf => ?_)
      refine v_l2i C dX10_sumOfLengths_21 hf (fun z21 hf => ?_)
      refine v_iadd C dX10_sumOfLengths_22 hf (fun z22 hf => ?_)
      refine v_istore_n [(0, .ref (a 0)), (1, .int z22), (2, .int x2)] [1, 0, 2] C dX10_sumOfLengths_23 rfl (by decide) rfl ?_
      refine v_iinc (fun x2_24 => [(0, .ref (a 0)), (1, .int z22), (2, .int x2_24)]) [1, 2, 0] C dX10_sumOfLengths_24 (j := 2) rfl (dv := 1) (by decide) (by decide) (fun _ => rfl) hf (fun x2_24 hf => ?_)
      refine v_goto 4 C dX10_sumOfLengths_27 (by decide) ?_
      exact hrec _ _ hf
def Rf_sumOfLengths (c_m : Nat → Int64) : Option Int32 :=
  bd (Rl_sumOfLengths_4 c_m FUEL (0 : Int32) (0 : Int32)) fun y1_4 =>
  some y1_4
set_option maxRecDepth 100000 in
set_option maxHeartbeats 4000000 in
theorem Rb_sumOfLengths (C : Cx X G T cX10_sumOfLengths RX10 (some .int) 3 1 20)  {r : Int32} (hret : RetOK X 0 0 (some (.int r)) (wR a T c_m c_saved c_savedCount c_script c_scriptLength c_code c_lineParts c_lengths c_fractions c_pulseMany c_times c_energies c_far c_near c_echoes c_left c_dropped c_merged c_drops c_contributions c_packet c_peelResult c_peelTime c_peelSum c_at c_commands c_draft c_hash)) (hf : Rf_sumOfLengths c_m = some r) : V X 0 0 (wR a T c_m c_saved c_savedCount c_script c_scriptLength c_code c_lineParts c_lengths c_fractions c_pulseMany c_times c_energies c_far c_near c_echoes c_left c_dropped c_merged c_drops c_contributions c_packet c_peelResult c_peelTime c_peelSum c_at c_commands c_draft c_hash) [(0, .ref (a 0))] 0 [] := by
  unfold Rf_sumOfLengths at hf
  refine v_iconst (v := 0) C dX10_sumOfLengths_0 (by decide) ?_
  refine v_istore_n [(0, .ref (a 0)), (1, .int (0 : Int32))] [1, 0] C dX10_sumOfLengths_1 rfl (by decide) rfl ?_
  refine v_iconst (v := 0) C dX10_sumOfLengths_2 (by decide) ?_
  refine v_istore_n [(0, .ref (a 0)), (1, .int (0 : Int32)), (2, .int (0 : Int32))] [1, 2, 0] C dX10_sumOfLengths_3 rfl (by decide) rfl ?_
  obtain ⟨y1_4, hc, hf⟩ := bd_some hf
  refine Rk_sumOfLengths_4 C ?_ _ _ _ hc
  refine v_iload_n 0 C dX10_sumOfLengths_30 rfl rfl ?_
  cases hf
  exact v_iret C hret dX10_sumOfLengths_31
set_option maxRecDepth 100000 in
set_option maxHeartbeats 4000000 in
theorem Rm_sumOfLengths {D : va_G}  {r : Int32} (hf : Rf_sumOfLengths c_m = some r) : MetM G yX10_sumOfLengths cX10_sumOfLengths 3 (some .int) { frames := 1, cells := 0, slots := 0, locals := 20 } D T [.ref (a 0)] (wR a T c_m c_saved c_savedCount c_script c_scriptLength c_code c_lineParts c_lengths c_fractions c_pulseMany c_times c_energies c_far c_near c_echoes c_left c_dropped c_merged c_drops c_contributions c_packet c_peelResult c_peelTime c_peelSum c_at c_commands c_draft c_hash) (some (.int r)) (wR a T c_m c_saved c_savedCount c_script c_scriptLength c_code c_lineParts c_lengths c_fractions c_pulseMany c_times c_energies c_far c_near c_echoes c_left c_dropped c_merged c_drops c_contributions c_packet c_peelResult c_peelTime c_peelSum c_at c_commands c_draft c_hash) :=
  MetM.of [(0, .ref (a 0))] (by decide) (Nat.le_of_ble_eq_true rfl) rfl (fun X C hret => Rb_sumOfLengths C hret hf)
set_option maxRecDepth 100000 in
theorem Rc_sumOfLengths  {cc : ByteArray} {ret : Option FieldType} {nl fr lo pc : Nat} {lv : List (Nat × Value)} {rest : List Value} {β : Type} {K : Int32 → Option β} {oo : β} (C : Cx X G T cc RX10 ret nl fr lo) (hdg : decode cc pc = .ok (.invokevirtual 164, 3)) (hroom : 1 + 1 ≤ fr ∧ 8 + (3 + 11) + 20 ≤ lo) (hst : (rest.map fun v => v.category).sum ≤ 8) (hf : bd (Rf_sumOfLengths c_m) K = some oo) (kk : ∀ (r : Int32), K r = some oo → V X 0 0 (wR a T c_m c_saved c_savedCount c_script c_scriptLength c_code c_lineParts c_lengths c_fractions c_pulseMany c_times c_energies c_far c_near c_echoes c_left c_dropped c_merged c_drops c_contributions c_packet c_peelResult c_peelTime c_peelSum c_at c_commands c_draft c_hash) lv (pc + 3) (.int r :: rest)) : V X 0 0 (wR a T c_m c_saved c_savedCount c_script c_scriptLength c_code c_lineParts c_lengths c_fractions c_pulseMany c_times c_energies c_far c_near c_echoes c_left c_dropped c_merged c_drops c_contributions c_packet c_peelResult c_peelTime c_peelSum c_at c_commands c_draft c_hash) lv pc (.ref (a 0) :: rest) := by
  obtain ⟨r, hc, hk⟩ := bd_some hf
  exact v_callV (As := []) (rest := rest) (q0 := 0) 0 C (CapOK.z X) (fun D => Rm_sumOfLengths hc) (goodV wmethodLink_RX10_164_yX10_sumOfLengths winstanceMethod_yX10_sumOfLengths wselects_RX10_yX10_sumOfLengths_yX10_sumOfLengths winitialized_RX10 wcode_yX10_sumOfLengths_cX10_sumOfLengths_3_some_int) (by decide +kernel) hroom ⟨rfl, rfl⟩ rfl rfl rfl hst hdg (kk r hk)
def Rf_exchange (c_m : Nat → Int64) (x1 : Int32) (x2 : Int32) : Option (Nat → Int64) :=
  chk (inb x1 431) <| nm (c_m x1.toNatClampNeg) fun z5 =>
  chk (inb x2 431) <| nm (c_m x2.toNatClampNeg) fun z17 =>
  chk (inb x1 431) <| nm (vp_updL c_m x1.toNatClampNeg z17) fun m_18 =>
  chk (inb x2 431) <| nm (vp_updL m_18 x2.toNatClampNeg z5) fun m_25 =>
  some m_25
set_option maxRecDepth 100000 in
set_option maxHeartbeats 4000000 in
theorem Rb_exchange (C : Cx X G T cX10_exchange RX10 none 5 0 0) {x1 : Int32} {x2 : Int32} {o_m : Nat → Int64} (hret : RetOK X 0 0 none (wR a T o_m c_saved c_savedCount c_script c_scriptLength c_code c_lineParts c_lengths c_fractions c_pulseMany c_times c_energies c_far c_near c_echoes c_left c_dropped c_merged c_drops c_contributions c_packet c_peelResult c_peelTime c_peelSum c_at c_commands c_draft c_hash)) (hf : Rf_exchange c_m x1 x2 = some o_m) : V X 0 0 (wR a T c_m c_saved c_savedCount c_script c_scriptLength c_code c_lineParts c_lengths c_fractions c_pulseMany c_times c_energies c_far c_near c_echoes c_left c_dropped c_merged c_drops c_contributions c_packet c_peelResult c_peelTime c_peelSum c_at c_commands c_draft c_hash) [(0, .ref (a 0)), (1, .int x1), (2, .int x2)] 0 [] := by
  unfold Rf_exchange at hf
  refine v_aload_n 0 C dX10_exchange_0 rfl rfl ?_
  refine Rg_m C dX10_exchange_1 ?_
  refine v_iload_n 1 C dX10_exchange_4 rfl rfl ?_
  refine Ral_m C dX10_exchange_5 hf (fun z5 hf => ?_)
  refine v_lstore_n [(0, .ref (a 0)), (1, .int x1), (2, .int x2), (3, .long z5)] [1, 2, 3, 0] C dX10_exchange_6 rfl (by decide) rfl ?_
  refine v_aload_n 0 C dX10_exchange_7 rfl rfl ?_
  refine Rg_m C dX10_exchange_8 ?_
  refine v_iload_n 1 C dX10_exchange_11 rfl rfl ?_
  refine v_aload_n 0 C dX10_exchange_12 rfl rfl ?_
  refine Rg_m C dX10_exchange_13 ?_
  refine v_iload_n 2 C dX10_exchange_16 rfl rfl ?_
  refine Ral_m C dX10_exchange_17 hf (fun z17 hf => ?_)
  refine Ras_m C dX10_exchange_18 hf (fun m_18 hf => ?_)
  refine v_aload_n 0 C dX10_exchange_19 rfl rfl ?_
  refine Rg_m C dX10_exchange_20 ?_
  refine v_iload_n 2 C dX10_exchange_23 rfl rfl ?_
  refine v_lload_n 3 C dX10_exchange_24 rfl rfl ?_
  refine Ras_m C dX10_exchange_25 hf (fun m_25 hf => ?_)
  cases hf
  exact v_vret C hret dX10_exchange_26
set_option maxRecDepth 100000 in
set_option maxHeartbeats 4000000 in
theorem Rm_exchange {D : va_G} {x1 : Int32} {x2 : Int32} {o_m : Nat → Int64} (hf : Rf_exchange c_m x1 x2 = some o_m) : MetM G yX10_exchange cX10_exchange 5 none { frames := 0, cells := 0, slots := 0, locals := 0 } D T [.ref (a 0), .int x1, .int x2] (wR a T c_m c_saved c_savedCount c_script c_scriptLength c_code c_lineParts c_lengths c_fractions c_pulseMany c_times c_energies c_far c_near c_echoes c_left c_dropped c_merged c_drops c_contributions c_packet c_peelResult c_peelTime c_peelSum c_at c_commands c_draft c_hash) none (wR a T o_m c_saved c_savedCount c_script c_scriptLength c_code c_lineParts c_lengths c_fractions c_pulseMany c_times c_energies c_far c_near c_echoes c_left c_dropped c_merged c_drops c_contributions c_packet c_peelResult c_peelTime c_peelSum c_at c_commands c_draft c_hash) :=
  MetM.of [(0, .ref (a 0)), (1, .int x1), (2, .int x2)] (by decide) (Nat.le_of_ble_eq_true rfl) rfl (fun X C hret => Rb_exchange C hret hf)
set_option maxRecDepth 100000 in
theorem Rc_exchange {x1 : Int32} {x2 : Int32} {cc : ByteArray} {ret : Option FieldType} {nl fr lo pc : Nat} {lv : List (Nat × Value)} {rest : List Value} {β : Type} {K : (Nat → Int64) → Option β} {oo : β} (C : Cx X G T cc RX10 ret nl fr lo) (hdg : decode cc pc = .ok (.invokevirtual 161, 3)) (hroom : 0 + 1 ≤ fr ∧ 8 + (5 + 11) + 0 ≤ lo) (hst : (rest.map fun v => v.category).sum ≤ 8) (hf : bd (Rf_exchange c_m x1 x2) K = some oo) (kk : ∀ (o_m : Nat → Int64), K o_m = some oo → V X 0 0 (wR a T o_m c_saved c_savedCount c_script c_scriptLength c_code c_lineParts c_lengths c_fractions c_pulseMany c_times c_energies c_far c_near c_echoes c_left c_dropped c_merged c_drops c_contributions c_packet c_peelResult c_peelTime c_peelSum c_at c_commands c_draft c_hash) lv (pc + 3) rest) : V X 0 0 (wR a T c_m c_saved c_savedCount c_script c_scriptLength c_code c_lineParts c_lengths c_fractions c_pulseMany c_times c_energies c_far c_near c_echoes c_left c_dropped c_merged c_drops c_contributions c_packet c_peelResult c_peelTime c_peelSum c_at c_commands c_draft c_hash) lv pc (.int x2 :: .int x1 :: .ref (a 0) :: rest) := by
  obtain ⟨o_m, hc, hk⟩ := bd_some hf
  exact v_callV (As := [.int x1, .int x2]) (rest := rest) (q0 := 0) 2 C (CapOK.z X) (fun D => Rm_exchange hc) (goodV wmethodLink_RX10_161_yX10_exchange winstanceMethod_yX10_exchange wselects_RX10_yX10_exchange_yX10_exchange winitialized_RX10 wcode_yX10_exchange_cX10_exchange_5_none) (by decide +kernel) hroom ⟨rfl, rfl⟩ rfl rfl rfl hst hdg (kk o_m hk)
def Rl_reverse_16 (x1 : Int32) : Nat → (Nat → Int64) → Int32 → Option (Nat → Int64)
  | 0, _, _ => none
  | n + 1, c_m, x2 =>
    nm ((2 : Int32) * x2) fun z18 =>
    nm (x1 - (1 : Int32)) fun z21 =>
    if z21 ≤ z18 then
      some c_m
    else
      nm ((1 : Int32) + x2) fun z28 =>
      nm ((1 : Int32) + x1) fun z31 =>
      nm (z31 - (1 : Int32)) fun z33 =>
      nm (z33 - x2) fun z35 =>
      bd (Rf_exchange c_m z28 z35) fun m_36 =>
      nm (x2 + (1 : Int32)) fun x2_39 =>
      Rl_reverse_16 x1 n m_36 x2_39
set_option maxRecDepth 100000 in
set_option maxHeartbeats 4000000 in
theorem Rk_reverse_16 (C : Cx X G T cX10_reverse RX10 (some .int) 3 2 42) {x1 : Int32} {o_m : Nat → Int64} (hk : V X 0 0 (wR a T o_m c_saved c_savedCount c_script c_scriptLength c_code c_lineParts c_lengths c_fractions c_pulseMany c_times c_energies c_far c_near c_echoes c_left c_dropped c_merged c_drops c_contributions c_packet c_peelResult c_peelTime c_peelSum c_at c_commands c_draft c_hash) [(0, .ref (a 0)), (1, .int x1)] 45 []) : ∀ (n : Nat) (c_m : Nat → Int64) (x2 : Int32), Rl_reverse_16 x1 n c_m x2 = some o_m → V X 0 0 (wR a T c_m c_saved c_savedCount c_script c_scriptLength c_code c_lineParts c_lengths c_fractions c_pulseMany c_times c_energies c_far c_near c_echoes c_left c_dropped c_merged c_drops c_contributions c_packet c_peelResult c_peelTime c_peelSum c_at c_commands c_draft c_hash) [(0, .ref (a 0)), (1, .int x1), (2, .int x2)] 16 [] := by
  intro n
  induction n with
  | zero =>
    intro _ _ hf
    cases hf
  | succ n hrec =>
    intro c_m x2 hf
    rw [Rl_reverse_16] at hf
    refine v_iconst (v := 2) C dX10_reverse_16 (by decide) ?_
    refine v_iload_n 2 C dX10_reverse_17 rfl rfl ?_
    refine v_imul C dX10_reverse_18 hf (fun z18 hf => ?_)
    refine v_iload_n 1 C dX10_reverse_19 rfl rfl ?_
    refine v_iconst (v := 1) C dX10_reverse_20 (by decide) ?_
    refine v_isub C dX10_reverse_21 hf (fun z21 hf => ?_)
    refine v_icmp_ge 45 C dX10_reverse_22 (by decide) hf (fun c hf => ?_) (fun c hf => ?_)
    · refine v_lv [(0, .ref (a 0)), (1, .int x1)] [0, 1] rfl ?_
      cases hf
      exact hk
    · refine v_aload_n 0 C dX10_reverse_25 rfl rfl ?_
      refine v_iconst (v := 1) C dX10_reverse_26 (by decide) ?_
      refine v_iload_n 2 C dX10_reverse_27 rfl rfl ?_
      refine v_iadd C dX10_reverse_28 hf (fun z28 hf => ?_)
      refine v_iconst (v := 1) C dX10_reverse_29 (by decide) ?_
      refine v_iload_n 1 C dX10_reverse_30 rfl rfl ?_
      refine v_iadd C dX10_reverse_31 hf (fun z31 hf => ?_)
      refine v_iconst (v := 1) C dX10_reverse_32 (by decide) ?_
      refine v_isub C dX10_reverse_33 hf (fun z33 hf => ?_)
      refine v_iload_n 2 C dX10_reverse_34 rfl rfl ?_
      refine v_isub C dX10_reverse_35 hf (fun z35 hf => ?_)
      refine Rc_exchange C dX10_reverse_36 (by decide) (Nat.le_of_ble_eq_true rfl) hf (fun m_36 hf => ?_)
      refine v_iinc (fun x2_39 => [(0, .ref (a 0)), (1, .int x1), (2, .int x2_39)]) [1, 2, 0] C dX10_reverse_39 (j := 2) rfl (dv := 1) (by decide) (by decide) (fun _ => rfl) hf (fun x2_39 hf => ?_)
      refine v_goto 16 C dX10_reverse_42 (by decide) ?_
      exact hrec _ _ hf
def Rl_reverse_47 (x1 : Int32) : Nat → (Nat → Int64) → Int32 → Option (Nat → Int64)
  | 0, _, _ => none
  | n + 1, c_m, x2 =>
    nm ((2 : Int32) * x2) fun z49 =>
    nm (x1 - (2 : Int32)) fun z52 =>
    if z52 ≤ z49 then
      some c_m
    else
      nm ((9 : Int32) + x2) fun z60 =>
      nm ((9 : Int32) + x1) fun z64 =>
      nm (z64 - (2 : Int32)) fun z66 =>
      nm (z66 - x2) fun z68 =>
      bd (Rf_exchange c_m z60 z68) fun m_69 =>
      nm (x2 + (1 : Int32)) fun x2_72 =>
      Rl_reverse_47 x1 n m_69 x2_72
set_option maxRecDepth 100000 in
set_option maxHeartbeats 4000000 in
theorem Rk_reverse_47 (C : Cx X G T cX10_reverse RX10 (some .int) 3 2 42) {x1 : Int32} {o_m : Nat → Int64} (hk : V X 0 0 (wR a T o_m c_saved c_savedCount c_script c_scriptLength c_code c_lineParts c_lengths c_fractions c_pulseMany c_times c_energies c_far c_near c_echoes c_left c_dropped c_merged c_drops c_contributions c_packet c_peelResult c_peelTime c_peelSum c_at c_commands c_draft c_hash) [(0, .ref (a 0))] 78 []) : ∀ (n : Nat) (c_m : Nat → Int64) (x2 : Int32), Rl_reverse_47 x1 n c_m x2 = some o_m → V X 0 0 (wR a T c_m c_saved c_savedCount c_script c_scriptLength c_code c_lineParts c_lengths c_fractions c_pulseMany c_times c_energies c_far c_near c_echoes c_left c_dropped c_merged c_drops c_contributions c_packet c_peelResult c_peelTime c_peelSum c_at c_commands c_draft c_hash) [(0, .ref (a 0)), (1, .int x1), (2, .int x2)] 47 [] := by
  intro n
  induction n with
  | zero =>
    intro _ _ hf
    cases hf
  | succ n hrec =>
    intro c_m x2 hf
    rw [Rl_reverse_47] at hf
    refine v_iconst (v := 2) C dX10_reverse_47 (by decide) ?_
    refine v_iload_n 2 C dX10_reverse_48 rfl rfl ?_
    refine v_imul C dX10_reverse_49 hf (fun z49 hf => ?_)
    refine v_iload_n 1 C dX10_reverse_50 rfl rfl ?_
    refine v_iconst (v := 2) C dX10_reverse_51 (by decide) ?_
    refine v_isub C dX10_reverse_52 hf (fun z52 hf => ?_)
    refine v_icmp_ge 78 C dX10_reverse_53 (by decide) hf (fun c hf => ?_) (fun c hf => ?_)
    · refine v_lv [(0, .ref (a 0))] [0] rfl ?_
      cases hf
      exact hk
    · refine v_aload_n 0 C dX10_reverse_56 rfl rfl ?_
      refine v_bipush (v := 9) C dX10_reverse_57 (by decide) ?_
      refine v_iload_n 2 C dX10_reverse_59 rfl rfl ?_
      refine v_iadd C dX10_reverse_60 hf (fun z60 hf => ?_)
      refine v_bipush (v := 9) C dX10_reverse_61 (by decide) ?_
      refine v_iload_n 1 C dX10_reverse_63 rfl rfl ?_
      refine v_iadd C dX10_reverse_64 hf (fun z64 hf => ?_)
      refine v_iconst (v := 2) C dX10_reverse_65 (by decide) ?_
      refine v_isub C dX10_reverse_66 hf (fun z66 hf => ?_)
      refine v_iload_n 2 C dX10_reverse_67 rfl rfl ?_
      refine v_isub C dX10_reverse_68 hf (fun z68 hf => ?_)
      refine Rc_exchange C dX10_reverse_69 (by decide) (Nat.le_of_ble_eq_true rfl) hf (fun m_69 hf => ?_)
      refine v_iinc (fun x2_72 => [(0, .ref (a 0)), (1, .int x1), (2, .int x2_72)]) [1, 2, 0] C dX10_reverse_72 (j := 2) rfl (dv := 1) (by decide) (by decide) (fun _ => rfl) hf (fun x2_72 hf => ?_)
      refine v_goto 47 C dX10_reverse_75 (by decide) ?_
      exact hrec _ _ hf
def Rf_reverse (c_m : Nat → Int64) (c_saved : Nat → Int64) (c_savedCount : Int32) (c_code : Int32) : Option ((Nat → Int64) × (Nat → Int64) × Int32 × Int32 × Int32) :=
  bd (Rf_keep c_m c_saved c_savedCount) fun (saved_6, savedCount_6) =>
  bd (Rf_parts c_m) fun r10 =>
  bd (Rl_reverse_16 r10 FUEL c_m (0 : Int32)) fun o_m_16 =>
  bd (Rl_reverse_47 r10 FUEL o_m_16 (0 : Int32)) fun o_m_47 =>
  bd (Rf_sumOfLengths o_m_47) fun r79 =>
  some (o_m_47, saved_6, savedCount_6, (0 : Int32), r79)
set_option maxRecDepth 100000 in
set_option maxHeartbeats 4000000 in
theorem Rb_reverse (C : Cx X G T cX10_reverse RX10 (some .int) 3 2 42)  {o_m : Nat → Int64} {o_saved : Nat → Int64} {o_savedCount : Int32} {o_code : Int32} {r : Int32} (hret : RetOK X 0 0 (some (.int r)) (wR a T o_m o_saved o_savedCount c_script c_scriptLength o_code c_lineParts c_lengths c_fractions c_pulseMany c_times c_energies c_far c_near c_echoes c_left c_dropped c_merged c_drops c_contributions c_packet c_peelResult c_peelTime c_peelSum c_at c_commands c_draft c_hash)) (hf : Rf_reverse c_m c_saved c_savedCount c_code = some (o_m, o_saved, o_savedCount, o_code, r)) : V X 0 0 (wR a T c_m c_saved c_savedCount c_script c_scriptLength c_code c_lineParts c_lengths c_fractions c_pulseMany c_times c_energies c_far c_near c_echoes c_left c_dropped c_merged c_drops c_contributions c_packet c_peelResult c_peelTime c_peelSum c_at c_commands c_draft c_hash) [(0, .ref (a 0))] 0 [] := by
  unfold Rf_reverse at hf
  refine v_aload_n 0 C dX10_reverse_0 rfl rfl ?_
  refine v_iconst (v := 0) C dX10_reverse_1 (by decide) ?_
  refine Rp_code C dX10_reverse_2 ?_
  refine v_aload_n 0 C dX10_reverse_5 rfl rfl ?_
  refine Rc_keep C dX10_reverse_6 (by decide) (Nat.le_of_ble_eq_true rfl) hf (fun saved_6 savedCount_6 hf => ?_)
  refine v_aload_n 0 C dX10_reverse_9 rfl rfl ?_
  refine Rc_parts C dX10_reverse_10 (by decide) (Nat.le_of_ble_eq_true rfl) hf (fun r10 hf => ?_)
  refine v_istore_n [(0, .ref (a 0)), (1, .int r10)] [1, 0] C dX10_reverse_13 rfl (by decide) rfl ?_
  refine v_iconst (v := 0) C dX10_reverse_14 (by decide) ?_
  refine v_istore_n [(0, .ref (a 0)), (1, .int r10), (2, .int (0 : Int32))] [1, 2, 0] C dX10_reverse_15 rfl (by decide) rfl ?_
  obtain ⟨o_m_16, hc, hf⟩ := bd_some hf
  refine Rk_reverse_16 C ?_ _ _ _ hc
  refine v_iconst (v := 0) C dX10_reverse_45 (by decide) ?_
  refine v_istore_n [(0, .ref (a 0)), (1, .int r10), (2, .int (0 : Int32))] [1, 2, 0] C dX10_reverse_46 rfl (by decide) rfl ?_
  obtain ⟨o_m_47, hc, hf⟩ := bd_some hf
  refine Rk_reverse_47 C ?_ _ _ _ hc
  refine v_aload_n 0 C dX10_reverse_78 rfl rfl ?_
  refine Rc_sumOfLengths C dX10_reverse_79 (by decide) (Nat.le_of_ble_eq_true rfl) hf (fun r79 hf => ?_)
  cases hf
  exact v_iret C hret dX10_reverse_82
set_option maxRecDepth 100000 in
set_option maxHeartbeats 4000000 in
theorem Rm_reverse {D : va_G}  {o_m : Nat → Int64} {o_saved : Nat → Int64} {o_savedCount : Int32} {o_code : Int32} {r : Int32} (hf : Rf_reverse c_m c_saved c_savedCount c_code = some (o_m, o_saved, o_savedCount, o_code, r)) : MetM G yX10_reverse cX10_reverse 3 (some .int) { frames := 2, cells := 0, slots := 0, locals := 42 } D T [.ref (a 0)] (wR a T c_m c_saved c_savedCount c_script c_scriptLength c_code c_lineParts c_lengths c_fractions c_pulseMany c_times c_energies c_far c_near c_echoes c_left c_dropped c_merged c_drops c_contributions c_packet c_peelResult c_peelTime c_peelSum c_at c_commands c_draft c_hash) (some (.int r)) (wR a T o_m o_saved o_savedCount c_script c_scriptLength o_code c_lineParts c_lengths c_fractions c_pulseMany c_times c_energies c_far c_near c_echoes c_left c_dropped c_merged c_drops c_contributions c_packet c_peelResult c_peelTime c_peelSum c_at c_commands c_draft c_hash) :=
  MetM.of [(0, .ref (a 0))] (by decide) (Nat.le_of_ble_eq_true rfl) rfl (fun X C hret => Rb_reverse C hret hf)
end RM1
