/-! THE CLASS: what stands in the heap from the start -/
def exN : Nat → String
  | 0 => "java/lang/IndexOutOfBoundsException"
  | 1 => "java/lang/IllegalArgumentException"
  | _ => "java/lang/IllegalStateException"
/-- a callee that may throw: the throw goes on -/
def bx {α β : Type} (a : Option (Nat ⊕ α)) (k : α → Option (Nat ⊕ β)) : Option (Nat ⊕ β) := match a with
  | none => none
  | some (.inl e) => some (.inl e)
  | some (.inr x) => k x
theorem bx_some {α β : Type} {a : Option (Nat ⊕ α)} {k : α → Option (Nat ⊕ β)} {o : Nat ⊕ β} (h : bx a k = some o) : (∃ e, a = some (.inl e) ∧ o = .inl e) ∨ ∃ x, a = some (.inr x) ∧ k x = some o := by
  unfold bx at h
  split at h
  · cases h
  · cases h
    exact Or.inl ⟨_, rfl, rfl⟩
  · exact Or.inr ⟨_, rfl, h⟩
def cmdNm : List String := ["PART", "SET", "CUT", "SPLIT", "PULSE", "SOUND", "LOOK", "ADOPT"]
def verNm : List String := ["FINE", "NO_SUCH_NUMBER", "OUT_OF_RANGE", "NO_ROOM"]
def cmdF : List (String × String × String × List Int32) := [("java/lang/Enum", "ordinal", "I", [0, 1, 2, 3, 4, 5, 6, 7]), ("LineEchoes$Command", "numberCount", "I", [2, 3, 1, 3, 2, 0, 0, 0])]
def verF : List (String × String × String × List Int32) := [("java/lang/Enum", "ordinal", "I", [0, 1, 2, 3])]
def cmdN (i : Nat) : Int32 := ([2, 3, 1, 3, 2, 0, 0, 0] : List Int32).getD i 0
def msgs : List (Nat × String) := [(376, "an argument is out of range"), (368, "there is no such number"), (382, "there is no room for more"), (125, "it is the only pulse"), (388, "an argument is negative"), (227, "the script is full"), (259, "no state is saved")]
/-- E 0: the commands, E 1: the verdicts, E 2 0: the switch table, E 3: texts of messages by their pool places -/
def SFN (U : State) : Prop := va_Nw (.methodLinkNest "LineEchoes$Bench" 54 yX9_isWithin "LineEchoes") U ∧ va_Nw (.methodLinkNest "LineEchoes$Wave" 78 yX9_turnedBack "LineEchoes") U ∧ va_Nw (.methodLinkNest "LineEchoes$Peeling" 90 yX9_firstUnequal "LineEchoes") U ∧ va_Nw (.methodLinkNest "LineEchoes$Peeling" 113 yX9_turnedBack "LineEchoes") U
def SFG (E : Nat → Nat → Nat) : SG := fun A U H =>
  va_En "LineEchoes$Command" "LLineEchoes$Command;" cmdNm cmdF (E 0) A U H ∧ va_En "LineEchoes$Verdict" "LLineEchoes$Verdict;" verNm verF (E 1) A U H ∧ va_Z "LineEchoes$1" "$SwitchMap$LineEchoes$Command" "[I" (.ref (E 2 0)) A U H ∧ va_T .int (E 2 0) 8 (fun j => .int (nI (j + 1))) A U H ∧
  vx_Zq Bundle.tN "UNASSIGNED_STACK" Bundle.steD A U H ∧ vx_Zq Bundle.tN "SUPPRESSED_SENTINEL" Bundle.listD A U H ∧ SFN U ∧ ∀ q ∈ msgs, vk_R "LineEchoes" q.1 q.2 (E 3 q.1) U
theorem SFG.stat (E : Nat → Nat → Nat) : Stat (SFG E) := by
  refine ⟨fun A u U H hW h => ?_, fun A U H H1 h hq => ?_, fun A B U H h hAB => ?_⟩
  · obtain ⟨h1, h2, h3, h4, h5, h6, h8, h7⟩ := h
    exact ⟨h1.moved hW.alike, h2.moved hW.alike, h3.moved hW.alike, h4.moved hW.alike, h5.moved hW.alike, h6.moved hW.alike, ⟨h8.1.warmM hW, h8.2.1.warmM hW, h8.2.2.1.warmM hW, h8.2.2.2.warmM hW⟩, fun q hq => (h7 q hq).warm hW⟩
  · obtain ⟨h1, h2, h3, h4, h5, h6, h8, h7⟩ := h
    exact ⟨h1.kept hq, h2.kept hq, h3.kept hq, h4.kept hq, h5.kept hq, h6.kept hq, h8, h7⟩
  · obtain ⟨h1, h2, h3, h4, h5, h6, h8, h7⟩ := h
    exact ⟨h1.narrow hAB, h2.narrow hAB, h3.narrow hAB, h4.narrow hAB, h5.narrow hAB, h6.narrow hAB, h8, h7⟩
theorem nest0 {E : Nat → Nat → Nat} : ∀ (A : Nat → Prop) (U : State) (H : Heap), SFG E A U H → va_Nw (.methodLinkNest RX1 54 yX9_isWithin "LineEchoes") U := fun _ _ _ h => h.2.2.2.2.2.2.1.1
theorem nest1 {E : Nat → Nat → Nat} : ∀ (A : Nat → Prop) (U : State) (H : Heap), SFG E A U H → va_Nw (.methodLinkNest RX8 78 yX9_turnedBack "LineEchoes") U := fun _ _ _ h => h.2.2.2.2.2.2.1.2.1
theorem nest2 {E : Nat → Nat → Nat} : ∀ (A : Nat → Prop) (U : State) (H : Heap), SFG E A U H → va_Nw (.methodLinkNest RX4 90 yX9_firstUnequal "LineEchoes") U := fun _ _ _ h => h.2.2.2.2.2.2.1.2.2.1
theorem nest3 {E : Nat → Nat → Nat} : ∀ (A : Nat → Prop) (U : State) (H : Heap), SFG E A U H → va_Nw (.methodLinkNest RX4 113 yX9_turnedBack "LineEchoes") U := fun _ _ _ h => h.2.2.2.2.2.2.1.2.2.2
theorem fit_z {v : Int32} (h : v = 0 ∨ v = 1) : fits .boolean (.int v) = true := by
  rcases h with rfl | rfl <;> rfl
theorem lt9 {i : Nat} (h : i < 9) : i = 0 ∨ i = 1 ∨ i = 2 ∨ i = 3 ∨ i = 4 ∨ i = 5 ∨ i = 6 ∨ i = 7 ∨ i = 8 := by omega
theorem inb_nat {j : Int32} {n : Nat} (h : inb j n) : ∃ i : Nat, i < n ∧ j.toNatClampNeg = i ∧ j.toInt = (i : Int) := by
  refine ⟨j.toNatClampNeg, ?_, rfl, ?_⟩
  · have := h.1; have := h.2
    have e : j.toNatClampNeg = j.toInt.toNat := rfl
    omega
  · have e : j.toNatClampNeg = j.toInt.toNat := rfl
    have := h.1
    omega
theorem inb_lt {j : Int32} {n : Nat} (h : inb j n) : j.toNatClampNeg < n := by
  obtain ⟨i, h1, h2, -⟩ := inb_nat h
  omega
/-- the saved states by their places; the rows of a grid -/
def hst (a : Nat → Nat) (p : Nat → Nat) : Nat → Option Nat := fun j => some (a (11 + 8 * p j))
def rws (a : Nat → Nat) (f : Nat) : Nat → Option Nat := fun i => if i < 9 then some (a (f + i)) else none
theorem rws_ref {a : Nat → Nat} {f : Nat} {i : Int32} (h : inb i 9) : va_rf (rws a f i.toNatClampNeg) = .ref (a (f + i.toNatClampNeg)) := by
  simp [rws, va_rf, inb_lt h]
theorem hst_up {a p : Nat → Nat} {i v : Nat} : va_up (hst a p) i (some (a (11 + 8 * v))) = hst a (va_up p i v) := by
  funext j
  simp only [va_up, hst]
  split <;> rfl
set_option maxRecDepth 20000 in
theorem inG1 : ∀ w ∈ wsX10, w ∈ wsG := fun w h => mG ((goodIn_r wsX10 [162, 164, 166, 168, 170, 172, 174, 176, 178] (by decide +kernel) (by decide +kernel) w h).1) (List.all_eq_true.mp (show wsX10.all goodWord = true by decide +kernel) w h)
set_option maxRecDepth 20000 in
theorem inG3 : ∀ w ∈ wsX30, w ∈ wsG := fun w h => mG ((goodIn_r wsX30 [210, 212] (by decide +kernel) (by decide +kernel) w h).1) (List.all_eq_true.mp (show wsX30.all goodWord = true by decide +kernel) w h)
set_option maxRecDepth 20000 in
theorem inG4 : ∀ w ∈ wsX40, w ∈ wsG := fun w h => mG ((goodIn_r wsX40 [290, 292, 294, 296] (by decide +kernel) (by decide +kernel) w h).1) (List.all_eq_true.mp (show wsX40.all goodWord = true by decide +kernel) w h)
set_option maxRecDepth 20000 in
theorem inG5 : ∀ w ∈ wsX50, w ∈ wsG := fun w h => mG ((goodIn_r wsX50 [232, 234, 236, 238, 240, 242] (by decide +kernel) (by decide +kernel) w h).1) (List.all_eq_true.mp (show wsX50.all goodWord = true by decide +kernel) w h)
set_option maxRecDepth 20000 in
theorem inG6 : ∀ w ∈ wsX60, w ∈ wsG := fun w h => mG ((goodIn_r wsX60 [190, 192, 194] (by decide +kernel) (by decide +kernel) w h).1) (List.all_eq_true.mp (show wsX60.all goodWord = true by decide +kernel) w h)
set_option maxRecDepth 20000 in
theorem inG8 : ∀ w ∈ wsX80, w ∈ wsG := fun w h => mG ((goodIn_r wsX80 [264, 266, 268, 270] (by decide +kernel) (by decide +kernel) w h).1) (List.all_eq_true.mp (show wsX80.all goodWord = true by decide +kernel) w h)
set_option maxRecDepth 20000 in
theorem inG9 : ∀ w ∈ wsX90, w ∈ wsG := fun w h => mG ((goodIn_r wsX90 [306, 308, 310, 312, 314, 316, 318] (by decide +kernel) (by decide +kernel) w h).1) (List.all_eq_true.mp (show wsX90.all goodWord = true by decide +kernel) w h)
theorem wNatCopy : Cond.native arraycopyName ∈ wsG := mG (seg2 (List.mem_of_getElem? (i := 28) rfl)) rfl
theorem wStatCopy : Cond.static arraycopyName ∈ wsG := mG (seg2 (List.mem_of_getElem? (i := 27) rfl)) rfl
theorem wIniSystem : Cond.initialized "java/lang/System" ∈ wsG := mG (seg1 (List.mem_of_getElem? (i := 19) rfl)) rfl
theorem wIniMath : Cond.initialized "java/lang/Math" ∈ wsG := mG (seg1 (List.mem_of_getElem? (i := 21) rfl)) rfl
theorem wStatMax : Cond.static Lib.MathLoose.max_long.x ∈ wsG := mG (seg2 (List.mem_of_getElem? (i := 115) rfl)) rfl
theorem wCodeMax : Cond.code Lib.MathLoose.max_long.x Lib.MathLoose.max_long.code 4 (some .long) ∈ wsG := mG (seg2 (List.mem_of_getElem? (i := 116) rfl)) rfl
theorem wStatMin : Cond.static Lib.Math.min.name ∈ wsG := mG (seg3 (List.mem_of_getElem? (i := 220) rfl)) rfl
theorem wCodeMin : Cond.code Lib.Math.min.name Lib.Math.min.code 2 (some .int) ∈ wsG := mG (seg3 (List.mem_of_getElem? (i := 221) rfl)) rfl
/-- THE CLASS'S WORLD -/
abbrev wL (E : Nat → Nat → Nat) (a : Nat → Nat) (T : Nat → ClassId) (c_waveIsFresh : Int32) (c_peelingIsFresh : Int32) (c_n_count : Int32) (c_n_front : Int32) (c_n_least : Int32) (c_n_window : Int32) (c_n_pulses : Int32) (c_n_lengths : Nat → Int32) (c_n_fractions : Nat → Int32) (c_n_pulseTimes : Nat → Int32) (c_n_pulseEnergies : Nat → Int32) (c_n_sound : Nat → Int64) (c_n_seen : Nat → Int64) (c_hcount : Int32) (c_hp : Nat → Nat) (c_h0_count : Int32) (c_h0_front : Int32) (c_h0_least : Int32) (c_h0_window : Int32) (c_h0_pulses : Int32) (c_h0_lengths : Nat → Int32) (c_h0_fractions : Nat → Int32) (c_h0_pulseTimes : Nat → Int32) (c_h0_pulseEnergies : Nat → Int32) (c_h0_sound : Nat → Int64) (c_h0_seen : Nat → Int64) (c_h1_count : Int32) (c_h1_front : Int32) (c_h1_least : Int32) (c_h1_window : Int32) (c_h1_pulses : Int32) (c_h1_lengths : Nat → Int32) (c_h1_fractions : Nat → Int32) (c_h1_pulseTimes : Nat → Int32) (c_h1_pulseEnergies : Nat → Int32) (c_h1_sound : Nat → Int64) (c_h1_seen : Nat → Int64) (c_h2_count : Int32) (c_h2_front : Int32) (c_h2_least : Int32) (c_h2_window : Int32) (c_h2_pulses : Int32) (c_h2_lengths : Nat → Int32) (c_h2_fractions : Nat → Int32) (c_h2_pulseTimes : Nat → Int32) (c_h2_pulseEnergies : Nat → Int32) (c_h2_sound : Nat → Int64) (c_h2_seen : Nat → Int64) (c_s_length : Int32) (c_s_command : Nat) (c_s_position : Int32) (c_s_fault : Int32) (c_s_bytes : Nat → Int32) (c_s_numbers : Nat → Int32) (c_w_near : Nat → Nat → Int64) (c_w_far : Nat → Nat → Int64) (c_w_echoes : Nat → Int64) (c_w_totals : Nat → Int64) (c_p_result : Int32) (c_p_endTime : Int32) (c_q_count : Int32) (c_q_front : Int32) (c_q_least : Int32) (c_q_window : Int32) (c_q_pulses : Int32) (c_q_lengths : Nat → Int32) (c_q_fractions : Nat → Int32) (c_q_pulseTimes : Nat → Int32) (c_q_pulseEnergies : Nat → Int32) (c_t_near : Nat → Nat → Int64) (c_t_far : Nat → Nat → Int64) (c_t_echoes : Nat → Int64) (c_t_totals : Nat → Int64) : va_W := [(a 0, .inr (7, [.ref (a 1), .ref (a 9), .ref (a 35), .ref (a 38), .ref (a 61), .int c_waveIsFresh, .int c_peelingIsFresh])), (a 1, .inr (5, [.ref (a 2), .ref (a 7), .ref (a 8)])), (a 2, .inr (0, [.int c_n_count, .ref (a 3), .ref (a 4), .int c_n_front, .int c_n_least, .int c_n_window, .int c_n_pulses, .ref (a 5), .ref (a 6)])), (a 3, .inl (T 1, 8, .inl c_n_lengths)), (a 4, .inl (T 1, 8, .inl c_n_fractions)), (a 5, .inl (T 1, 4, .inl c_n_pulseTimes)), (a 6, .inl (T 1, 4, .inl c_n_pulseEnergies)), (a 7, .inl (T 0, 201, .inr (.inl c_n_sound))), (a 8, .inl (T 0, 201, .inr (.inl c_n_seen))), (a 9, .inr (2, [.ref (a 10), .int c_hcount])), (a 10, .inl (T 3, 3, .inr (.inr (.inr (.inr (hst a c_hp)))))), (a 11, .inr (5, [.ref (a 12), .ref (a 17), .ref (a 18)])), (a 12, .inr (0, [.int c_h0_count, .ref (a 13), .ref (a 14), .int c_h0_front, .int c_h0_least, .int c_h0_window, .int c_h0_pulses, .ref (a 15), .ref (a 16)])), (a 13, .inl (T 1, 8, .inl c_h0_lengths)), (a 14, .inl (T 1, 8, .inl c_h0_fractions)), (a 15, .inl (T 1, 4, .inl c_h0_pulseTimes)), (a 16, .inl (T 1, 4, .inl c_h0_pulseEnergies)), (a 17, .inl (T 0, 201, .inr (.inl c_h0_sound))), (a 18, .inl (T 0, 201, .inr (.inl c_h0_seen))), (a 19, .inr (5, [.ref (a 20), .ref (a 25), .ref (a 26)])), (a 20, .inr (0, [.int c_h1_count, .ref (a 21), .ref (a 22), .int c_h1_front, .int c_h1_least, .int c_h1_window, .int c_h1_pulses, .ref (a 23), .ref (a 24)])), (a 21, .inl (T 1, 8, .inl c_h1_lengths)), (a 22, .inl (T 1, 8, .inl c_h1_fractions)), (a 23, .inl (T 1, 4, .inl c_h1_pulseTimes)), (a 24, .inl (T 1, 4, .inl c_h1_pulseEnergies)), (a 25, .inl (T 0, 201, .inr (.inl c_h1_sound))), (a 26, .inl (T 0, 201, .inr (.inl c_h1_seen))), (a 27, .inr (5, [.ref (a 28), .ref (a 33), .ref (a 34)])), (a 28, .inr (0, [.int c_h2_count, .ref (a 29), .ref (a 30), .int c_h2_front, .int c_h2_least, .int c_h2_window, .int c_h2_pulses, .ref (a 31), .ref (a 32)])), (a 29, .inl (T 1, 8, .inl c_h2_lengths)), (a 30, .inl (T 1, 8, .inl c_h2_fractions)), (a 31, .inl (T 1, 4, .inl c_h2_pulseTimes)), (a 32, .inl (T 1, 4, .inl c_h2_pulseEnergies)), (a 33, .inl (T 0, 201, .inr (.inl c_h2_sound))), (a 34, .inl (T 0, 201, .inr (.inl c_h2_seen))), (a 35, .inr (4, [.ref (a 36), .int c_s_length, .ref (E 0 c_s_command), .ref (a 37), .int c_s_position, .int c_s_fault])), (a 36, .inl (T 2, 120, .inl c_s_bytes)), (a 37, .inl (T 1, 3, .inl c_s_numbers)), (a 38, .inr (6, [.ref (a 39), .ref (a 40), .ref (a 41), .ref (a 42)])), (a 39, .inl (T 4, 9, .inr (.inr (.inr (.inr (rws a 43)))))), (a 40, .inl (T 4, 9, .inr (.inr (.inr (.inr (rws a 52)))))), (a 41, .inl (T 0, 201, .inr (.inl c_w_echoes))), (a 42, .inl (T 0, 9, .inr (.inl c_w_totals))), (a 43, .inl (T 0, 201, .inr (.inl (c_w_near 0)))), (a 44, .inl (T 0, 201, .inr (.inl (c_w_near 1)))), (a 45, .inl (T 0, 201, .inr (.inl (c_w_near 2)))), (a 46, .inl (T 0, 201, .inr (.inl (c_w_near 3)))), (a 47, .inl (T 0, 201, .inr (.inl (c_w_near 4)))), (a 48, .inl (T 0, 201, .inr (.inl (c_w_near 5)))), (a 49, .inl (T 0, 201, .inr (.inl (c_w_near 6)))), (a 50, .inl (T 0, 201, .inr (.inl (c_w_near 7)))), (a 51, .inl (T 0, 201, .inr (.inl (c_w_near 8)))), (a 52, .inl (T 0, 201, .inr (.inl (c_w_far 0)))), (a 53, .inl (T 0, 201, .inr (.inl (c_w_far 1)))), (a 54, .inl (T 0, 201, .inr (.inl (c_w_far 2)))), (a 55, .inl (T 0, 201, .inr (.inl (c_w_far 3)))), (a 56, .inl (T 0, 201, .inr (.inl (c_w_far 4)))), (a 57, .inl (T 0, 201, .inr (.inl (c_w_far 5)))), (a 58, .inl (T 0, 201, .inr (.inl (c_w_far 6)))), (a 59, .inl (T 0, 201, .inr (.inl (c_w_far 7)))), (a 60, .inl (T 0, 201, .inr (.inl (c_w_far 8)))), (a 61, .inr (3, [.ref (a 62), .int c_p_result, .int c_p_endTime, .ref (a 67)])), (a 62, .inr (0, [.int c_q_count, .ref (a 63), .ref (a 64), .int c_q_front, .int c_q_least, .int c_q_window, .int c_q_pulses, .ref (a 65), .ref (a 66)])), (a 63, .inl (T 1, 8, .inl c_q_lengths)), (a 64, .inl (T 1, 8, .inl c_q_fractions)), (a 65, .inl (T 1, 4, .inl c_q_pulseTimes)), (a 66, .inl (T 1, 4, .inl c_q_pulseEnergies)), (a 67, .inr (6, [.ref (a 68), .ref (a 69), .ref (a 70), .ref (a 71)])), (a 68, .inl (T 4, 9, .inr (.inr (.inr (.inr (rws a 72)))))), (a 69, .inl (T 4, 9, .inr (.inr (.inr (.inr (rws a 81)))))), (a 70, .inl (T 0, 201, .inr (.inl c_t_echoes))), (a 71, .inl (T 0, 9, .inr (.inl c_t_totals))), (a 72, .inl (T 0, 201, .inr (.inl (c_t_near 0)))), (a 73, .inl (T 0, 201, .inr (.inl (c_t_near 1)))), (a 74, .inl (T 0, 201, .inr (.inl (c_t_near 2)))), (a 75, .inl (T 0, 201, .inr (.inl (c_t_near 3)))), (a 76, .inl (T 0, 201, .inr (.inl (c_t_near 4)))), (a 77, .inl (T 0, 201, .inr (.inl (c_t_near 5)))), (a 78, .inl (T 0, 201, .inr (.inl (c_t_near 6)))), (a 79, .inl (T 0, 201, .inr (.inl (c_t_near 7)))), (a 80, .inl (T 0, 201, .inr (.inl (c_t_near 8)))), (a 81, .inl (T 0, 201, .inr (.inl (c_t_far 0)))), (a 82, .inl (T 0, 201, .inr (.inl (c_t_far 1)))), (a 83, .inl (T 0, 201, .inr (.inl (c_t_far 2)))), (a 84, .inl (T 0, 201, .inr (.inl (c_t_far 3)))), (a 85, .inl (T 0, 201, .inr (.inl (c_t_far 4)))), (a 86, .inl (T 0, 201, .inr (.inl (c_t_far 5)))), (a 87, .inl (T 0, 201, .inr (.inl (c_t_far 6)))), (a 88, .inl (T 0, 201, .inr (.inl (c_t_far 7)))), (a 89, .inl (T 0, 201, .inr (.inl (c_t_far 8))))]
section CSTAT
variable {X : CxT} {G : SG} {T : Nat → ClassId} {E : Nat → Nat → Nat} {ws w w' : va_W} {cc : ByteArray} {own : String} {ret : Option FieldType} {nl fr lo k n ix : Nat} {lv : List (Nat × Value)} {pc : Nat} {rest As : List Value} {y : MethodName} {cc' : ByteArray} {nL' : Nat} {ret' : Option FieldType} {rm : Room} {r : Option Value}
theorem v_aret {q : Nat} {cn : String} (C : Cx X G T cc own (some (.object cn)) nl fr lo) (hret : RetOK X k n (some (.ref q)) ws) (hdg : decode cc pc = .ok (.areturn, 1)) : V X k n ws lv pc [.ref q] := by
  obtain ⟨p, l, e, R, s, m, args, below, meth, c, D, A, H0, nL, Q⟩ := X
  obtain ⟨hx, hb, hml, hown, hts, hK, hlocks, hr, hA, hnl, hfr, hlo, htr, hG, hGs, hH0⟩ := C
  intro H locs ls hP hD hS hl
  obtain ⟨Qc, free, hQ, hq, hf⟩ := hret H locs hP hD hS
  subst hQ
  exact W.aret hx hb hr (Or.inl ⟨_, rfl⟩) (Or.inr ⟨_, rfl⟩) hq hf hdg hlocks
theorem v_callS2 (np : Nat) (C : Cx X G T cc own ret nl fr lo) (hcap : CapOK X k n) (hM : ∀ D, MetM G y cc' nL' ret' rm D T As w r w') (hl : Cond.methodLink own ix y ∈ wsG) (hcode : Cond.code y cc' nL' ret' ∈ wsG) (hstat : Cond.static y ∈ wsG) (hini : Cond.initialized y.cls ∈ wsG)
    (hd : y.cls ≠ "java/lang/invoke/MethodHandle" ∧ y.cls ≠ "java/lang/invoke/VarHandle" ∧ (parseMethodDescriptor y.desc).map (fun d => d.parameters.length) = some np) (hR : rm.frames + 1 ≤ fr ∧ 8 + (nL' + 11) + rm.locals ≤ lo) (hrm : rm.cells = 0 ∧ rm.slots = 0)
    (hnp : As.length = np) (hst : (rest.map fun v => v.category).sum ≤ 8) (hdg : decode cc pc = .ok (.invokestatic ix, 3)) (kk : V X k n w' lv (pc + 3) (r.toList ++ rest)) : V X k n w lv pc (As.reverse ++ rest) := by
  obtain ⟨p, l, e, R, s, m, args, below, meth, c, D, A, H0, nL, Q⟩ := X
  obtain ⟨hx, hb, hml, hown, hts, hK, hlocks, hr, hA, hnl, hfr, hlo, htr, hG, hGs, hH0⟩ := C
  intro H locs ls hP hD hS hll
  have hFr : ∀ q, va_A w H.size q → A q := fun q h => by
    rcases h with ⟨j, x, h⟩ | h
    · exact hD.2 j _ h
    · exact hA q (Nat.le_trans hS.1 h)
  have hgw : GoodIn wsG (Cond.code y cc' nL' ret' :: wsG) := fun v hv => by
    rcases List.mem_cons.mp hv with rfl | h
    · exact goodG _ hcode
    · exact goodG _ h
  exact v_after (va_runS (As := As) (rest := rest) (nL := nL) ⟨hx, hb, hml, hown, hts⟩ (hM D hG l htr H.size) ⟨callB_of np hts hgw rfl hrm.1 hrm.2 (hts _ hini) (hts _ hl) hd ⟨Nat.le_trans hR.1 hfr, Nat.le_trans hR.2 hlo⟩, hts _ hstat⟩ ⟨MetM.blind hG, fun U hU hW => ⟨rfl, by rw [hU], by rw [hU]; exact hP, va_K.moved hW.alike hK, hD.weaken (fun _ _ _ _ => trivial), by rw [hU]; exact hG.1 _ s U _ hW (hG.2.2 _ _ _ _ (hG.2.1 _ _ _ _ hGs hS.2.1) (fun q h => hFr q h))⟩⟩ rfl hnp hll.1 rfl (lv_room hst) hdg hcap) hD hS hA hll kk
theorem v_throwsS2 {e9 : String} (np : Nat) (C : Cx X G T cc own ret nl fr lo) (hcap : CapOK X 1 6) (hM : ∀ D, MetX G y cc' nL' ret' rm D T As w e9 w') (hl : Cond.methodLink own ix y ∈ wsG) (hcode : Cond.code y cc' nL' ret' ∈ wsG) (hstat : Cond.static y ∈ wsG) (hini : Cond.initialized y.cls ∈ wsG)
    (hd : y.cls ≠ "java/lang/invoke/MethodHandle" ∧ y.cls ≠ "java/lang/invoke/VarHandle" ∧ (parseMethodDescriptor y.desc).map (fun d => d.parameters.length) = some np) (hR : rm.frames + 1 ≤ fr ∧ 8 + (nL' + 11) + rm.locals ≤ lo) (hrm : rm.cells = 1 ∧ rm.slots = 6)
    (hnp : As.length = np) (hst : (rest.map fun v => v.category).sum ≤ 8) (hdg : decode cc pc = .ok (.invokestatic ix, 3)) (hthr : ThrOK X e9 w') : V X 0 0 w lv pc (As.reverse ++ rest) := by
  obtain ⟨p, l, e, R, s, m, args, below, meth, c, D, A, H0, nL, Q⟩ := X
  obtain ⟨hx, hb, hml, hown, hts, hK, hlocks, hr, hA, hnl, hfr, hlo, htr, hG, hGs, hH0⟩ := C
  intro H locs ls hP hD hS hll
  have hFr : ∀ q, va_A w H.size q → A q := fun q h => by
    rcases h with ⟨j, x, h⟩ | h
    · exact hD.2 j _ h
    · exact hA q (Nat.le_trans hS.1 h)
  have hgw : GoodIn wsG (Cond.code y cc' nL' ret' :: wsG) := fun v hv => by
    rcases List.mem_cons.mp hv with rfl | h
    · exact goodG _ hcode
    · exact goodG _ h
  exact v_afterX (rest := rest) (vx_runS (As := As) (rest := rest) (nL := nL) ⟨hx, hb, hml, hown, hts⟩ (hM D hG l htr H.size) ⟨callB_of np hts hgw rfl hrm.1 hrm.2 (hts _ hini) (hts _ hl) hd ⟨Nat.le_trans hR.1 hfr, Nat.le_trans hR.2 hlo⟩, hts _ hstat⟩ ⟨MetM.blind hG, fun U hU hW => ⟨rfl, by rw [hU], by rw [hU]; exact hP, va_K.moved hW.alike hK, hD.weaken (fun _ _ _ _ => trivial), by rw [hU]; exact hG.1 _ s U _ hW (hG.2.2 _ _ _ _ (hG.2.1 _ _ _ _ hGs hS.2.1) (fun q h => hFr q h))⟩⟩ rfl hnp hll.1 rfl (lv_room hst) hdg ⟨by rw [Nat.zero_add]; exact hcap.1, by rw [Nat.zero_add]; exact hcap.2⟩) hD hS hA hlocks hthr
theorem Ce_comm {i : Nat} (hi : i < 8) (hl : Cond.fieldLink own ix "LineEchoes$Command" (cmdNm.getD i "") "LLineEchoes$Command;" ∈ wsG) (C : Cx X (SFG E) T cc own ret nl fr lo) (hdg : decode cc pc = .ok (.getstatic ix, 3)) (kk : V X k n ws lv (pc + 3) (.ref (E 0 i) :: rest)) : V X k n ws lv pc rest := by
  obtain ⟨p, l, e, R, s, m, args, below, meth, c, D, A, H0, nL, Q⟩ := X
  obtain ⟨hx, hb, hml, hown, hts, hK, hlocks, hr, hA, hnl, hfr, hlo, htr, hG, hGs, hH0⟩ := C
  intro H locs ls hP hD hS hll
  subst hH0
  exact va_gets hx hb (hGs.1.1 i hi).1 hS hown (hts _ hl) (fun _ h => h) hdg (kk H locs ls hP hD hS hll)
theorem Ce_verd {i : Nat} (hi : i < 4) (hl : Cond.fieldLink own ix "LineEchoes$Verdict" (verNm.getD i "") "LLineEchoes$Verdict;" ∈ wsG) (C : Cx X (SFG E) T cc own ret nl fr lo) (hdg : decode cc pc = .ok (.getstatic ix, 3)) (kk : V X k n ws lv (pc + 3) (.ref (E 1 i) :: rest)) : V X k n ws lv pc rest := by
  obtain ⟨p, l, e, R, s, m, args, below, meth, c, D, A, H0, nL, Q⟩ := X
  obtain ⟨hx, hb, hml, hown, hts, hK, hlocks, hr, hA, hnl, hfr, hlo, htr, hG, hGs, hH0⟩ := C
  intro H locs ls hP hD hS hll
  subst hH0
  exact va_gets hx hb (hGs.2.1.1 i hi).1 hS hown (hts _ hl) (fun _ h => h) hdg (kk H locs ls hP hD hS hll)
theorem Ce_switch (hl : Cond.fieldLink own ix "LineEchoes$1" "$SwitchMap$LineEchoes$Command" "[I" ∈ wsG) (C : Cx X (SFG E) T cc own ret nl fr lo) (hdg : decode cc pc = .ok (.getstatic ix, 3)) (kk : V X k n ws lv (pc + 3) (.ref (E 2 0) :: rest)) : V X k n ws lv pc rest := by
  obtain ⟨p, l, e, R, s, m, args, below, meth, c, D, A, H0, nL, Q⟩ := X
  obtain ⟨hx, hb, hml, hown, hts, hK, hlocks, hr, hA, hnl, hfr, hlo, htr, hG, hGs, hH0⟩ := C
  intro H locs ls hP hD hS hll
  subst hH0
  exact va_gets hx hb hGs.2.2.1 hS hown (hts _ hl) (fun _ h => h) hdg (kk H locs ls hP hD hS hll)
theorem Ce_swload {i : Int32} {β : Type} {K : Int32 → Option β} {o : β} (C : Cx X (SFG E) T cc own ret nl fr lo) (hdg : decode cc pc = .ok (.iaload, 1)) (hf : chk (inb i 8) (nm (i + 1) K) = some o) (kk : ∀ z, K z = some o → V X k n ws lv (pc + 1) (.int z :: rest)) : V X k n ws lv pc (.int i :: .ref (E 2 0) :: rest) := by
  obtain ⟨hin, hf⟩ := chk_some hf
  replace kk := kk _ hf
  have he : i + 1 = nI (i.toNatClampNeg + 1) := by
    obtain ⟨j, h1, h2⟩ := vp_in_of (vp_in_iff.mpr hin) (by decide)
    rw [h2, nI_clamp (by omega), nI_succ]
  rw [he] at kk
  obtain ⟨p, l, e, R, s, m, args, below, meth, c, D, A, H0, nL, Q⟩ := X
  obtain ⟨hx, hb, hml, hown, hts, hK, hlocks, hr, hA, hnl, hfr, hlo, htr, hG, hGs, hH0⟩ := C
  intro H locs ls hP hD hS hl
  subst hH0
  exact va_ti hx hb hGs.2.2.2.1 hS (vp_in_iff.mpr hin) rfl hdg (kk H locs ls hP hD hS hl)
theorem Ce_numberCount {i : Nat} {β : Type} {K : Int32 → Option β} {o : β} (hl : Cond.fieldLink own ix "LineEchoes$Command" "numberCount" "I" ∈ wsG) (C : Cx X (SFG E) T cc own ret nl fr lo) (hdg : decode cc pc = .ok (.getfield ix, 3)) (hf : chk (i < 8) (nm (cmdN i) K) = some o) (kk : ∀ z, K z = some o → V X k n ws lv (pc + 3) (.int z :: rest)) : V X k n ws lv pc (.ref (E 0 i) :: rest) := by
  obtain ⟨hi, hf⟩ := chk_some hf
  replace kk := kk _ hf
  obtain ⟨p, l, e, R, s, m, args, below, meth, c, D, A, H0, nL, Q⟩ := X
  obtain ⟨hx, hb, hml, hown, hts, hK, hlocks, hr, hA, hnl, hfr, hlo, htr, hG, hGs, hH0⟩ := C
  intro H locs ls hP hD hS hll
  subst hH0
  exact va_getE (q := ("LineEchoes$Command", "numberCount", "I", [2, 3, 1, 3, 2, 0, 0, 0])) hx hb hGs.1 hi hS hown (List.mem_cons_of_mem _ List.mem_cons_self) (hts _ hl) (fun _ h => h) hdg (kk H locs ls hP hD hS hll)
theorem ver_inj {A : Nat → Prop} {U : State} {H : Heap} (h : SFG E A U H) {x y : Nat} (hx : x < 4) (hy : y < 4) : some (E 1 x) = some (E 1 y) ↔ x = y := ⟨fun e => h.2.1.2 x y hx hy (Option.some.inj e), fun e => by rw [e]⟩
theorem Ce_acmp_eq {x y : Nat} {off : Int} {β : Type} {e1 e2 : Option β} {o : β} (tgt : Nat) (C : Cx X (SFG E) T cc own ret nl fr lo) (hdg : decode cc pc = .ok (.if_acmp .eq off, 3)) (ht : (pc : Int) + off = (tgt : Int)) (hf : chk (x < 4 ∧ y < 4) (if x = y then e1 else e2) = some o) (kt : x = y → e1 = some o → V X k n ws lv tgt rest) (kf : ¬ x = y → e2 = some o → V X k n ws lv (pc + 3) rest) : V X k n ws lv pc (.ref (E 1 y) :: .ref (E 1 x) :: rest) := by
  obtain ⟨⟨h1, h2⟩, hf⟩ := chk_some hf
  obtain ⟨p, l, e, R, s, m, args, below, meth, c, D, A, H0, nL, Q⟩ := X
  obtain ⟨hx, hb, hml, hown, hts, hK, hlocks, hr, hA, hnl, hfr, hlo, htr, hG, hGs, hH0⟩ := C
  intro H locs ls hP hD hS hl
  have hi := ver_inj hGs h1 h2
  exact lv_acmp_eq (rx := some (E 1 x)) (ry := some (E 1 y)) hx hb hdg ht (fun q => kt (hi.mp q) (ite_t (hi.mp q) hf) H locs ls hP hD hS hl) (fun q => kf (fun z => q (hi.mpr z)) (ite_f (fun z => q (hi.mpr z)) hf) H locs ls hP hD hS hl)
theorem Ce_acmp_ne {x y : Nat} {off : Int} {β : Type} {e1 e2 : Option β} {o : β} (tgt : Nat) (C : Cx X (SFG E) T cc own ret nl fr lo) (hdg : decode cc pc = .ok (.if_acmp .ne off, 3)) (ht : (pc : Int) + off = (tgt : Int)) (hf : chk (x < 4 ∧ y < 4) (if x = y then e1 else e2) = some o) (kt : x = y → e1 = some o → V X k n ws lv (pc + 3) rest) (kf : ¬ x = y → e2 = some o → V X k n ws lv tgt rest) : V X k n ws lv pc (.ref (E 1 y) :: .ref (E 1 x) :: rest) := by
  obtain ⟨⟨h1, h2⟩, hf⟩ := chk_some hf
  obtain ⟨p, l, e, R, s, m, args, below, meth, c, D, A, H0, nL, Q⟩ := X
  obtain ⟨hx, hb, hml, hown, hts, hK, hlocks, hr, hA, hnl, hfr, hlo, htr, hG, hGs, hH0⟩ := C
  intro H locs ls hP hD hS hl
  have hi := ver_inj hGs h1 h2
  exact lv_acmp_ne (rx := some (E 1 x)) (ry := some (E 1 y)) hx hb hdg ht (fun q => kf (fun z => q (hi.mpr z)) (ite_f (fun z => q (hi.mpr z)) hf) H locs ls hP hD hS hl) (fun q => kt (hi.mp q) (ite_t (hi.mp q) hf) H locs ls hP hD hS hl)
theorem Ce_max {x y : Int64} {β : Type} {K : Int64 → Option β} {o : β} (hl : Cond.methodLink own ix Lib.MathLoose.max_long.x ∈ wsG) (C : Cx X G T cc own ret nl fr lo) (hdg : decode cc pc = .ok (.invokestatic ix, 3)) (hroom : 1 ≤ fr ∧ 30 ≤ lo) (hst : (rest.map fun v => v.category).sum ≤ 8) (hf : nm (if y < x then x else y) K = some o) (kk : ∀ z, K z = some o → V X 0 0 ws lv (pc + 3) (.long z :: rest)) : V X 0 0 ws lv pc (.long y :: .long x :: rest) := by
  replace kk := kk _ hf
  obtain ⟨p, l, e, R, s, m, args, below, meth, c, D, A, H0, nL, Q⟩ := X
  obtain ⟨hx, hb, hml, hown, hts, hK, hlocks, hr, hA, hnl, hfr, hlo, htr, hG, hGs, hH0⟩ := C
  intro H locs ls hP hD hS hll
  exact va_mmax_long hx hb (hml.trans hll.1.symm) hown (hts _ hl) (hts _ wStatMax) (hts _ wIniMath) (hts _ wCodeMax) (Nat.le_trans hroom.1 hfr) (Nat.le_trans (Nat.le_trans (Nat.add_le_add_right hst 15) (by omega)) hlo) (Nat.zero_le _) (Nat.zero_le _) hdg (kk H locs ls hP hD hS hll)
theorem Ce_min {x y : Int32} {β : Type} {K : Int32 → Option β} {o : β} (hl : Cond.methodLink own ix Lib.Math.min.name ∈ wsG) (C : Cx X G T cc own ret nl fr lo) (hdg : decode cc pc = .ok (.invokestatic ix, 3)) (hroom : 1 ≤ fr ∧ 30 ≤ lo) (hst : (rest.map fun v => v.category).sum ≤ 8) (hf : nm (if y < x then y else x) K = some o) (kk : ∀ z, K z = some o → V X 0 0 ws lv (pc + 3) (.int z :: rest)) : V X 0 0 ws lv pc (.int y :: .int x :: rest) := by
  replace kk := kk _ hf
  obtain ⟨p, l, e, R, s, m, args, below, meth, c, D, A, H0, nL, Q⟩ := X
  obtain ⟨hx, hb, hml, hown, hts, hK, hlocks, hr, hA, hnl, hfr, hlo, htr, hG, hGs, hH0⟩ := C
  intro H locs ls hP hD hS hll
  exact va_mmin hx hb (hml.trans hll.1.symm) hown (hts _ hl) (hts _ wStatMin) (hts _ wIniMath) (hts _ wCodeMin) (Nat.le_trans hroom.1 hfr) (Nat.le_trans (Nat.le_trans (Nat.add_le_add_right hst 13) (by omega)) hlo) (Nat.zero_le _) (Nat.zero_le _) hdg (kk H locs ls hP hD hS hll)
theorem va_aldA {p : Program} {l : Launch} {e : Env} {R : Room} {s : State} {m : MethodId} {args : Array Value} {below : List Frame} {meth : Method} {c : Code} {H : Heap} {locs : List Loc} {cells slots : Nat} {Q : State → Prop} {ls : Array Slot} {D : va_G} {cl : List vw_C} {tys : List (ClassId × FieldType)} {a : Nat} (hexec : p.tables.exec = Jvm.exec) (hb : c.code = cc) (hK : va_K D cl tys s) (hP : va_P D cl ws H) (q0 t0 : Nat) {cA : ClassId} {ty : FieldType} {n : Nat} {f : Nat → Option Nat} (ha : ws[q0]? = some (a, .inl (cA, n, .inr (.inr (.inr (.inr f)))))) (ht : tys[t0]? = some (cA, .array ty)) {i : Int32} (hin : vp_in i n) (hdg : decode cc pc = .ok (.aaload, 1))
    (kk : W p l e R s m args below meth c H locs cells slots Q (F0 m (pc + 1) ls (va_rf (f i.toNatClampNeg) :: rest))) : W p l e R s m args below meth c H locs cells slots Q (F0 m pc ls (.int i :: .ref a :: rest)) := by
  have hlt : i.toNatClampNeg < n := Nat.not_le.mp fun q => hin (Or.inr q)
  exact W.aald (v := va_rf (f i.toNatClampNeg)) (ty := .array ty) hexec hb (hP q0 _ ha) ((hK.2 t0 _ ht).1 n (fun j => va_rf (f j))) rfl (fun q => by cases q) (by show ¬ (i < 0 ∨ (arrV _ _ _).slots.size ≤ _); rw [arrV_size]; exact hin) (by show (arrV _ _ _).slots[_]? = _; rw [arrV_read _ _ hlt]) rfl rfl hdg kk
end CSTAT
theorem wfieldLink_RX1_9_LineEchoes_Bench_count_I : Cond.fieldLink RX1 9 "LineEchoes$Bench" "count" "I" ∈ wsG := mG (seg1 (List.mem_of_getElem? (i := 47) rfl)) rfl
theorem wfieldLink_RX1_15_LineEchoes_Bench_lengths_I : Cond.fieldLink RX1 15 "LineEchoes$Bench" "lengths" "[I" ∈ wsG := mG (seg1 (List.mem_of_getElem? (i := 51) rfl)) rfl
theorem wfieldLink_RX1_19_LineEchoes_Bench_fractions_I : Cond.fieldLink RX1 19 "LineEchoes$Bench" "fractions" "[I" ∈ wsG := mG (seg1 (List.mem_of_getElem? (i := 55) rfl)) rfl
theorem wmethodLink_RX1_81_yX1_swapEnds : Cond.methodLink RX1 81 yX1_swapEnds ∈ wsG := mG (seg2 (List.mem_of_getElem? (i := 42) rfl)) rfl
theorem wcode_yX1_swapEnds_cX1_swapEnds_5_none : Cond.code yX1_swapEnds cX1_swapEnds 5 none ∈ wsG := mG (seg2 (List.mem_of_getElem? (i := 44) rfl)) rfl
theorem winitialized_RX1 : Cond.initialized RX1 ∈ wsG := mG (seg1 (List.mem_of_getElem? (i := 3) rfl)) rfl
theorem wstatic_yX1_swapEnds : Cond.static yX1_swapEnds ∈ wsG := mG (seg2 (List.mem_of_getElem? (i := 43) rfl)) rfl
theorem wfieldLink_RX1_31_LineEchoes_Bench_pulses_I : Cond.fieldLink RX1 31 "LineEchoes$Bench" "pulses" "I" ∈ wsG := mG (seg1 (List.mem_of_getElem? (i := 71) rfl)) rfl
theorem wfieldLink_RX1_34_LineEchoes_Bench_pulseTimes_I : Cond.fieldLink RX1 34 "LineEchoes$Bench" "pulseTimes" "[I" ∈ wsG := mG (seg1 (List.mem_of_getElem? (i := 75) rfl)) rfl
theorem wfieldLink_RX1_37_LineEchoes_Bench_pulseEnergies_I : Cond.fieldLink RX1 37 "LineEchoes$Bench" "pulseEnergies" "[I" ∈ wsG := mG (seg1 (List.mem_of_getElem? (i := 79) rfl)) rfl
theorem wmethodLink_RX1_85_Lib_Math_min_name : Cond.methodLink RX1 85 Lib.Math.min.name ∈ wsG := mG (seg3 (List.mem_of_getElem? (i := 219) rfl)) rfl
theorem wmethodLink_RX1_48_arraycopyName : Cond.methodLink RX1 48 arraycopyName ∈ wsG := mG (seg2 (List.mem_of_getElem? (i := 26) rfl)) rfl
theorem wfieldLink_RX1_22_LineEchoes_Bench_front_I : Cond.fieldLink RX1 22 "LineEchoes$Bench" "front" "I" ∈ wsG := mG (seg1 (List.mem_of_getElem? (i := 59) rfl)) rfl
theorem wfieldLink_RX1_25_LineEchoes_Bench_least_I : Cond.fieldLink RX1 25 "LineEchoes$Bench" "least" "I" ∈ wsG := mG (seg1 (List.mem_of_getElem? (i := 63) rfl)) rfl
theorem wfieldLink_RX1_28_LineEchoes_Bench_window_I : Cond.fieldLink RX1 28 "LineEchoes$Bench" "window" "I" ∈ wsG := mG (seg1 (List.mem_of_getElem? (i := 67) rfl)) rfl
theorem wcode_yX9_isWithin_cX9_isWithin_6_some_boolean : Cond.code yX9_isWithin cX9_isWithin 6 (some .boolean) ∈ wsG := mG (seg3 (List.mem_of_getElem? (i := 78) rfl)) rfl
theorem winitialized_RX9 : Cond.initialized RX9 ∈ wsG := mG (seg1 (List.mem_of_getElem? (i := 1) rfl)) rfl
theorem wstatic_yX9_isWithin : Cond.static yX9_isWithin ∈ wsG := mG (seg3 (List.mem_of_getElem? (i := 77) rfl)) rfl
theorem wfieldLink_RX1_64_LineEchoes_Verdict_NO_SUCH_NUMBER_LLineEchoes_Verdict : Cond.fieldLink RX1 64 "LineEchoes$Verdict" "NO_SUCH_NUMBER" "LLineEchoes$Verdict;" ∈ wsG := mG (seg3 (List.mem_of_getElem? (i := 90) rfl)) rfl
theorem wfieldLink_RX1_58_LineEchoes_Verdict_FINE_LLineEchoes_Verdict : Cond.fieldLink RX1 58 "LineEchoes$Verdict" "FINE" "LLineEchoes$Verdict;" ∈ wsG := mG (seg3 (List.mem_of_getElem? (i := 82) rfl)) rfl
theorem wfieldLink_RX1_71_LineEchoes_Verdict_OUT_OF_RANGE_LLineEchoes_Verdict : Cond.fieldLink RX1 71 "LineEchoes$Verdict" "OUT_OF_RANGE" "LLineEchoes$Verdict;" ∈ wsG := mG (seg3 (List.mem_of_getElem? (i := 80) rfl)) rfl
theorem wconstantLong_RX1_67_20 : Cond.constantLong RX1 67 (20) ∈ wsG := mG (seg3 (List.mem_of_getElem? (i := 75) rfl)) rfl
theorem wconstantLong_RX1_69_1000 : Cond.constantLong RX1 69 (1000) ∈ wsG := mG (seg3 (List.mem_of_getElem? (i := 79) rfl)) rfl
theorem wfieldLink_RX1_74_LineEchoes_Verdict_NO_ROOM_LLineEchoes_Verdict : Cond.fieldLink RX1 74 "LineEchoes$Verdict" "NO_ROOM" "LLineEchoes$Verdict;" ∈ wsG := mG (seg3 (List.mem_of_getElem? (i := 84) rfl)) rfl
theorem wconstantLong_RX1_77_100 : Cond.constantLong RX1 77 (100) ∈ wsG := mG (seg3 (List.mem_of_getElem? (i := 104) rfl)) rfl
theorem wconstantLong_RX1_79_1000000 : Cond.constantLong RX1 79 (1000000) ∈ wsG := mG (seg3 (List.mem_of_getElem? (i := 105) rfl)) rfl
theorem wfieldLink_RX8_11_LineEchoes_Wave_fromNear_J : Cond.fieldLink RX8 11 "LineEchoes$Wave" "fromNear" "[[J" ∈ wsG := mG (seg1 (List.mem_of_getElem? (i := 175) rfl)) rfl
theorem wmethodLink_RX8_53_yJ7_fill_d0a16 : Cond.methodLink RX8 53 yJ7_fill_d0a16 ∈ wsG := mG (seg2 (List.mem_of_getElem? (i := 83) rfl)) rfl
theorem wcode_yJ7_fill_d0a16_cJ7_fill_d0a16_5_none : Cond.code yJ7_fill_d0a16 cJ7_fill_d0a16 5 none ∈ wsG := mG (seg2 (List.mem_of_getElem? (i := 85) rfl)) rfl
theorem winitialized_RJ7 : Cond.initialized RJ7 ∈ wsG := mG (seg1 (List.mem_of_getElem? (i := 20) rfl)) rfl
theorem wstatic_yJ7_fill_d0a16 : Cond.static yJ7_fill_d0a16 ∈ wsG := mG (seg2 (List.mem_of_getElem? (i := 84) rfl)) rfl
theorem wfieldLink_RX8_16_LineEchoes_Wave_fromFar_J : Cond.fieldLink RX8 16 "LineEchoes$Wave" "fromFar" "[[J" ∈ wsG := mG (seg1 (List.mem_of_getElem? (i := 178) rfl)) rfl
theorem wfieldLink_RX8_19_LineEchoes_Wave_echoes_J : Cond.fieldLink RX8 19 "LineEchoes$Wave" "echoes" "[J" ∈ wsG := mG (seg1 (List.mem_of_getElem? (i := 180) rfl)) rfl
theorem wfieldLink_RX8_23_LineEchoes_Wave_totals_J : Cond.fieldLink RX8 23 "LineEchoes$Wave" "totals" "[J" ∈ wsG := mG (seg1 (List.mem_of_getElem? (i := 183) rfl)) rfl
theorem wfieldLink_RX8_59_LineEchoes_Bench_pulses_I : Cond.fieldLink RX8 59 "LineEchoes$Bench" "pulses" "I" ∈ wsG := mG (seg1 (List.mem_of_getElem? (i := 73) rfl)) rfl
theorem wfieldLink_RX8_62_LineEchoes_Bench_pulseTimes_I : Cond.fieldLink RX8 62 "LineEchoes$Bench" "pulseTimes" "[I" ∈ wsG := mG (seg1 (List.mem_of_getElem? (i := 77) rfl)) rfl
theorem wfieldLink_RX8_39_LineEchoes_Bench_window_I : Cond.fieldLink RX8 39 "LineEchoes$Bench" "window" "I" ∈ wsG := mG (seg1 (List.mem_of_getElem? (i := 68) rfl)) rfl
theorem wfieldLink_RX8_66_LineEchoes_Bench_pulseEnergies_I : Cond.fieldLink RX8 66 "LineEchoes$Bench" "pulseEnergies" "[I" ∈ wsG := mG (seg1 (List.mem_of_getElem? (i := 81) rfl)) rfl
theorem wconstantLong_RX9_100_1000 : Cond.constantLong RX9 100 (1000) ∈ wsG := mG (seg2 (List.mem_of_getElem? (i := 97) rfl)) rfl
theorem wfieldLink_RX8_93_LineEchoes_Bench_lengths_I : Cond.fieldLink RX8 93 "LineEchoes$Bench" "lengths" "[I" ∈ wsG := mG (seg1 (List.mem_of_getElem? (i := 53) rfl)) rfl
theorem wfieldLink_RX8_96_LineEchoes_Bench_least_I : Cond.fieldLink RX8 96 "LineEchoes$Bench" "least" "I" ∈ wsG := mG (seg1 (List.mem_of_getElem? (i := 66) rfl)) rfl
theorem wmethodLink_RX8_82_yX8_setOut : Cond.methodLink RX8 82 yX8_setOut ∈ wsG := mG (seg2 (List.mem_of_getElem? (i := 98) rfl)) rfl
theorem wcode_yX8_setOut_cX8_setOut_8_none : Cond.code yX8_setOut cX8_setOut 8 none ∈ wsG := mG (seg2 (List.mem_of_getElem? (i := 101) rfl)) rfl
theorem winitialized_RX8 : Cond.initialized RX8 ∈ wsG := mG (seg1 (List.mem_of_getElem? (i := 8) rfl)) rfl
theorem winstanceMethod_yX8_setOut : Cond.instanceMethod yX8_setOut ∈ wsG := mG (seg2 (List.mem_of_getElem? (i := 100) rfl)) rfl
theorem wselects_RX8_yX8_setOut_yX8_setOut : Cond.selects RX8 yX8_setOut yX8_setOut ∈ wsG := mG (seg0 (List.mem_of_getElem? (i := 8) rfl)) rfl
theorem wfieldLink_RX8_75_LineEchoes_Bench_front_I : Cond.fieldLink RX8 75 "LineEchoes$Bench" "front" "I" ∈ wsG := mG (seg1 (List.mem_of_getElem? (i := 60) rfl)) rfl
theorem wcode_yX9_turnedBack_cX9_turnedBack_3_some_long : Cond.code yX9_turnedBack cX9_turnedBack 3 (some .long) ∈ wsG := mG (seg2 (List.mem_of_getElem? (i := 96) rfl)) rfl
theorem wstatic_yX9_turnedBack : Cond.static yX9_turnedBack ∈ wsG := mG (seg2 (List.mem_of_getElem? (i := 95) rfl)) rfl
theorem wfieldLink_RX8_86_LineEchoes_Bench_fractions_I : Cond.fieldLink RX8 86 "LineEchoes$Bench" "fractions" "[I" ∈ wsG := mG (seg1 (List.mem_of_getElem? (i := 56) rfl)) rfl
theorem wmethodLink_RX8_89_yX8_countMerging : Cond.methodLink RX8 89 yX8_countMerging ∈ wsG := mG (seg2 (List.mem_of_getElem? (i := 106) rfl)) rfl
theorem wcode_yX8_countMerging_cX8_countMerging_5_none : Cond.code yX8_countMerging cX8_countMerging 5 none ∈ wsG := mG (seg2 (List.mem_of_getElem? (i := 109) rfl)) rfl
theorem winstanceMethod_yX8_countMerging : Cond.instanceMethod yX8_countMerging ∈ wsG := mG (seg2 (List.mem_of_getElem? (i := 108) rfl)) rfl
theorem wselects_RX8_yX8_countMerging_yX8_countMerging : Cond.selects RX8 yX8_countMerging yX8_countMerging ∈ wsG := mG (seg0 (List.mem_of_getElem? (i := 10) rfl)) rfl
theorem wfieldLink_RX8_33_LineEchoes_Bench_count_I : Cond.fieldLink RX8 33 "LineEchoes$Bench" "count" "I" ∈ wsG := mG (seg1 (List.mem_of_getElem? (i := 48) rfl)) rfl
theorem wmethodLink_RX8_69_Lib_MathLoose_max_long_x : Cond.methodLink RX8 69 Lib.MathLoose.max_long.x ∈ wsG := mG (seg2 (List.mem_of_getElem? (i := 114) rfl)) rfl
theorem wmethodLink_RX8_46_yX8_meetJoint : Cond.methodLink RX8 46 yX8_meetJoint ∈ wsG := mG (seg2 (List.mem_of_getElem? (i := 102) rfl)) rfl
theorem wcode_yX8_meetJoint_cX8_meetJoint_13_none : Cond.code yX8_meetJoint cX8_meetJoint 13 none ∈ wsG := mG (seg2 (List.mem_of_getElem? (i := 105) rfl)) rfl
theorem winstanceMethod_yX8_meetJoint : Cond.instanceMethod yX8_meetJoint ∈ wsG := mG (seg2 (List.mem_of_getElem? (i := 104) rfl)) rfl
theorem wselects_RX8_yX8_meetJoint_yX8_meetJoint : Cond.selects RX8 yX8_meetJoint yX8_meetJoint ∈ wsG := mG (seg0 (List.mem_of_getElem? (i := 9) rfl)) rfl
theorem wmethodLink_RX8_42_yX8_meetFront : Cond.methodLink RX8 42 yX8_meetFront ∈ wsG := mG (seg2 (List.mem_of_getElem? (i := 90) rfl)) rfl
theorem wcode_yX8_meetFront_cX8_meetFront_9_none : Cond.code yX8_meetFront cX8_meetFront 9 none ∈ wsG := mG (seg2 (List.mem_of_getElem? (i := 93) rfl)) rfl
theorem winstanceMethod_yX8_meetFront : Cond.instanceMethod yX8_meetFront ∈ wsG := mG (seg2 (List.mem_of_getElem? (i := 92) rfl)) rfl
theorem wselects_RX8_yX8_meetFront_yX8_meetFront : Cond.selects RX8 yX8_meetFront yX8_meetFront ∈ wsG := mG (seg0 (List.mem_of_getElem? (i := 7) rfl)) rfl
theorem wmethodLink_RX8_26_yX8_clear : Cond.methodLink RX8 26 yX8_clear ∈ wsG := mG (seg2 (List.mem_of_getElem? (i := 79) rfl)) rfl
theorem wcode_yX8_clear_cX8_clear_2_none : Cond.code yX8_clear cX8_clear 2 none ∈ wsG := mG (seg2 (List.mem_of_getElem? (i := 82) rfl)) rfl
theorem winstanceMethod_yX8_clear : Cond.instanceMethod yX8_clear ∈ wsG := mG (seg2 (List.mem_of_getElem? (i := 81) rfl)) rfl
theorem wselects_RX8_yX8_clear_yX8_clear : Cond.selects RX8 yX8_clear yX8_clear ∈ wsG := mG (seg0 (List.mem_of_getElem? (i := 5) rfl)) rfl
theorem wmethodLink_RX8_29_yX8_addUpPulses : Cond.methodLink RX8 29 yX8_addUpPulses ∈ wsG := mG (seg2 (List.mem_of_getElem? (i := 86) rfl)) rfl
theorem wcode_yX8_addUpPulses_cX8_addUpPulses_3_none : Cond.code yX8_addUpPulses cX8_addUpPulses 3 none ∈ wsG := mG (seg2 (List.mem_of_getElem? (i := 89) rfl)) rfl
theorem winstanceMethod_yX8_addUpPulses : Cond.instanceMethod yX8_addUpPulses ∈ wsG := mG (seg2 (List.mem_of_getElem? (i := 88) rfl)) rfl
theorem wselects_RX8_yX8_addUpPulses_yX8_addUpPulses : Cond.selects RX8 yX8_addUpPulses yX8_addUpPulses ∈ wsG := mG (seg0 (List.mem_of_getElem? (i := 6) rfl)) rfl
theorem wmethodLink_RX8_50_yX8_addUpEchoes : Cond.methodLink RX8 50 yX8_addUpEchoes ∈ wsG := mG (seg2 (List.mem_of_getElem? (i := 110) rfl)) rfl
theorem wcode_yX8_addUpEchoes_cX8_addUpEchoes_2_none : Cond.code yX8_addUpEchoes cX8_addUpEchoes 2 none ∈ wsG := mG (seg2 (List.mem_of_getElem? (i := 113) rfl)) rfl
theorem winstanceMethod_yX8_addUpEchoes : Cond.instanceMethod yX8_addUpEchoes ∈ wsG := mG (seg2 (List.mem_of_getElem? (i := 112) rfl)) rfl
theorem wselects_RX8_yX8_addUpEchoes_yX8_addUpEchoes : Cond.selects RX8 yX8_addUpEchoes yX8_addUpEchoes ∈ wsG := mG (seg0 (List.mem_of_getElem? (i := 11) rfl)) rfl
theorem wfieldLink_RX3_11_LineEchoes_History_states_LLineEchoes_State : Cond.fieldLink RX3 11 "LineEchoes$History" "states" "[LLineEchoes$State;" ∈ wsG := mG (seg1 (List.mem_of_getElem? (i := 128) rfl)) rfl
theorem wfieldLink_RX3_18_LineEchoes_History_count_I : Cond.fieldLink RX3 18 "LineEchoes$History" "count" "I" ∈ wsG := mG (seg1 (List.mem_of_getElem? (i := 129) rfl)) rfl
theorem wmethodLink_RX1_41_yX1_takeLine : Cond.methodLink RX1 41 yX1_takeLine ∈ wsG := mG (seg2 (List.mem_of_getElem? (i := 22) rfl)) rfl
theorem wcode_yX1_takeLine_cX1_takeLine_2_none : Cond.code yX1_takeLine cX1_takeLine 2 none ∈ wsG := mG (seg2 (List.mem_of_getElem? (i := 25) rfl)) rfl
theorem winstanceMethod_yX1_takeLine : Cond.instanceMethod yX1_takeLine ∈ wsG := mG (seg2 (List.mem_of_getElem? (i := 23) rfl)) rfl
theorem wselects_RX1_yX1_takeLine_yX1_takeLine : Cond.selects RX1 yX1_takeLine yX1_takeLine ∈ wsG := mG (seg2 (List.mem_of_getElem? (i := 24) rfl)) rfl
theorem wmethodLink_RX1_45_yX1_takeSettings : Cond.methodLink RX1 45 yX1_takeSettings ∈ wsG := mG (seg2 (List.mem_of_getElem? (i := 29) rfl)) rfl
theorem wcode_yX1_takeSettings_cX1_takeSettings_2_none : Cond.code yX1_takeSettings cX1_takeSettings 2 none ∈ wsG := mG (seg2 (List.mem_of_getElem? (i := 32) rfl)) rfl
theorem winstanceMethod_yX1_takeSettings : Cond.instanceMethod yX1_takeSettings ∈ wsG := mG (seg2 (List.mem_of_getElem? (i := 30) rfl)) rfl
theorem wselects_RX1_yX1_takeSettings_yX1_takeSettings : Cond.selects RX1 yX1_takeSettings yX1_takeSettings ∈ wsG := mG (seg2 (List.mem_of_getElem? (i := 31) rfl)) rfl
theorem wfieldLink_RX6_12_LineEchoes_State_bench_LLineEchoes_Bench : Cond.fieldLink RX6 12 "LineEchoes$State" "bench" "LLineEchoes$Bench;" ∈ wsG := mG (seg1 (List.mem_of_getElem? (i := 103) rfl)) rfl
theorem wmethodLink_RX6_25_yX1_copyBench : Cond.methodLink RX6 25 yX1_copyBench ∈ wsG := mG (seg2 (List.mem_of_getElem? (i := 18) rfl)) rfl
theorem wcode_yX1_copyBench_cX1_copyBench_2_none : Cond.code yX1_copyBench cX1_copyBench 2 none ∈ wsG := mG (seg2 (List.mem_of_getElem? (i := 21) rfl)) rfl
theorem winstanceMethod_yX1_copyBench : Cond.instanceMethod yX1_copyBench ∈ wsG := mG (seg2 (List.mem_of_getElem? (i := 19) rfl)) rfl
theorem wselects_RX1_yX1_copyBench_yX1_copyBench : Cond.selects RX1 yX1_copyBench yX1_copyBench ∈ wsG := mG (seg2 (List.mem_of_getElem? (i := 20) rfl)) rfl
theorem wfieldLink_RX6_18_LineEchoes_State_sound_J : Cond.fieldLink RX6 18 "LineEchoes$State" "sound" "[J" ∈ wsG := mG (seg1 (List.mem_of_getElem? (i := 106) rfl)) rfl
theorem wmethodLink_RX6_29_arraycopyName : Cond.methodLink RX6 29 arraycopyName ∈ wsG := mG (seg2 (List.mem_of_getElem? (i := 33) rfl)) rfl
theorem wfieldLink_RX6_22_LineEchoes_State_seen_J : Cond.fieldLink RX6 22 "LineEchoes$State" "seen" "[J" ∈ wsG := mG (seg1 (List.mem_of_getElem? (i := 108) rfl)) rfl
theorem wmethodLink_RX3_25_yX6_copyState : Cond.methodLink RX3 25 yX6_copyState ∈ wsG := mG (seg2 (List.mem_of_getElem? (i := 14) rfl)) rfl
theorem wcode_yX6_copyState_cX6_copyState_2_none : Cond.code yX6_copyState cX6_copyState 2 none ∈ wsG := mG (seg2 (List.mem_of_getElem? (i := 17) rfl)) rfl
theorem winitialized_RX6 : Cond.initialized RX6 ∈ wsG := mG (seg1 (List.mem_of_getElem? (i := 2) rfl)) rfl
theorem winstanceMethod_yX6_copyState : Cond.instanceMethod yX6_copyState ∈ wsG := mG (seg2 (List.mem_of_getElem? (i := 15) rfl)) rfl
theorem wselects_RX6_yX6_copyState_yX6_copyState : Cond.selects RX6 yX6_copyState yX6_copyState ∈ wsG := mG (seg2 (List.mem_of_getElem? (i := 16) rfl)) rfl
theorem wmethodLink_RX3_22_yX3_moveOldestToTop : Cond.methodLink RX3 22 yX3_moveOldestToTop ∈ wsG := mG (seg2 (List.mem_of_getElem? (i := 10) rfl)) rfl
theorem wcode_yX3_moveOldestToTop_cX3_moveOldestToTop_3_none : Cond.code yX3_moveOldestToTop cX3_moveOldestToTop 3 none ∈ wsG := mG (seg2 (List.mem_of_getElem? (i := 13) rfl)) rfl
theorem winitialized_RX3 : Cond.initialized RX3 ∈ wsG := mG (seg1 (List.mem_of_getElem? (i := 4) rfl)) rfl
theorem winstanceMethod_yX3_moveOldestToTop : Cond.instanceMethod yX3_moveOldestToTop ∈ wsG := mG (seg2 (List.mem_of_getElem? (i := 12) rfl)) rfl
theorem wselects_RX3_yX3_moveOldestToTop_yX3_moveOldestToTop : Cond.selects RX3 yX3_moveOldestToTop yX3_moveOldestToTop ∈ wsG := mG (seg0 (List.mem_of_getElem? (i := 0) rfl)) rfl
theorem wfieldLink_RX4_12_LineEchoes_Peeling_line_LLineEchoes_Bench : Cond.fieldLink RX4 12 "LineEchoes$Peeling" "line" "LLineEchoes$Bench;" ∈ wsG := mG (seg1 (List.mem_of_getElem? (i := 204) rfl)) rfl
theorem wfieldLink_RX4_52_LineEchoes_Bench_count_I : Cond.fieldLink RX4 52 "LineEchoes$Bench" "count" "I" ∈ wsG := mG (seg1 (List.mem_of_getElem? (i := 49) rfl)) rfl
theorem wmethodLink_RX4_71_yX1_takeSettings : Cond.methodLink RX4 71 yX1_takeSettings ∈ wsG := mG (seg2 (List.mem_of_getElem? (i := 130) rfl)) rfl
theorem wfieldLink_RX4_74_LineEchoes_Bench_pulses_I : Cond.fieldLink RX4 74 "LineEchoes$Bench" "pulses" "I" ∈ wsG := mG (seg1 (List.mem_of_getElem? (i := 72) rfl)) rfl
theorem wfieldLink_RX4_77_LineEchoes_Bench_pulseTimes_I : Cond.fieldLink RX4 77 "LineEchoes$Bench" "pulseTimes" "[I" ∈ wsG := mG (seg1 (List.mem_of_getElem? (i := 76) rfl)) rfl
theorem wfieldLink_RX4_81_LineEchoes_Bench_pulseEnergies_I : Cond.fieldLink RX4 81 "LineEchoes$Bench" "pulseEnergies" "[I" ∈ wsG := mG (seg1 (List.mem_of_getElem? (i := 80) rfl)) rfl
theorem wfieldLink_RX4_18_LineEchoes_Peeling_result_I : Cond.fieldLink RX4 18 "LineEchoes$Peeling" "result" "I" ∈ wsG := mG (seg1 (List.mem_of_getElem? (i := 206) rfl)) rfl
theorem wfieldLink_RX4_22_LineEchoes_Peeling_endTime_I : Cond.fieldLink RX4 22 "LineEchoes$Peeling" "endTime" "I" ∈ wsG := mG (seg1 (List.mem_of_getElem? (i := 208) rfl)) rfl
theorem wmethodLink_RX4_63_yX4_endWith : Cond.methodLink RX4 63 yX4_endWith ∈ wsG := mG (seg2 (List.mem_of_getElem? (i := 139) rfl)) rfl
theorem wcode_yX4_endWith_cX4_endWith_3_none : Cond.code yX4_endWith cX4_endWith 3 none ∈ wsG := mG (seg2 (List.mem_of_getElem? (i := 142) rfl)) rfl
theorem winitialized_RX4 : Cond.initialized RX4 ∈ wsG := mG (seg1 (List.mem_of_getElem? (i := 9) rfl)) rfl
theorem winstanceMethod_yX4_endWith : Cond.instanceMethod yX4_endWith ∈ wsG := mG (seg2 (List.mem_of_getElem? (i := 141) rfl)) rfl
theorem wselects_RX4_yX4_endWith_yX4_endWith : Cond.selects RX4 yX4_endWith yX4_endWith ∈ wsG := mG (seg0 (List.mem_of_getElem? (i := 15) rfl)) rfl
theorem wfieldLink_RX4_28_LineEchoes_Peeling_trial_LLineEchoes_Wave : Cond.fieldLink RX4 28 "LineEchoes$Peeling" "trial" "LLineEchoes$Wave;" ∈ wsG := mG (seg1 (List.mem_of_getElem? (i := 210) rfl)) rfl
theorem wfieldLink_RX4_84_LineEchoes_Wave_echoes_J : Cond.fieldLink RX4 84 "LineEchoes$Wave" "echoes" "[J" ∈ wsG := mG (seg1 (List.mem_of_getElem? (i := 181) rfl)) rfl
theorem wfieldLink_RX4_87_LineEchoes_Bench_window_I : Cond.fieldLink RX4 87 "LineEchoes$Bench" "window" "I" ∈ wsG := mG (seg1 (List.mem_of_getElem? (i := 69) rfl)) rfl
theorem wcode_yX9_firstUnequal_cX9_firstUnequal_4_some_int : Cond.code yX9_firstUnequal cX9_firstUnequal 4 (some .int) ∈ wsG := mG (seg2 (List.mem_of_getElem? (i := 138) rfl)) rfl
theorem wstatic_yX9_firstUnequal : Cond.static yX9_firstUnequal ∈ wsG := mG (seg2 (List.mem_of_getElem? (i := 137) rfl)) rfl
theorem wmethodLink_RX4_55_yX1_reach : Cond.methodLink RX4 55 yX1_reach ∈ wsG := mG (seg2 (List.mem_of_getElem? (i := 143) rfl)) rfl
theorem wcode_yX1_reach_cX1_reach_4_some_int : Cond.code yX1_reach cX1_reach 4 (some .int) ∈ wsG := mG (seg2 (List.mem_of_getElem? (i := 48) rfl)) rfl
theorem winstanceMethod_yX1_reach : Cond.instanceMethod yX1_reach ∈ wsG := mG (seg2 (List.mem_of_getElem? (i := 46) rfl)) rfl
theorem wselects_RX1_yX1_reach_yX1_reach : Cond.selects RX1 yX1_reach yX1_reach ∈ wsG := mG (seg2 (List.mem_of_getElem? (i := 47) rfl)) rfl
theorem wfieldLink_RX4_123_LineEchoes_Bench_least_I : Cond.fieldLink RX4 123 "LineEchoes$Bench" "least" "I" ∈ wsG := mG (seg1 (List.mem_of_getElem? (i := 65) rfl)) rfl
theorem wmethodLink_RX4_102_yX4_kept : Cond.methodLink RX4 102 yX4_kept ∈ wsG := mG (seg2 (List.mem_of_getElem? (i := 152) rfl)) rfl
theorem wcode_yX4_kept_cX4_kept_3_some_long : Cond.code yX4_kept cX4_kept 3 (some .long) ∈ wsG := mG (seg2 (List.mem_of_getElem? (i := 155) rfl)) rfl
theorem winstanceMethod_yX4_kept : Cond.instanceMethod yX4_kept ∈ wsG := mG (seg2 (List.mem_of_getElem? (i := 154) rfl)) rfl
theorem wselects_RX4_yX4_kept_yX4_kept : Cond.selects RX4 yX4_kept yX4_kept ∈ wsG := mG (seg0 (List.mem_of_getElem? (i := 18) rfl)) rfl
theorem wfieldLink_RX4_106_LineEchoes_Wave_fromNear_J : Cond.fieldLink RX4 106 "LineEchoes$Wave" "fromNear" "[[J" ∈ wsG := mG (seg1 (List.mem_of_getElem? (i := 176) rfl)) rfl
theorem wfieldLink_RX4_110_LineEchoes_Bench_fractions_I : Cond.fieldLink RX4 110 "LineEchoes$Bench" "fractions" "[I" ∈ wsG := mG (seg1 (List.mem_of_getElem? (i := 57) rfl)) rfl
theorem wfieldLink_RX4_117_LineEchoes_Bench_lengths_I : Cond.fieldLink RX4 117 "LineEchoes$Bench" "lengths" "[I" ∈ wsG := mG (seg1 (List.mem_of_getElem? (i := 52) rfl)) rfl
theorem wfieldLink_RX4_120_LineEchoes_Bench_front_I : Cond.fieldLink RX4 120 "LineEchoes$Bench" "front" "I" ∈ wsG := mG (seg1 (List.mem_of_getElem? (i := 62) rfl)) rfl
theorem wmethodLink_RX4_98_yX4_echoOfNewEnd : Cond.methodLink RX4 98 yX4_echoOfNewEnd ∈ wsG := mG (seg2 (List.mem_of_getElem? (i := 157) rfl)) rfl
theorem wcode_yX4_echoOfNewEnd_cX4_echoOfNewEnd_12_some_long : Cond.code yX4_echoOfNewEnd cX4_echoOfNewEnd 12 (some .long) ∈ wsG := mG (seg2 (List.mem_of_getElem? (i := 160) rfl)) rfl
theorem winstanceMethod_yX4_echoOfNewEnd : Cond.instanceMethod yX4_echoOfNewEnd ∈ wsG := mG (seg2 (List.mem_of_getElem? (i := 159) rfl)) rfl
theorem wselects_RX4_yX4_echoOfNewEnd_yX4_echoOfNewEnd : Cond.selects RX4 yX4_echoOfNewEnd yX4_echoOfNewEnd ∈ wsG := mG (seg0 (List.mem_of_getElem? (i := 19) rfl)) rfl
theorem wmethodLink_RX4_94_yX4_energyBeyondEnd : Cond.methodLink RX4 94 yX4_energyBeyondEnd ∈ wsG := mG (seg2 (List.mem_of_getElem? (i := 148) rfl)) rfl
theorem wcode_yX4_energyBeyondEnd_cX4_energyBeyondEnd_4_some_long : Cond.code yX4_energyBeyondEnd cX4_energyBeyondEnd 4 (some .long) ∈ wsG := mG (seg2 (List.mem_of_getElem? (i := 151) rfl)) rfl
theorem winstanceMethod_yX4_energyBeyondEnd : Cond.instanceMethod yX4_energyBeyondEnd ∈ wsG := mG (seg2 (List.mem_of_getElem? (i := 150) rfl)) rfl
theorem wselects_RX4_yX4_energyBeyondEnd_yX4_energyBeyondEnd : Cond.selects RX4 yX4_energyBeyondEnd yX4_energyBeyondEnd ∈ wsG := mG (seg0 (List.mem_of_getElem? (i := 17) rfl)) rfl
theorem wmethodLink_RX4_41_yX8_spread : Cond.methodLink RX4 41 yX8_spread ∈ wsG := mG (seg2 (List.mem_of_getElem? (i := 131) rfl)) rfl
theorem wcode_yX8_spread_cX8_spread_4_none : Cond.code yX8_spread cX8_spread 4 none ∈ wsG := mG (seg2 (List.mem_of_getElem? (i := 78) rfl)) rfl
theorem winstanceMethod_yX8_spread : Cond.instanceMethod yX8_spread ∈ wsG := mG (seg2 (List.mem_of_getElem? (i := 76) rfl)) rfl
theorem wselects_RX8_yX8_spread_yX8_spread : Cond.selects RX8 yX8_spread yX8_spread ∈ wsG := mG (seg2 (List.mem_of_getElem? (i := 77) rfl)) rfl
theorem wfieldLink_RX4_44_LineEchoes_State_seen_J : Cond.fieldLink RX4 44 "LineEchoes$State" "seen" "[J" ∈ wsG := mG (seg1 (List.mem_of_getElem? (i := 109) rfl)) rfl
theorem wmethodLink_RX4_48_yX4_timeOfNextPart : Cond.methodLink RX4 48 yX4_timeOfNextPart ∈ wsG := mG (seg2 (List.mem_of_getElem? (i := 132) rfl)) rfl
theorem wcode_yX4_timeOfNextPart_cX4_timeOfNextPart_4_some_int : Cond.code yX4_timeOfNextPart cX4_timeOfNextPart 4 (some .int) ∈ wsG := mG (seg2 (List.mem_of_getElem? (i := 135) rfl)) rfl
theorem winstanceMethod_yX4_timeOfNextPart : Cond.instanceMethod yX4_timeOfNextPart ∈ wsG := mG (seg2 (List.mem_of_getElem? (i := 134) rfl)) rfl
theorem wselects_RX4_yX4_timeOfNextPart_yX4_timeOfNextPart : Cond.selects RX4 yX4_timeOfNextPart yX4_timeOfNextPart ∈ wsG := mG (seg0 (List.mem_of_getElem? (i := 14) rfl)) rfl
theorem wmethodLink_RX4_59_yX4_smallestFraction : Cond.methodLink RX4 59 yX4_smallestFraction ∈ wsG := mG (seg2 (List.mem_of_getElem? (i := 144) rfl)) rfl
theorem wcode_yX4_smallestFraction_cX4_smallestFraction_10_some_int : Cond.code yX4_smallestFraction cX4_smallestFraction 10 (some .int) ∈ wsG := mG (seg2 (List.mem_of_getElem? (i := 147) rfl)) rfl
theorem winstanceMethod_yX4_smallestFraction : Cond.instanceMethod yX4_smallestFraction ∈ wsG := mG (seg2 (List.mem_of_getElem? (i := 146) rfl)) rfl
theorem wselects_RX4_yX4_smallestFraction_yX4_smallestFraction : Cond.selects RX4 yX4_smallestFraction yX4_smallestFraction ∈ wsG := mG (seg0 (List.mem_of_getElem? (i := 16) rfl)) rfl
theorem wmethodLink_RX4_67_yX1_append : Cond.methodLink RX4 67 yX1_append ∈ wsG := mG (seg2 (List.mem_of_getElem? (i := 161) rfl)) rfl
theorem wcode_yX1_append_cX1_append_3_some_int : Cond.code yX1_append cX1_append 3 (some .int) ∈ wsG := mG (seg2 (List.mem_of_getElem? (i := 164) rfl)) rfl
theorem winstanceMethod_yX1_append : Cond.instanceMethod yX1_append ∈ wsG := mG (seg2 (List.mem_of_getElem? (i := 162) rfl)) rfl
theorem wselects_RX1_yX1_append_yX1_append : Cond.selects RX1 yX1_append yX1_append ∈ wsG := mG (seg2 (List.mem_of_getElem? (i := 163) rfl)) rfl
theorem wfieldLink_RX4_32_LineEchoes_State_bench_LLineEchoes_Bench : Cond.fieldLink RX4 32 "LineEchoes$State" "bench" "LLineEchoes$Bench;" ∈ wsG := mG (seg1 (List.mem_of_getElem? (i := 104) rfl)) rfl
theorem wmethodLink_RX4_37_yX4_startLine : Cond.methodLink RX4 37 yX4_startLine ∈ wsG := mG (seg2 (List.mem_of_getElem? (i := 126) rfl)) rfl
theorem wcode_yX4_startLine_cX4_startLine_2_none : Cond.code yX4_startLine cX4_startLine 2 none ∈ wsG := mG (seg2 (List.mem_of_getElem? (i := 129) rfl)) rfl
theorem winstanceMethod_yX4_startLine : Cond.instanceMethod yX4_startLine ∈ wsG := mG (seg2 (List.mem_of_getElem? (i := 128) rfl)) rfl
theorem wselects_RX4_yX4_startLine_yX4_startLine : Cond.selects RX4 yX4_startLine yX4_startLine ∈ wsG := mG (seg0 (List.mem_of_getElem? (i := 13) rfl)) rfl
