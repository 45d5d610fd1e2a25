/-! THE CLASS: what stands in the heap from the start -/
def exN : Nat → String
  | 0 => "java/lang/IndexOutOfBoundsException"
  | 1 => "java/lang/IllegalArgumentException"
  | _ => "java/lang/IllegalStateException"
/-- a callee that may throw: the throw goes on -/
def bx {α β : Type} (a : Option (Nat ⊕ α)) (k : α → Option (Nat ⊕ β)) : Option (Nat ⊕ β) := match a with
  | none => none
  | some (.inl e) => some (.inl e)
  | some (.inr x) => k x
theorem bx_some {α β : Type} {a : Option (Nat ⊕ α)} {k : α → Option (Nat ⊕ β)} {o : Nat ⊕ β} (h : bx a k = some o) : (∃ e, a = some (.inl e) ∧ o = .inl e) ∨ ∃ x, a = some (.inr x) ∧ k x = some o := by
  unfold bx at h
  split at h
  · cases h
  · cases h
    exact Or.inl ⟨_, rfl, rfl⟩
  · exact Or.inr ⟨_, rfl, h⟩
/-- a callee that must not throw here -/
def bn {α β : Type} (a : Option (Nat ⊕ α)) (k : α → Option β) : Option β := match a with
  | some (.inr x) => k x
  | _ => none
theorem bn_some {α β : Type} {a : Option (Nat ⊕ α)} {k : α → Option β} {o : β} (h : bn a k = some o) : ∃ x, a = some (.inr x) ∧ k x = some o := by
  unfold bn at h
  split at h
  · exact ⟨_, rfl, h⟩
  · cases h
def cmdNm : List String := ["PART", "SET", "CUT", "SPLIT", "PULSE", "SOUND", "LOOK", "ADOPT"]
def verNm : List String := ["FINE", "NO_SUCH_NUMBER", "OUT_OF_RANGE", "NO_ROOM"]
def cmdF : List (String × String × String × List Int32) := [("java/lang/Enum", "ordinal", "I", [0, 1, 2, 3, 4, 5, 6, 7]), ("LineEchoes$Command", "numberCount", "I", [2, 3, 1, 3, 2, 0, 0, 0])]
def verF : List (String × String × String × List Int32) := [("java/lang/Enum", "ordinal", "I", [0, 1, 2, 3])]
def cmdN (i : Nat) : Int32 := ([2, 3, 1, 3, 2, 0, 0, 0] : List Int32).getD i 0
def msgs : List (Nat × String) := [(376, "an argument is out of range"), (368, "there is no such number"), (382, "there is no room for more"), (125, "it is the only pulse"), (388, "an argument is negative"), (227, "the script is full"), (259, "no state is saved")]
/-- E 0: the commands, E 1: the verdicts, E 2 0: the switch table, E 3: texts of messages by their pool places -/
def SFN (U : State) : Prop := va_Nw (.methodLinkNest "LineEchoes$Bench" 54 yX9_isWithin "LineEchoes") U ∧ va_Nw (.methodLinkNest "LineEchoes$Wave" 78 yX9_turnedBack "LineEchoes") U ∧ va_Nw (.methodLinkNest "LineEchoes$Peeling" 90 yX9_firstUnequal "LineEchoes") U ∧ va_Nw (.methodLinkNest "LineEchoes$Peeling" 113 yX9_turnedBack "LineEchoes") U
def excNm : List String := ["java/lang/RuntimeException", "java/lang/Exception"]
def excB : List Cond := [.declares (Bundle.initS "java/lang/RuntimeException"), .declares (Bundle.initS "java/lang/Exception"), .declares (Bundle.initS "java/lang/Throwable"), .castable "java/lang/IndexOutOfBoundsException" "java/lang/IndexOutOfBoundsException", .castable "java/lang/IllegalArgumentException" "java/lang/IllegalArgumentException", .castable "java/lang/IllegalStateException" "java/lang/IllegalStateException"]
def SFX (U : State) : Prop := va_Nw (.declares (Bundle.initS "java/lang/RuntimeException")) U ∧ va_Nw (.declares (Bundle.initS "java/lang/Exception")) U ∧ va_Nw (.declares (Bundle.initS "java/lang/Throwable")) U ∧ va_Nw (.castable "java/lang/IndexOutOfBoundsException" "java/lang/IndexOutOfBoundsException") U ∧ va_Nw (.castable "java/lang/IllegalArgumentException" "java/lang/IllegalArgumentException") U ∧ va_Nw (.castable "java/lang/IllegalStateException" "java/lang/IllegalStateException") U
theorem SFX.warm {s U : State} (hW : s.WarmedH U.vm) (h : SFX s) : SFX U := ⟨h.1.warmD hW, h.2.1.warmD hW, h.2.2.1.warmD hW, h.2.2.2.1.warmC hW, h.2.2.2.2.1.warmC hW, h.2.2.2.2.2.warmC hW⟩
theorem SFX.use {args : Array Value} {U : State} (h : SFX U) : ∀ w ∈ excB, w.before args U = true := by
  intro w hw
  simp only [excB, List.mem_cons, List.not_mem_nil, or_false] at hw
  rcases hw with rfl | rfl | rfl | rfl | rfl | rfl
  · exact h.1.use rfl
  · exact h.2.1.use rfl
  · exact h.2.2.1.use rfl
  · exact h.2.2.2.1.use rfl
  · exact h.2.2.2.2.1.use rfl
  · exact h.2.2.2.2.2.use rfl
def SFG0 (E : Nat → Nat → Nat) : SG := fun A U H =>
  va_En "LineEchoes$Command" "LLineEchoes$Command;" cmdNm cmdF (E 0) A U H ∧ va_En "LineEchoes$Verdict" "LLineEchoes$Verdict;" verNm verF (E 1) A U H ∧ va_Z "LineEchoes$1" "$SwitchMap$LineEchoes$Command" "[I" (.ref (E 2 0)) A U H ∧ va_T .int (E 2 0) 8 (fun j => .int (nI (j + 1))) A U H ∧
  vx_Zq Bundle.tN "UNASSIGNED_STACK" Bundle.steD A U H ∧ vx_Zq Bundle.tN "SUPPRESSED_SENTINEL" Bundle.listD A U H ∧ SFN U ∧ SFX U ∧ ∀ q ∈ msgs, vk_R "LineEchoes" q.1 q.2 (E 3 q.1) U
theorem SFG0.stat (E : Nat → Nat → Nat) : Stat (SFG0 E) := by
  refine ⟨fun A u U H hW h => ?_, fun A U H H1 h hq => ?_, fun A B U H h hAB => ?_⟩
  · obtain ⟨h1, h2, h3, h4, h5, h6, h8, h9, h7⟩ := h
    exact ⟨h1.moved hW.alike, h2.moved hW.alike, h3.moved hW.alike, h4.moved hW.alike, h5.moved hW.alike, h6.moved hW.alike, ⟨h8.1.warmM hW, h8.2.1.warmM hW, h8.2.2.1.warmM hW, h8.2.2.2.warmM hW⟩, h9.warm hW, fun q hq => (h7 q hq).warm hW⟩
  · obtain ⟨h1, h2, h3, h4, h5, h6, h8, h9, h7⟩ := h
    exact ⟨h1.kept hq, h2.kept hq, h3.kept hq, h4.kept hq, h5.kept hq, h6.kept hq, h8, h9, h7⟩
  · obtain ⟨h1, h2, h3, h4, h5, h6, h8, h9, h7⟩ := h
    exact ⟨h1.narrow hAB, h2.narrow hAB, h3.narrow hAB, h4.narrow hAB, h5.narrow hAB, h6.narrow hAB, h8, h9, h7⟩
def wlen : List Nat := [4, 3, 3, 5, 5, 5, 4, 5]
def wbyt : List (List Int32) := [[112, 97, 114, 116], [115, 101, 116], [99, 117, 116], [115, 112, 108, 105, 116], [112, 117, 108, 115, 101], [115, 111, 117, 110, 100], [108, 111, 111, 107], [97, 100, 111, 112, 116]]
/-- E 4, E 5: the words of the commands and their bytes; E 2 1: the array of all commands -/
def SFC (U : State) : Prop := va_Nc "java/lang/IllegalArgumentException" "java/lang/IndexOutOfBoundsException" U ∧ va_Nc "java/lang/IllegalStateException" "java/lang/IndexOutOfBoundsException" U ∧ va_Nc "java/lang/IllegalStateException" "java/lang/IllegalArgumentException" U
def SFW (E : Nat → Nat → Nat) : SG := fun A U H =>
  vk_S 8 wlen wbyt (E 4) (E 5) A U H ∧ (∀ i : Nat, i < 8 → va_OF "LineEchoes$Command" "word" "Ljava/lang/String;" (.ref (E 4 i)) (E 0 i) A U H) ∧ va_Z "java/lang/String" "COMPACT_STRINGS" "Z" (.int 1) A U H ∧ va_Zq "jdk/internal/util/Preconditions" "SIOOBE_FORMATTER" "Ljava/util/function/BiFunction;" A U H ∧ va_Z "LineEchoes$Command" "ALL" "[LLineEchoes$Command;" (.ref (E 2 1)) A U H ∧ va_T (.object "LineEchoes$Command") (E 2 1) 8 (fun j => .ref (E 0 j)) A U H ∧ SFC U
theorem SFW.stat (E : Nat → Nat → Nat) : Stat (SFW E) := by
  refine ⟨fun A u U H hW h => ?_, fun A U H H1 h hq => ?_, fun A B U H h hAB => ?_⟩
  · obtain ⟨h1, h2, h3, h4, h5, h6, h7⟩ := h
    exact ⟨h1.moved hW.alike, fun i hi => (h2 i hi).moved hW.alike, h3.moved hW.alike, h4.moved hW.alike, h5.moved hW.alike, h6.moved hW.alike, h7.1.moved hW.alike, h7.2.1.moved hW.alike, h7.2.2.moved hW.alike⟩
  · obtain ⟨h1, h2, h3, h4, h5, h6, h7⟩ := h
    exact ⟨h1.kept hq, fun i hi => (h2 i hi).kept hq, h3.kept hq, h4.kept hq, h5.kept hq, h6.kept hq, h7⟩
  · obtain ⟨h1, h2, h3, h4, h5, h6, h7⟩ := h
    exact ⟨h1.narrow hAB, fun i hi => (h2 i hi).narrow hAB, h3.narrow hAB, h4.narrow hAB, h5.narrow hAB, h6.narrow hAB, h7⟩
def SFG (E : Nat → Nat → Nat) : SG := fun A U H => SFG0 E A U H ∧ SFW E A U H
theorem SFG.stat (E : Nat → Nat → Nat) : Stat (SFG E) := ⟨fun A u U H hW h => ⟨(SFG0.stat E).1 A u U H hW h.1, (SFW.stat E).1 A u U H hW h.2⟩, fun A U H H1 h hq => ⟨(SFG0.stat E).2.1 A U H H1 h.1 hq, (SFW.stat E).2.1 A U H H1 h.2 hq⟩, fun A B U H h hAB => ⟨(SFG0.stat E).2.2 A B U H h.1 hAB, (SFW.stat E).2.2 A B U H h.2 hAB⟩⟩
theorem nest0 {E : Nat → Nat → Nat} : ∀ (A : Nat → Prop) (U : State) (H : Heap), SFG E A U H → va_Nw (.methodLinkNest RX1 54 yX9_isWithin "LineEchoes") U := fun _ _ _ h => h.1.2.2.2.2.2.2.1.1
theorem nest1 {E : Nat → Nat → Nat} : ∀ (A : Nat → Prop) (U : State) (H : Heap), SFG E A U H → va_Nw (.methodLinkNest RX8 78 yX9_turnedBack "LineEchoes") U := fun _ _ _ h => h.1.2.2.2.2.2.2.1.2.1
theorem nest2 {E : Nat → Nat → Nat} : ∀ (A : Nat → Prop) (U : State) (H : Heap), SFG E A U H → va_Nw (.methodLinkNest RX4 90 yX9_firstUnequal "LineEchoes") U := fun _ _ _ h => h.1.2.2.2.2.2.2.1.2.2.1
theorem nest3 {E : Nat → Nat → Nat} : ∀ (A : Nat → Prop) (U : State) (H : Heap), SFG E A U H → va_Nw (.methodLinkNest RX4 113 yX9_turnedBack "LineEchoes") U := fun _ _ _ h => h.1.2.2.2.2.2.2.1.2.2.2
theorem fit_z {v : Int32} (h : v = 0 ∨ v = 1) : fits .boolean (.int v) = true := by
  rcases h with rfl | rfl <;> rfl
theorem lt9 {i : Nat} (h : i < 9) : i = 0 ∨ i = 1 ∨ i = 2 ∨ i = 3 ∨ i = 4 ∨ i = 5 ∨ i = 6 ∨ i = 7 ∨ i = 8 := by omega
theorem inb_nat {j : Int32} {n : Nat} (h : inb j n) : ∃ i : Nat, i < n ∧ j.toNatClampNeg = i ∧ j.toInt = (i : Int) := by
  refine ⟨j.toNatClampNeg, ?_, rfl, ?_⟩
  · have := h.1; have := h.2
    have e : j.toNatClampNeg = j.toInt.toNat := rfl
    omega
  · have e : j.toNatClampNeg = j.toInt.toNat := rfl
    have := h.1
    omega
theorem inb_lt {j : Int32} {n : Nat} (h : inb j n) : j.toNatClampNeg < n := by
  obtain ⟨i, h1, h2, -⟩ := inb_nat h
  omega
/-- the saved states by their places; the rows of a grid -/
def hst (a : Nat → Nat) (p : Nat → Nat) : Nat → Option Nat := fun j => some (a (11 + 8 * p j))
def rws (a : Nat → Nat) (f : Nat) : Nat → Option Nat := fun i => if i < 9 then some (a (f + i)) else none
theorem rws_ref {a : Nat → Nat} {f : Nat} {i : Int32} (h : inb i 9) : va_rf (rws a f i.toNatClampNeg) = .ref (a (f + i.toNatClampNeg)) := by
  simp [rws, va_rf, inb_lt h]
theorem hst_up {a p : Nat → Nat} {i v : Nat} : va_up (hst a p) i (some (a (11 + 8 * v))) = hst a (va_up p i v) := by
  funext j
  simp only [va_up, hst]
  split <;> rfl
set_option maxRecDepth 20000 in
theorem inG1 : ∀ w ∈ wsX10, w ∈ wsG := fun w h => mG ((goodIn_r wsX10 [162, 164, 166, 168, 170, 172, 174, 176, 178] (by decide +kernel) (by decide +kernel) w h).1) (List.all_eq_true.mp (show wsX10.all goodWord = true by decide +kernel) w h)
set_option maxRecDepth 20000 in
theorem inG3 : ∀ w ∈ wsX30, w ∈ wsG := fun w h => mG ((goodIn_r wsX30 [210, 212] (by decide +kernel) (by decide +kernel) w h).1) (List.all_eq_true.mp (show wsX30.all goodWord = true by decide +kernel) w h)
set_option maxRecDepth 20000 in
theorem inG4 : ∀ w ∈ wsX40, w ∈ wsG := fun w h => mG ((goodIn_r wsX40 [290, 292, 294, 296] (by decide +kernel) (by decide +kernel) w h).1) (List.all_eq_true.mp (show wsX40.all goodWord = true by decide +kernel) w h)
set_option maxRecDepth 20000 in
theorem inG5 : ∀ w ∈ wsX50, w ∈ wsG := fun w h => mG ((goodIn_r wsX50 [232, 234, 236, 238, 240, 242] (by decide +kernel) (by decide +kernel) w h).1) (List.all_eq_true.mp (show wsX50.all goodWord = true by decide +kernel) w h)
set_option maxRecDepth 20000 in
theorem inG6 : ∀ w ∈ wsX60, w ∈ wsG := fun w h => mG ((goodIn_r wsX60 [190, 192, 194] (by decide +kernel) (by decide +kernel) w h).1) (List.all_eq_true.mp (show wsX60.all goodWord = true by decide +kernel) w h)
set_option maxRecDepth 20000 in
theorem inG8 : ∀ w ∈ wsX80, w ∈ wsG := fun w h => mG ((goodIn_r wsX80 [264, 266, 268, 270] (by decide +kernel) (by decide +kernel) w h).1) (List.all_eq_true.mp (show wsX80.all goodWord = true by decide +kernel) w h)
set_option maxRecDepth 20000 in
theorem inG9 : ∀ w ∈ wsX90, w ∈ wsG := fun w h => mG ((goodIn_r wsX90 [306, 308, 310, 312, 314, 316, 318] (by decide +kernel) (by decide +kernel) w h).1) (List.all_eq_true.mp (show wsX90.all goodWord = true by decide +kernel) w h)
theorem wNatCopy : Cond.native arraycopyName ∈ wsG := mG (seg2 (List.mem_of_getElem? (i := 28) rfl)) rfl
theorem wStatCopy : Cond.static arraycopyName ∈ wsG := mG (seg2 (List.mem_of_getElem? (i := 27) rfl)) rfl
theorem wIniSystem : Cond.initialized "java/lang/System" ∈ wsG := mG (seg1 (List.mem_of_getElem? (i := 19) rfl)) rfl
theorem wIniMath : Cond.initialized "java/lang/Math" ∈ wsG := mG (seg1 (List.mem_of_getElem? (i := 21) rfl)) rfl
theorem wStatMax : Cond.static Lib.MathLoose.max_long.x ∈ wsG := mG (seg2 (List.mem_of_getElem? (i := 115) rfl)) rfl
theorem wCodeMax : Cond.code Lib.MathLoose.max_long.x Lib.MathLoose.max_long.code 4 (some .long) ∈ wsG := mG (seg2 (List.mem_of_getElem? (i := 116) rfl)) rfl
theorem wStatMin : Cond.static Lib.Math.min.name ∈ wsG := mG (seg3 (List.mem_of_getElem? (i := 220) rfl)) rfl
theorem wCodeMin : Cond.code Lib.Math.min.name Lib.Math.min.code 2 (some .int) ∈ wsG := mG (seg3 (List.mem_of_getElem? (i := 221) rfl)) rfl
theorem wOrdLink : Cond.fieldLink RJx29ce0 7 "java/lang/Enum" "ordinal" "I" ∈ wsG := mG (seg6 (List.mem_of_getElem? (i := 181) rfl)) rfl
theorem wOrdSame : Cond.sameMethod "LineEchoes$Command" "java/lang/Enum" "ordinal" "()I" ∈ wsG := mG (seg2 (List.mem_of_getElem? (i := 62) rfl)) rfl
theorem wOrdSel : Cond.selects "LineEchoes$Command" ⟨"LineEchoes$Command", "ordinal", "()I"⟩ yJx29ce0_ordinal_8abf5 ∈ wsG := mG (seg2 (List.mem_of_getElem? (i := 64) rfl)) rfl
theorem wOrdInst : Cond.instanceMethod yJx29ce0_ordinal_8abf5 ∈ wsG := mG (seg2 (List.mem_of_getElem? (i := 65) rfl)) rfl
theorem wOrdIni : Cond.initialized RJx29ce0 ∈ wsG := mG (seg1 (List.mem_of_getElem? (i := 6) rfl)) rfl
theorem wOrdCode : Cond.code yJx29ce0_ordinal_8abf5 cJx29ce0_ordinal_8abf5 1 (some .int) ∈ wsG := mG (seg2 (List.mem_of_getElem? (i := 66) rfl)) rfl
/-- THE CLASS'S WORLD -/
abbrev wL (E : Nat → Nat → Nat) (a : Nat → Nat) (T : Nat → ClassId) (c_waveIsFresh : Int32) (c_peelingIsFresh : Int32) (c_n_count : Int32) (c_n_front : Int32) (c_n_least : Int32) (c_n_window : Int32) (c_n_pulses : Int32) (c_n_lengths : Nat → Int32) (c_n_fractions : Nat → Int32) (c_n_pulseTimes : Nat → Int32) (c_n_pulseEnergies : Nat → Int32) (c_n_sound : Nat → Int64) (c_n_seen : Nat → Int64) (c_hcount : Int32) (c_hp : Nat → Nat) (c_h0_count : Int32) (c_h0_front : Int32) (c_h0_least : Int32) (c_h0_window : Int32) (c_h0_pulses : Int32) (c_h0_lengths : Nat → Int32) (c_h0_fractions : Nat → Int32) (c_h0_pulseTimes : Nat → Int32) (c_h0_pulseEnergies : Nat → Int32) (c_h0_sound : Nat → Int64) (c_h0_seen : Nat → Int64) (c_h1_count : Int32) (c_h1_front : Int32) (c_h1_least : Int32) (c_h1_window : Int32) (c_h1_pulses : Int32) (c_h1_lengths : Nat → Int32) (c_h1_fractions : Nat → Int32) (c_h1_pulseTimes : Nat → Int32) (c_h1_pulseEnergies : Nat → Int32) (c_h1_sound : Nat → Int64) (c_h1_seen : Nat → Int64) (c_h2_count : Int32) (c_h2_front : Int32) (c_h2_least : Int32) (c_h2_window : Int32) (c_h2_pulses : Int32) (c_h2_lengths : Nat → Int32) (c_h2_fractions : Nat → Int32) (c_h2_pulseTimes : Nat → Int32) (c_h2_pulseEnergies : Nat → Int32) (c_h2_sound : Nat → Int64) (c_h2_seen : Nat → Int64) (c_s_length : Int32) (c_s_command : Nat) (c_s_position : Int32) (c_s_fault : Int32) (c_s_bytes : Nat → Int32) (c_s_numbers : Nat → Int32) (c_w_near : Nat → Nat → Int64) (c_w_far : Nat → Nat → Int64) (c_w_echoes : Nat → Int64) (c_w_totals : Nat → Int64) (c_p_result : Int32) (c_p_endTime : Int32) (c_q_count : Int32) (c_q_front : Int32) (c_q_least : Int32) (c_q_window : Int32) (c_q_pulses : Int32) (c_q_lengths : Nat → Int32) (c_q_fractions : Nat → Int32) (c_q_pulseTimes : Nat → Int32) (c_q_pulseEnergies : Nat → Int32) (c_t_near : Nat → Nat → Int64) (c_t_far : Nat → Nat → Int64) (c_t_echoes : Nat → Int64) (c_t_totals : Nat → Int64) : va_W := [(a 0, .inr (7, [.ref (a 1), .ref (a 9), .ref (a 35), .ref (a 38), .ref (a 61), .int c_waveIsFresh, .int c_peelingIsFresh])), (a 1, .inr (5, [.ref (a 2), .ref (a 7), .ref (a 8)])), (a 2, .inr (0, [.int c_n_count, .ref (a 3), .ref (a 4), .int c_n_front, .int c_n_least, .int c_n_window, .int c_n_pulses, .ref (a 5), .ref (a 6)])), (a 3, .inl (T 1, 8, .inl c_n_lengths)), (a 4, .inl (T 1, 8, .inl c_n_fractions)), (a 5, .inl (T 1, 4, .inl c_n_pulseTimes)), (a 6, .inl (T 1, 4, .inl c_n_pulseEnergies)), (a 7, .inl (T 0, 201, .inr (.inl c_n_sound))), (a 8, .inl (T 0, 201, .inr (.inl c_n_seen))), (a 9, .inr (2, [.ref (a 10), .int c_hcount])), (a 10, .inl (T 3, 3, .inr (.inr (.inr (.inr (hst a c_hp)))))), (a 11, .inr (5, [.ref (a 12), .ref (a 17), .ref (a 18)])), (a 12, .inr (0, [.int c_h0_count, .ref (a 13), .ref (a 14), .int c_h0_front, .int c_h0_least, .int c_h0_window, .int c_h0_pulses, .ref (a 15), .ref (a 16)])), (a 13, .inl (T 1, 8, .inl c_h0_lengths)), (a 14, .inl (T 1, 8, .inl c_h0_fractions)), (a 15, .inl (T 1, 4, .inl c_h0_pulseTimes)), (a 16, .inl (T 1, 4, .inl c_h0_pulseEnergies)), (a 17, .inl (T 0, 201, .inr (.inl c_h0_sound))), (a 18, .inl (T 0, 201, .inr (.inl c_h0_seen))), (a 19, .inr (5, [.ref (a 20), .ref (a 25), .ref (a 26)])), (a 20, .inr (0, [.int c_h1_count, .ref (a 21), .ref (a 22), .int c_h1_front, .int c_h1_least, .int c_h1_window, .int c_h1_pulses, .ref (a 23), .ref (a 24)])), (a 21, .inl (T 1, 8, .inl c_h1_lengths)), (a 22, .inl (T 1, 8, .inl c_h1_fractions)), (a 23, .inl (T 1, 4, .inl c_h1_pulseTimes)), (a 24, .inl (T 1, 4, .inl c_h1_pulseEnergies)), (a 25, .inl (T 0, 201, .inr (.inl c_h1_sound))), (a 26, .inl (T 0, 201, .inr (.inl c_h1_seen))), (a 27, .inr (5, [.ref (a 28), .ref (a 33), .ref (a 34)])), (a 28, .inr (0, [.int c_h2_count, .ref (a 29), .ref (a 30), .int c_h2_front, .int c_h2_least, .int c_h2_window, .int c_h2_pulses, .ref (a 31), .ref (a 32)])), (a 29, .inl (T 1, 8, .inl c_h2_lengths)), (a 30, .inl (T 1, 8, .inl c_h2_fractions)), (a 31, .inl (T 1, 4, .inl c_h2_pulseTimes)), (a 32, .inl (T 1, 4, .inl c_h2_pulseEnergies)), (a 33, .inl (T 0, 201, .inr (.inl c_h2_sound))), (a 34, .inl (T 0, 201, .inr (.inl c_h2_seen))), (a 35, .inr (4, [.ref (a 36), .int c_s_length, .ref (E 0 c_s_command), .ref (a 37), .int c_s_position, .int c_s_fault])), (a 36, .inl (T 2, 120, .inl c_s_bytes)), (a 37, .inl (T 1, 3, .inl c_s_numbers)), (a 38, .inr (6, [.ref (a 39), .ref (a 40), .ref (a 41), .ref (a 42)])), (a 39, .inl (T 4, 9, .inr (.inr (.inr (.inr (rws a 43)))))), (a 40, .inl (T 4, 9, .inr (.inr (.inr (.inr (rws a 52)))))), (a 41, .inl (T 0, 201, .inr (.inl c_w_echoes))), (a 42, .inl (T 0, 9, .inr (.inl c_w_totals))), (a 43, .inl (T 0, 201, .inr (.inl (c_w_near 0)))), (a 44, .inl (T 0, 201, .inr (.inl (c_w_near 1)))), (a 45, .inl (T 0, 201, .inr (.inl (c_w_near 2)))), (a 46, .inl (T 0, 201, .inr (.inl (c_w_near 3)))), (a 47, .inl (T 0, 201, .inr (.inl (c_w_near 4)))), (a 48, .inl (T 0, 201, .inr (.inl (c_w_near 5)))), (a 49, .inl (T 0, 201, .inr (.inl (c_w_near 6)))), (a 50, .inl (T 0, 201, .inr (.inl (c_w_near 7)))), (a 51, .inl (T 0, 201, .inr (.inl (c_w_near 8)))), (a 52, .inl (T 0, 201, .inr (.inl (c_w_far 0)))), (a 53, .inl (T 0, 201, .inr (.inl (c_w_far 1)))), (a 54, .inl (T 0, 201, .inr (.inl (c_w_far 2)))), (a 55, .inl (T 0, 201, .inr (.inl (c_w_far 3)))), (a 56, .inl (T 0, 201, .inr (.inl (c_w_far 4)))), (a 57, .inl (T 0, 201, .inr (.inl (c_w_far 5)))), (a 58, .inl (T 0, 201, .inr (.inl (c_w_far 6)))), (a 59, .inl (T 0, 201, .inr (.inl (c_w_far 7)))), (a 60, .inl (T 0, 201, .inr (.inl (c_w_far 8)))), (a 61, .inr (3, [.ref (a 62), .int c_p_result, .int c_p_endTime, .ref (a 67)])), (a 62, .inr (0, [.int c_q_count, .ref (a 63), .ref (a 64), .int c_q_front, .int c_q_least, .int c_q_window, .int c_q_pulses, .ref (a 65), .ref (a 66)])), (a 63, .inl (T 1, 8, .inl c_q_lengths)), (a 64, .inl (T 1, 8, .inl c_q_fractions)), (a 65, .inl (T 1, 4, .inl c_q_pulseTimes)), (a 66, .inl (T 1, 4, .inl c_q_pulseEnergies)), (a 67, .inr (6, [.ref (a 68), .ref (a 69), .ref (a 70), .ref (a 71)])), (a 68, .inl (T 4, 9, .inr (.inr (.inr (.inr (rws a 72)))))), (a 69, .inl (T 4, 9, .inr (.inr (.inr (.inr (rws a 81)))))), (a 70, .inl (T 0, 201, .inr (.inl c_t_echoes))), (a 71, .inl (T 0, 9, .inr (.inl c_t_totals))), (a 72, .inl (T 0, 201, .inr (.inl (c_t_near 0)))), (a 73, .inl (T 0, 201, .inr (.inl (c_t_near 1)))), (a 74, .inl (T 0, 201, .inr (.inl (c_t_near 2)))), (a 75, .inl (T 0, 201, .inr (.inl (c_t_near 3)))), (a 76, .inl (T 0, 201, .inr (.inl (c_t_near 4)))), (a 77, .inl (T 0, 201, .inr (.inl (c_t_near 5)))), (a 78, .inl (T 0, 201, .inr (.inl (c_t_near 6)))), (a 79, .inl (T 0, 201, .inr (.inl (c_t_near 7)))), (a 80, .inl (T 0, 201, .inr (.inl (c_t_near 8)))), (a 81, .inl (T 0, 201, .inr (.inl (c_t_far 0)))), (a 82, .inl (T 0, 201, .inr (.inl (c_t_far 1)))), (a 83, .inl (T 0, 201, .inr (.inl (c_t_far 2)))), (a 84, .inl (T 0, 201, .inr (.inl (c_t_far 3)))), (a 85, .inl (T 0, 201, .inr (.inl (c_t_far 4)))), (a 86, .inl (T 0, 201, .inr (.inl (c_t_far 5)))), (a 87, .inl (T 0, 201, .inr (.inl (c_t_far 6)))), (a 88, .inl (T 0, 201, .inr (.inl (c_t_far 7)))), (a 89, .inl (T 0, 201, .inr (.inl (c_t_far 8))))]
section CSTAT
variable {X : CxT} {G : SG} {T : Nat → ClassId} {E : Nat → Nat → Nat} {ws w w' : va_W} {cc : ByteArray} {own : String} {ret : Option FieldType} {nl fr lo k n ix : Nat} {lv : List (Nat × Value)} {pc : Nat} {rest As : List Value} {y : MethodName} {cc' : ByteArray} {nL' : Nat} {ret' : Option FieldType} {rm : Room} {r : Option Value}
theorem v_aret {q : Nat} {cn : String} (C : Cx X G T cc own (some (.object cn)) nl fr lo) (hret : RetOK X k n (some (.ref q)) ws) (hdg : decode cc pc = .ok (.areturn, 1)) : V X k n ws lv pc [.ref q] := by
  obtain ⟨p, l, e, R, s, m, args, below, meth, c, D, A, H0, nL, Q⟩ := X
  obtain ⟨hx, hb, hml, hown, hts, hK, hlocks, hr, hA, hnl, hfr, hlo, htr, hG, hGs, hH0⟩ := C
  intro H locs ls hP hD hS hl
  obtain ⟨Qc, free, hQ, hq, hf⟩ := hret H locs hP hD hS
  subst hQ
  exact W.aret hx hb hr (Or.inl ⟨_, rfl⟩) (Or.inr ⟨_, rfl⟩) hq hf hdg hlocks
theorem v_callS2 (np : Nat) (C : Cx X G T cc own ret nl fr lo) (hcap : CapOK X k n) (hM : ∀ D, MetM G y cc' nL' ret' rm D T As w r w') (hl : Cond.methodLink own ix y ∈ wsG) (hcode : Cond.code y cc' nL' ret' ∈ wsG) (hstat : Cond.static y ∈ wsG) (hini : Cond.initialized y.cls ∈ wsG)
    (hd : y.cls ≠ "java/lang/invoke/MethodHandle" ∧ y.cls ≠ "java/lang/invoke/VarHandle" ∧ (parseMethodDescriptor y.desc).map (fun d => d.parameters.length) = some np) (hR : rm.frames + 1 ≤ fr ∧ 8 + (nL' + 11) + rm.locals ≤ lo) (hrm : rm.cells = 0 ∧ rm.slots = 0)
    (hnp : As.length = np) (hst : (rest.map fun v => v.category).sum ≤ 8) (hdg : decode cc pc = .ok (.invokestatic ix, 3)) (kk : V X k n w' lv (pc + 3) (r.toList ++ rest)) : V X k n w lv pc (As.reverse ++ rest) := by
  obtain ⟨p, l, e, R, s, m, args, below, meth, c, D, A, H0, nL, Q⟩ := X
  obtain ⟨hx, hb, hml, hown, hts, hK, hlocks, hr, hA, hnl, hfr, hlo, htr, hG, hGs, hH0⟩ := C
  intro H locs ls hP hD hS hll
  have hFr : ∀ q, va_A w H.size q → A q := fun q h => by
    rcases h with ⟨j, x, h⟩ | h
    · exact hD.2 j _ h
    · exact hA q (Nat.le_trans hS.1 h)
  have hgw : GoodIn wsG (Cond.code y cc' nL' ret' :: wsG) := fun v hv => by
    rcases List.mem_cons.mp hv with rfl | h
    · exact goodG _ hcode
    · exact goodG _ h
  exact v_after (va_runS (As := As) (rest := rest) (nL := nL) ⟨hx, hb, hml, hown, hts⟩ (hM D hG l htr H.size) ⟨callB_of np hts hgw rfl hrm.1 hrm.2 (hts _ hini) (hts _ hl) hd ⟨Nat.le_trans hR.1 hfr, Nat.le_trans hR.2 hlo⟩, hts _ hstat⟩ ⟨MetM.blind hG, fun U hU hW => ⟨rfl, by rw [hU], by rw [hU]; exact hP, va_K.moved hW.alike hK, hD.weaken (fun _ _ _ _ => trivial), by rw [hU]; exact hG.1 _ s U _ hW (hG.2.2 _ _ _ _ (hG.2.1 _ _ _ _ hGs hS.2.1) (fun q h => hFr q h))⟩⟩ rfl hnp hll.1 rfl (lv_room hst) hdg hcap) hD hS hA hll kk
theorem v_throwsS2 {e9 : String} (np : Nat) (C : Cx X G T cc own ret nl fr lo) (hcap : CapOK X 1 6) (hM : ∀ D, MetX G y cc' nL' ret' rm D T As w e9 w') (hl : Cond.methodLink own ix y ∈ wsG) (hcode : Cond.code y cc' nL' ret' ∈ wsG) (hstat : Cond.static y ∈ wsG) (hini : Cond.initialized y.cls ∈ wsG)
    (hd : y.cls ≠ "java/lang/invoke/MethodHandle" ∧ y.cls ≠ "java/lang/invoke/VarHandle" ∧ (parseMethodDescriptor y.desc).map (fun d => d.parameters.length) = some np) (hR : rm.frames + 1 ≤ fr ∧ 8 + (nL' + 11) + rm.locals ≤ lo) (hrm : rm.cells = 1 ∧ rm.slots = 6)
    (hnp : As.length = np) (hst : (rest.map fun v => v.category).sum ≤ 8) (hdg : decode cc pc = .ok (.invokestatic ix, 3)) (hthr : ThrOK X e9 w') : V X 0 0 w lv pc (As.reverse ++ rest) := by
  obtain ⟨p, l, e, R, s, m, args, below, meth, c, D, A, H0, nL, Q⟩ := X
  obtain ⟨hx, hb, hml, hown, hts, hK, hlocks, hr, hA, hnl, hfr, hlo, htr, hG, hGs, hH0⟩ := C
  intro H locs ls hP hD hS hll
  have hFr : ∀ q, va_A w H.size q → A q := fun q h => by
    rcases h with ⟨j, x, h⟩ | h
    · exact hD.2 j _ h
    · exact hA q (Nat.le_trans hS.1 h)
  have hgw : GoodIn wsG (Cond.code y cc' nL' ret' :: wsG) := fun v hv => by
    rcases List.mem_cons.mp hv with rfl | h
    · exact goodG _ hcode
    · exact goodG _ h
  exact v_afterX (rest := rest) (vx_runS (As := As) (rest := rest) (nL := nL) ⟨hx, hb, hml, hown, hts⟩ (hM D hG l htr H.size) ⟨callB_of np hts hgw rfl hrm.1 hrm.2 (hts _ hini) (hts _ hl) hd ⟨Nat.le_trans hR.1 hfr, Nat.le_trans hR.2 hlo⟩, hts _ hstat⟩ ⟨MetM.blind hG, fun U hU hW => ⟨rfl, by rw [hU], by rw [hU]; exact hP, va_K.moved hW.alike hK, hD.weaken (fun _ _ _ _ => trivial), by rw [hU]; exact hG.1 _ s U _ hW (hG.2.2 _ _ _ _ (hG.2.1 _ _ _ _ hGs hS.2.1) (fun q h => hFr q h))⟩⟩ rfl hnp hll.1 rfl (lv_room hst) hdg ⟨by rw [Nat.zero_add]; exact hcap.1, by rw [Nat.zero_add]; exact hcap.2⟩) hD hS hA hlocks hthr
theorem Ce_comm {i : Nat} (hi : i < 8) (hl : Cond.fieldLink own ix "LineEchoes$Command" (cmdNm.getD i "") "LLineEchoes$Command;" ∈ wsG) (C : Cx X (SFG E) T cc own ret nl fr lo) (hdg : decode cc pc = .ok (.getstatic ix, 3)) (kk : V X k n ws lv (pc + 3) (.ref (E 0 i) :: rest)) : V X k n ws lv pc rest := by
  obtain ⟨p, l, e, R, s, m, args, below, meth, c, D, A, H0, nL, Q⟩ := X
  obtain ⟨hx, hb, hml, hown, hts, hK, hlocks, hr, hA, hnl, hfr, hlo, htr, hG, hGs, hH0⟩ := C
  intro H locs ls hP hD hS hll
  subst hH0
  exact va_gets hx hb (hGs.1.1.1 i hi).1 hS hown (hts _ hl) (fun _ h => h) hdg (kk H locs ls hP hD hS hll)
theorem Ce_verd {i : Nat} (hi : i < 4) (hl : Cond.fieldLink own ix "LineEchoes$Verdict" (verNm.getD i "") "LLineEchoes$Verdict;" ∈ wsG) (C : Cx X (SFG E) T cc own ret nl fr lo) (hdg : decode cc pc = .ok (.getstatic ix, 3)) (kk : V X k n ws lv (pc + 3) (.ref (E 1 i) :: rest)) : V X k n ws lv pc rest := by
  obtain ⟨p, l, e, R, s, m, args, below, meth, c, D, A, H0, nL, Q⟩ := X
  obtain ⟨hx, hb, hml, hown, hts, hK, hlocks, hr, hA, hnl, hfr, hlo, htr, hG, hGs, hH0⟩ := C
  intro H locs ls hP hD hS hll
  subst hH0
  exact va_gets hx hb (hGs.1.2.1.1 i hi).1 hS hown (hts _ hl) (fun _ h => h) hdg (kk H locs ls hP hD hS hll)
theorem Ce_switch (hl : Cond.fieldLink own ix "LineEchoes$1" "$SwitchMap$LineEchoes$Command" "[I" ∈ wsG) (C : Cx X (SFG E) T cc own ret nl fr lo) (hdg : decode cc pc = .ok (.getstatic ix, 3)) (kk : V X k n ws lv (pc + 3) (.ref (E 2 0) :: rest)) : V X k n ws lv pc rest := by
  obtain ⟨p, l, e, R, s, m, args, below, meth, c, D, A, H0, nL, Q⟩ := X
  obtain ⟨hx, hb, hml, hown, hts, hK, hlocks, hr, hA, hnl, hfr, hlo, htr, hG, hGs, hH0⟩ := C
  intro H locs ls hP hD hS hll
  subst hH0
  exact va_gets hx hb hGs.1.2.2.1 hS hown (hts _ hl) (fun _ h => h) hdg (kk H locs ls hP hD hS hll)
theorem Ce_swload {i : Int32} {β : Type} {K : Int32 → Option β} {o : β} (C : Cx X (SFG E) T cc own ret nl fr lo) (hdg : decode cc pc = .ok (.iaload, 1)) (hf : chk (inb i 8) (nm (i + 1) K) = some o) (kk : ∀ z, K z = some o → V X k n ws lv (pc + 1) (.int z :: rest)) : V X k n ws lv pc (.int i :: .ref (E 2 0) :: rest) := by
  obtain ⟨hin, hf⟩ := chk_some hf
  replace kk := kk _ hf
  have he : i + 1 = nI (i.toNatClampNeg + 1) := by
    obtain ⟨j, h1, h2⟩ := vp_in_of (vp_in_iff.mpr hin) (by decide)
    rw [h2, nI_clamp (by omega), nI_succ]
  rw [he] at kk
  obtain ⟨p, l, e, R, s, m, args, below, meth, c, D, A, H0, nL, Q⟩ := X
  obtain ⟨hx, hb, hml, hown, hts, hK, hlocks, hr, hA, hnl, hfr, hlo, htr, hG, hGs, hH0⟩ := C
  intro H locs ls hP hD hS hl
  subst hH0
  exact va_ti hx hb hGs.1.2.2.2.1 hS (vp_in_iff.mpr hin) rfl hdg (kk H locs ls hP hD hS hl)
theorem Ce_numberCount {i : Nat} {β : Type} {K : Int32 → Option β} {o : β} (hl : Cond.fieldLink own ix "LineEchoes$Command" "numberCount" "I" ∈ wsG) (C : Cx X (SFG E) T cc own ret nl fr lo) (hdg : decode cc pc = .ok (.getfield ix, 3)) (hf : chk (i < 8) (nm (cmdN i) K) = some o) (kk : ∀ z, K z = some o → V X k n ws lv (pc + 3) (.int z :: rest)) : V X k n ws lv pc (.ref (E 0 i) :: rest) := by
  obtain ⟨hi, hf⟩ := chk_some hf
  replace kk := kk _ hf
  obtain ⟨p, l, e, R, s, m, args, below, meth, c, D, A, H0, nL, Q⟩ := X
  obtain ⟨hx, hb, hml, hown, hts, hK, hlocks, hr, hA, hnl, hfr, hlo, htr, hG, hGs, hH0⟩ := C
  intro H locs ls hP hD hS hll
  subst hH0
  exact va_getE (q := ("LineEchoes$Command", "numberCount", "I", [2, 3, 1, 3, 2, 0, 0, 0])) hx hb hGs.1.1 hi hS hown (List.mem_cons_of_mem _ List.mem_cons_self) (hts _ hl) (fun _ h => h) hdg (kk H locs ls hP hD hS hll)
theorem ver_inj {A : Nat → Prop} {U : State} {H : Heap} (h : SFG E A U H) {x y : Nat} (hx : x < 4) (hy : y < 4) : some (E 1 x) = some (E 1 y) ↔ x = y := ⟨fun e => h.1.2.1.2 x y hx hy (Option.some.inj e), fun e => by rw [e]⟩
theorem Ce_acmp_eq {x y : Nat} {off : Int} {β : Type} {e1 e2 : Option β} {o : β} (tgt : Nat) (C : Cx X (SFG E) T cc own ret nl fr lo) (hdg : decode cc pc = .ok (.if_acmp .eq off, 3)) (ht : (pc : Int) + off = (tgt : Int)) (hf : chk (x < 4 ∧ y < 4) (if x = y then e1 else e2) = some o) (kt : x = y → e1 = some o → V X k n ws lv tgt rest) (kf : ¬ x = y → e2 = some o → V X k n ws lv (pc + 3) rest) : V X k n ws lv pc (.ref (E 1 y) :: .ref (E 1 x) :: rest) := by
  obtain ⟨⟨h1, h2⟩, hf⟩ := chk_some hf
  obtain ⟨p, l, e, R, s, m, args, below, meth, c, D, A, H0, nL, Q⟩ := X
  obtain ⟨hx, hb, hml, hown, hts, hK, hlocks, hr, hA, hnl, hfr, hlo, htr, hG, hGs, hH0⟩ := C
  intro H locs ls hP hD hS hl
  have hi := ver_inj hGs h1 h2
  exact lv_acmp_eq (rx := some (E 1 x)) (ry := some (E 1 y)) hx hb hdg ht (fun q => kt (hi.mp q) (ite_t (hi.mp q) hf) H locs ls hP hD hS hl) (fun q => kf (fun z => q (hi.mpr z)) (ite_f (fun z => q (hi.mpr z)) hf) H locs ls hP hD hS hl)
theorem Ce_acmp_ne {x y : Nat} {off : Int} {β : Type} {e1 e2 : Option β} {o : β} (tgt : Nat) (C : Cx X (SFG E) T cc own ret nl fr lo) (hdg : decode cc pc = .ok (.if_acmp .ne off, 3)) (ht : (pc : Int) + off = (tgt : Int)) (hf : chk (x < 4 ∧ y < 4) (if x = y then e1 else e2) = some o) (kt : x = y → e1 = some o → V X k n ws lv (pc + 3) rest) (kf : ¬ x = y → e2 = some o → V X k n ws lv tgt rest) : V X k n ws lv pc (.ref (E 1 y) :: .ref (E 1 x) :: rest) := by
  obtain ⟨⟨h1, h2⟩, hf⟩ := chk_some hf
  obtain ⟨p, l, e, R, s, m, args, below, meth, c, D, A, H0, nL, Q⟩ := X
  obtain ⟨hx, hb, hml, hown, hts, hK, hlocks, hr, hA, hnl, hfr, hlo, htr, hG, hGs, hH0⟩ := C
  intro H locs ls hP hD hS hl
  have hi := ver_inj hGs h1 h2
  exact lv_acmp_ne (rx := some (E 1 x)) (ry := some (E 1 y)) hx hb hdg ht (fun q => kf (fun z => q (hi.mpr z)) (ite_f (fun z => q (hi.mpr z)) hf) H locs ls hP hD hS hl) (fun q => kt (hi.mp q) (ite_t (hi.mp q) hf) H locs ls hP hD hS hl)
theorem Ce_max {x y : Int64} {β : Type} {K : Int64 → Option β} {o : β} (hl : Cond.methodLink own ix Lib.MathLoose.max_long.x ∈ wsG) (C : Cx X G T cc own ret nl fr lo) (hdg : decode cc pc = .ok (.invokestatic ix, 3)) (hroom : 1 ≤ fr ∧ 30 ≤ lo) (hst : (rest.map fun v => v.category).sum ≤ 8) (hf : nm (if y < x then x else y) K = some o) (kk : ∀ z, K z = some o → V X 0 0 ws lv (pc + 3) (.long z :: rest)) : V X 0 0 ws lv pc (.long y :: .long x :: rest) := by
  replace kk := kk _ hf
  obtain ⟨p, l, e, R, s, m, args, below, meth, c, D, A, H0, nL, Q⟩ := X
  obtain ⟨hx, hb, hml, hown, hts, hK, hlocks, hr, hA, hnl, hfr, hlo, htr, hG, hGs, hH0⟩ := C
  intro H locs ls hP hD hS hll
  exact va_mmax_long hx hb (hml.trans hll.1.symm) hown (hts _ hl) (hts _ wStatMax) (hts _ wIniMath) (hts _ wCodeMax) (Nat.le_trans hroom.1 hfr) (Nat.le_trans (Nat.le_trans (Nat.add_le_add_right hst 15) (by omega)) hlo) (Nat.zero_le _) (Nat.zero_le _) hdg (kk H locs ls hP hD hS hll)
theorem Ce_min {x y : Int32} {β : Type} {K : Int32 → Option β} {o : β} (hl : Cond.methodLink own ix Lib.Math.min.name ∈ wsG) (C : Cx X G T cc own ret nl fr lo) (hdg : decode cc pc = .ok (.invokestatic ix, 3)) (hroom : 1 ≤ fr ∧ 30 ≤ lo) (hst : (rest.map fun v => v.category).sum ≤ 8) (hf : nm (if y < x then y else x) K = some o) (kk : ∀ z, K z = some o → V X 0 0 ws lv (pc + 3) (.int z :: rest)) : V X 0 0 ws lv pc (.int y :: .int x :: rest) := by
  replace kk := kk _ hf
  obtain ⟨p, l, e, R, s, m, args, below, meth, c, D, A, H0, nL, Q⟩ := X
  obtain ⟨hx, hb, hml, hown, hts, hK, hlocks, hr, hA, hnl, hfr, hlo, htr, hG, hGs, hH0⟩ := C
  intro H locs ls hP hD hS hll
  exact va_mmin hx hb (hml.trans hll.1.symm) hown (hts _ hl) (hts _ wStatMin) (hts _ wIniMath) (hts _ wCodeMin) (Nat.le_trans hroom.1 hfr) (Nat.le_trans (Nat.le_trans (Nat.add_le_add_right hst 13) (by omega)) hlo) (Nat.zero_le _) (Nat.zero_le _) hdg (kk H locs ls hP hD hS hll)
theorem va_aldA {p : Program} {l : Launch} {e : Env} {R : Room} {s : State} {m : MethodId} {args : Array Value} {below : List Frame} {meth : Method} {c : Code} {H : Heap} {locs : List Loc} {cells slots : Nat} {Q : State → Prop} {ls : Array Slot} {D : va_G} {cl : List vw_C} {tys : List (ClassId × FieldType)} {a : Nat} (hexec : p.tables.exec = Jvm.exec) (hb : c.code = cc) (hK : va_K D cl tys s) (hP : va_P D cl ws H) (q0 t0 : Nat) {cA : ClassId} {ty : FieldType} {n : Nat} {f : Nat → Option Nat} (ha : ws[q0]? = some (a, .inl (cA, n, .inr (.inr (.inr (.inr f)))))) (ht : tys[t0]? = some (cA, .array ty)) {i : Int32} (hin : vp_in i n) (hdg : decode cc pc = .ok (.aaload, 1))
    (kk : W p l e R s m args below meth c H locs cells slots Q (F0 m (pc + 1) ls (va_rf (f i.toNatClampNeg) :: rest))) : W p l e R s m args below meth c H locs cells slots Q (F0 m pc ls (.int i :: .ref a :: rest)) := by
  have hlt : i.toNatClampNeg < n := Nat.not_le.mp fun q => hin (Or.inr q)
  exact W.aald (v := va_rf (f i.toNatClampNeg)) (ty := .array ty) hexec hb (hP q0 _ ha) ((hK.2 t0 _ ht).1 n (fun j => va_rf (f j))) rfl (fun q => by cases q) (by show ¬ (i < 0 ∨ (arrV _ _ _).slots.size ≤ _); rw [arrV_size]; exact hin) (by show (arrV _ _ _).slots[_]? = _; rw [arrV_read _ _ hlt]) rfl rfl hdg kk
theorem Cord_v {i : Nat} (h : i < 8) : ([0, 1, 2, 3, 4, 5, 6, 7] : List Int32).getD i 0 = nI i := by
  rcases (show i = 0 ∨ i = 1 ∨ i = 2 ∨ i = 3 ∨ i = 4 ∨ i = 5 ∨ i = 6 ∨ i = 7 by omega) with rfl | rfl | rfl | rfl | rfl | rfl | rfl | rfl <;> rfl
theorem Ce_ordField {i : Nat} (hi : i < 8) (hl : Cond.fieldLink own ix "java/lang/Enum" "ordinal" "I" ∈ wsG) (C : Cx X (SFG E) T cc own ret nl fr lo) (hdg : decode cc pc = .ok (.getfield ix, 3)) (kk : V X k n ws lv (pc + 3) (.int (nI i) :: rest)) : V X k n ws lv pc (.ref (E 0 i) :: rest) := by
  rw [← Cord_v hi] at kk
  obtain ⟨p, l, e, R, s, m, args, below, meth, c, D, A, H0, nL, Q⟩ := X
  obtain ⟨hx, hb, hml, hown, hts, hK, hlocks, hr, hA, hnl, hfr, hlo, htr, hG, hGs, hH0⟩ := C
  intro H locs ls hP hD hS hll
  subst hH0
  exact va_getE (q := ("java/lang/Enum", "ordinal", "I", [0, 1, 2, 3, 4, 5, 6, 7])) hx hb hGs.1.1 hi hS hown List.mem_cons_self (hts _ hl) (fun _ h => h) hdg (kk H locs ls hP hD hS hll)
theorem Cm_ordinal {D : va_G} {i : Nat} (hi : i < 8) : MetM (SFG E) yJx29ce0_ordinal_8abf5 cJx29ce0_ordinal_8abf5 1 (some .int) { frames := 0, cells := 0, slots := 0, locals := 0 } D T [.ref (E 0 i)] w (some (.int (nI i))) w :=
  MetM.of [(0, .ref (E 0 i))] (by decide) (Nat.le_of_ble_eq_true rfl) rfl (fun X C hret => v_aload_n 0 C dJx29ce0_ordinal_8abf5_0 rfl rfl (Ce_ordField hi wOrdLink C dJx29ce0_ordinal_8abf5_1 (v_iret C hret dJx29ce0_ordinal_8abf5_4)))
theorem Ce_ordinal {i : Nat} {β : Type} {K : Int32 → Option β} {o : β} (hl : Cond.methodLink own ix ⟨"LineEchoes$Command", "ordinal", "()I"⟩ ∈ wsG) (C : Cx X (SFG E) T cc own ret nl fr lo) (hdg : decode cc pc = .ok (.invokevirtual ix, 3)) (hroom : 1 ≤ fr ∧ 30 ≤ lo) (hst : (rest.map fun v => v.category).sum ≤ 8) (hf : chk (i < 8) (nm (nI i) K) = some o) (kk : ∀ z, K z = some o → V X 0 0 ws lv (pc + 3) (.int z :: rest)) : V X 0 0 ws lv pc (.ref (E 0 i) :: rest) := by
  obtain ⟨hi, hf⟩ := chk_some hf
  replace kk := kk _ hf
  obtain ⟨p, l, e, R, s, m, args, below, meth, c, D, A, H0, nL, Q⟩ := X
  obtain ⟨hx, hb, hml, hown, hts, hK, hlocks, hr, hA, hnl, hfr, hlo, htr, hG, hGs, hH0⟩ := C
  intro H locs ls hP hD hS hll
  have hFr : ∀ q, va_A ws H.size q → A q := fun q h => by
    rcases h with ⟨j, x, h⟩ | h
    · exact hD.2 j _ h
    · exact hA q (Nat.le_trans hS.1 h)
  have hgw : GoodIn wsG (va_wsU own ix "LineEchoes$Command" "java/lang/Enum" ⟨"LineEchoes$Command", "ordinal", "()I"⟩ yJx29ce0_ordinal_8abf5 (Cond.code yJx29ce0_ordinal_8abf5 cJx29ce0_ordinal_8abf5 1 (some .int) :: wsG)) := fun v hv => by
    refine goodG v ?_
    simp only [va_wsU, List.mem_append, List.mem_cons, List.not_mem_nil, or_false] at hv
    rcases hv with (rfl | rfl | rfl | rfl | rfl) | rfl | h
    · exact hl
    · exact wOrdSame
    · exact wOrdSel
    · exact wOrdInst
    · exact wOrdIni
    · exact wOrdCode
    · exact h
  have hcap : CapOK (p, l, e, R, s, m, args, below, meth, c, D, A, H0, nL, Q) 0 0 := ⟨Nat.zero_le _, Nat.zero_le _⟩
  subst hH0
  exact v_after (va_runU (As := []) (rest := rest) (nL := nL) ⟨hx, hb, hml, hown, hts⟩ (Cm_ordinal (T := T) (D := D) (w := ws) hi hG l htr H.size) (va_cwU 0 hts hgw rfl rfl rfl rfl (by decide +kernel) ⟨Nat.le_trans hroom.1 hfr, Nat.le_trans (Nat.le_trans (by decide) hroom.2) hlo⟩) ⟨MetM.blind hG, va_recvE hGs.1.1 hi hS, fun U hU hW => ⟨rfl, by rw [hU], by rw [hU]; exact hP, va_K.moved hW.alike hK, hD.weaken (fun _ _ _ _ => trivial), by rw [hU]; exact hG.1 _ s U _ hW (hG.2.2 _ _ _ _ (hG.2.1 _ _ _ _ hGs hS.2.1) (fun q h => hFr q h))⟩⟩ rfl rfl hll.1 rfl (lv_room hst) hdg hcap) hD hS hA hll kk
theorem va_P_grown {D : va_G} {cl : List vw_C} {H H1 : Heap} (hP : va_P D cl ws H) (h : ∀ q : Nat, q < H.size → H1[q]? = H[q]?) : va_P D cl ws H1 := fun k q hk => (hP k q hk).kept (h q.1 (hP k q hk).lt)
theorem va_S_grown {A : Nat → Prop} {H0 H H1 : Heap} {locs : List Loc} (hS : va_S A H0 H locs) (hz : H.size ≤ H1.size) (h : ∀ q : Nat, q < H.size → H1[q]? = H[q]?) : va_S A H0 H1 locs := ⟨Nat.le_trans hS.1 hz, fun q h1 h2 => (h q (Nat.lt_of_lt_of_le h1 hS.1)).trans (hS.2.1 q h1 h2), hS.2.2⟩
theorem CthrW {cls text : String} {ik is ic : Nat} (hcls : Bundle.fit cls = true) (hk : Cond.classLink RX9 ik cls ∈ wsG) (hini : Cond.initialized cls ∈ wsG) (hm : (is, text) ∈ msgs) (hat1 : ∀ w ∈ (vx_atS RX9 ic cls excNm).filter goodWord, w ∈ lw_tbl) (hat2 : ∀ w ∈ (vx_atS RX9 ic cls excNm).filter (fun w => !goodWord w), w ∈ excB) (hgood : ∀ w ∈ Cond.classLink RX9 ik cls :: Cond.initialized cls :: vx_atS RX9 ic cls excNm, vx_ot w = true)
    (C : Cx X (SFG E) T cc RX9 ret nl fr lo) (ht : ThrOK X cls ws ∧ CapOK X 1 6) (d0 : decode cc pc = .ok (.new ik, 3)) (d3 : decode cc (pc + 3) = .ok (.dup, 1)) (d4 : decode cc (pc + 4) = .ok (.ldc_w is, 3)) (d7 : decode cc (pc + 7) = .ok (.invokespecial ic, 3)) (d10 : decode cc (pc + 10) = .ok (.athrow, 1)) (h1 : 6 ≤ fr) (h2 : 90 ≤ lo) : V X 0 0 ws lv pc [] := by
  obtain ⟨hthr, hcap⟩ := ht
  obtain ⟨p, l, e, R, s, m, args, below, meth, c, D, A, H0, nL, Q⟩ := X
  obtain ⟨hx, hb, hml, hown, hts, hK, hlocks, hr, hA, hnl, hfr, hlo, htr, hG, hGs, hH0⟩ := C
  intro H locs ls hP hD hS hll
  obtain ⟨Qc, XC, free, hQ, htab, hthr⟩ := hthr
  subst hQ
  subst hH0
  exact vx_throwSW (names := excNm) (rest := []) hx hb htr hown hcls (by decide) (hts _ hk) (hts _ hini) (hGs.1.2.2.2.2.2.2.2.2 _ hm) (vx_hat (B := excB) (fun w hw => hts w (mG (hat1 w hw) (List.mem_filter.mp hw).2)) hat2 hGs.1.2.2.2.2.2.2.2.1.use) hgood hGs.1.2.2.2.2.1 hGs.1.2.2.2.2.2.1 hS (hll.1.trans hml.symm) d0 d3 d4 d7 d10 (fun x hx9 => (htab x hx9).elim) (Nat.lt_of_lt_of_le (by decide) (Nat.le_trans h1 hfr)) (Nat.le_trans (by decide) (Nat.le_trans h2 hlo)) hcap.1 hcap.2 hlocks (fun t hvm hz heq => (hthr t.heap locs (va_P_grown hP heq) hD (va_S_grown hS hz heq)).1 t rfl hvm) (hthr H locs hP hD hS).2 (Nat.le_refl _) (Nat.le_refl _)
theorem CthrS {cls text : String} {ik is ic : Nat} (hcls : Bundle.fit cls = true) (hk : Cond.classLink RX9 ik cls ∈ wsG) (hini : Cond.initialized cls ∈ wsG) (hm : (is, text) ∈ msgs) (hat1 : ∀ w ∈ (vx_atS RX9 ic cls excNm).filter goodWord, w ∈ lw_tbl) (hat2 : ∀ w ∈ (vx_atS RX9 ic cls excNm).filter (fun w => !goodWord w), w ∈ excB) (hgood : ∀ w ∈ Cond.classLink RX9 ik cls :: Cond.initialized cls :: vx_atS RX9 ic cls excNm, vx_ot w = true)
    (C : Cx X (SFG E) T cc RX9 ret nl fr lo) (ht : ThrOK X cls ws ∧ CapOK X 1 6) (d0 : decode cc pc = .ok (.new ik, 3)) (d3 : decode cc (pc + 3) = .ok (.dup, 1)) (d4 : decode cc (pc + 4) = .ok (.ldc is, 2)) (d7 : decode cc (pc + 6) = .ok (.invokespecial ic, 3)) (d10 : decode cc (pc + 9) = .ok (.athrow, 1)) (h1 : 6 ≤ fr) (h2 : 90 ≤ lo) : V X 0 0 ws lv pc [] := by
  obtain ⟨hthr, hcap⟩ := ht
  obtain ⟨p, l, e, R, s, m, args, below, meth, c, D, A, H0, nL, Q⟩ := X
  obtain ⟨hx, hb, hml, hown, hts, hK, hlocks, hr, hA, hnl, hfr, hlo, htr, hG, hGs, hH0⟩ := C
  intro H locs ls hP hD hS hll
  obtain ⟨Qc, XC, free, hQ, htab, hthr⟩ := hthr
  subst hQ
  subst hH0
  exact vx_throwS (names := excNm) (rest := []) hx hb htr hown hcls (by decide) (hts _ hk) (hts _ hini) (hGs.1.2.2.2.2.2.2.2.2 _ hm) (vx_hat (B := excB) (fun w hw => hts w (mG (hat1 w hw) (List.mem_filter.mp hw).2)) hat2 hGs.1.2.2.2.2.2.2.2.1.use) hgood hGs.1.2.2.2.2.1 hGs.1.2.2.2.2.2.1 hS (hll.1.trans hml.symm) d0 d3 d4 d7 d10 (fun x hx9 => (htab x hx9).elim) (Nat.lt_of_lt_of_le (by decide) (Nat.le_trans h1 hfr)) (Nat.le_trans (by decide) (Nat.le_trans h2 hlo)) hcap.1 hcap.2 hlocks (fun t hvm hz heq => (hthr t.heap locs (va_P_grown hP heq) hD (va_S_grown hS hz heq)).1 t rfl hvm) (hthr H locs hP hD hS).2 (Nat.le_refl _) (Nat.le_refl _)
end CSTAT
theorem wfieldLink_RX1_9_LineEchoes_Bench_count_I : Cond.fieldLink RX1 9 "LineEchoes$Bench" "count" "I" ∈ wsG := mG (seg1 (List.mem_of_getElem? (i := 47) rfl)) rfl
theorem wfieldLink_RX1_15_LineEchoes_Bench_lengths_I : Cond.fieldLink RX1 15 "LineEchoes$Bench" "lengths" "[I" ∈ wsG := mG (seg1 (List.mem_of_getElem? (i := 51) rfl)) rfl
theorem wfieldLink_RX1_19_LineEchoes_Bench_fractions_I : Cond.fieldLink RX1 19 "LineEchoes$Bench" "fractions" "[I" ∈ wsG := mG (seg1 (List.mem_of_getElem? (i := 55) rfl)) rfl
theorem wmethodLink_RX1_81_yX1_swapEnds : Cond.methodLink RX1 81 yX1_swapEnds ∈ wsG := mG (seg2 (List.mem_of_getElem? (i := 42) rfl)) rfl
theorem wcode_yX1_swapEnds_cX1_swapEnds_5_none : Cond.code yX1_swapEnds cX1_swapEnds 5 none ∈ wsG := mG (seg2 (List.mem_of_getElem? (i := 44) rfl)) rfl
theorem winitialized_RX1 : Cond.initialized RX1 ∈ wsG := mG (seg1 (List.mem_of_getElem? (i := 3) rfl)) rfl
theorem wstatic_yX1_swapEnds : Cond.static yX1_swapEnds ∈ wsG := mG (seg2 (List.mem_of_getElem? (i := 43) rfl)) rfl
theorem wfieldLink_RX1_31_LineEchoes_Bench_pulses_I : Cond.fieldLink RX1 31 "LineEchoes$Bench" "pulses" "I" ∈ wsG := mG (seg1 (List.mem_of_getElem? (i := 71) rfl)) rfl
theorem wfieldLink_RX1_34_LineEchoes_Bench_pulseTimes_I : Cond.fieldLink RX1 34 "LineEchoes$Bench" "pulseTimes" "[I" ∈ wsG := mG (seg1 (List.mem_of_getElem? (i := 75) rfl)) rfl
theorem wfieldLink_RX1_37_LineEchoes_Bench_pulseEnergies_I : Cond.fieldLink RX1 37 "LineEchoes$Bench" "pulseEnergies" "[I" ∈ wsG := mG (seg1 (List.mem_of_getElem? (i := 79) rfl)) rfl
theorem wmethodLink_RX1_85_Lib_Math_min_name : Cond.methodLink RX1 85 Lib.Math.min.name ∈ wsG := mG (seg3 (List.mem_of_getElem? (i := 219) rfl)) rfl
theorem wmethodLink_RX1_48_arraycopyName : Cond.methodLink RX1 48 arraycopyName ∈ wsG := mG (seg2 (List.mem_of_getElem? (i := 26) rfl)) rfl
theorem wfieldLink_RX1_22_LineEchoes_Bench_front_I : Cond.fieldLink RX1 22 "LineEchoes$Bench" "front" "I" ∈ wsG := mG (seg1 (List.mem_of_getElem? (i := 59) rfl)) rfl
theorem wfieldLink_RX1_25_LineEchoes_Bench_least_I : Cond.fieldLink RX1 25 "LineEchoes$Bench" "least" "I" ∈ wsG := mG (seg1 (List.mem_of_getElem? (i := 63) rfl)) rfl
theorem wfieldLink_RX1_28_LineEchoes_Bench_window_I : Cond.fieldLink RX1 28 "LineEchoes$Bench" "window" "I" ∈ wsG := mG (seg1 (List.mem_of_getElem? (i := 67) rfl)) rfl
theorem wcode_yX9_isWithin_cX9_isWithin_6_some_boolean : Cond.code yX9_isWithin cX9_isWithin 6 (some .boolean) ∈ wsG := mG (seg3 (List.mem_of_getElem? (i := 78) rfl)) rfl
theorem winitialized_RX9 : Cond.initialized RX9 ∈ wsG := mG (seg1 (List.mem_of_getElem? (i := 1) rfl)) rfl
theorem wstatic_yX9_isWithin : Cond.static yX9_isWithin ∈ wsG := mG (seg3 (List.mem_of_getElem? (i := 77) rfl)) rfl
theorem wfieldLink_RX1_64_LineEchoes_Verdict_NO_SUCH_NUMBER_LLineEchoes_Verdict : Cond.fieldLink RX1 64 "LineEchoes$Verdict" "NO_SUCH_NUMBER" "LLineEchoes$Verdict;" ∈ wsG := mG (seg3 (List.mem_of_getElem? (i := 90) rfl)) rfl
theorem wfieldLink_RX1_58_LineEchoes_Verdict_FINE_LLineEchoes_Verdict : Cond.fieldLink RX1 58 "LineEchoes$Verdict" "FINE" "LLineEchoes$Verdict;" ∈ wsG := mG (seg3 (List.mem_of_getElem? (i := 82) rfl)) rfl
theorem wfieldLink_RX1_71_LineEchoes_Verdict_OUT_OF_RANGE_LLineEchoes_Verdict : Cond.fieldLink RX1 71 "LineEchoes$Verdict" "OUT_OF_RANGE" "LLineEchoes$Verdict;" ∈ wsG := mG (seg3 (List.mem_of_getElem? (i := 80) rfl)) rfl
theorem wconstantLong_RX1_67_20 : Cond.constantLong RX1 67 (20) ∈ wsG := mG (seg3 (List.mem_of_getElem? (i := 75) rfl)) rfl
theorem wconstantLong_RX1_69_1000 : Cond.constantLong RX1 69 (1000) ∈ wsG := mG (seg3 (List.mem_of_getElem? (i := 79) rfl)) rfl
theorem wfieldLink_RX1_74_LineEchoes_Verdict_NO_ROOM_LLineEchoes_Verdict : Cond.fieldLink RX1 74 "LineEchoes$Verdict" "NO_ROOM" "LLineEchoes$Verdict;" ∈ wsG := mG (seg3 (List.mem_of_getElem? (i := 84) rfl)) rfl
theorem wconstantLong_RX1_77_100 : Cond.constantLong RX1 77 (100) ∈ wsG := mG (seg3 (List.mem_of_getElem? (i := 104) rfl)) rfl
theorem wconstantLong_RX1_79_1000000 : Cond.constantLong RX1 79 (1000000) ∈ wsG := mG (seg3 (List.mem_of_getElem? (i := 105) rfl)) rfl
theorem wfieldLink_RX8_11_LineEchoes_Wave_fromNear_J : Cond.fieldLink RX8 11 "LineEchoes$Wave" "fromNear" "[[J" ∈ wsG := mG (seg1 (List.mem_of_getElem? (i := 175) rfl)) rfl
theorem wmethodLink_RX8_53_yJ7_fill_d0a16 : Cond.methodLink RX8 53 yJ7_fill_d0a16 ∈ wsG := mG (seg2 (List.mem_of_getElem? (i := 83) rfl)) rfl
theorem wcode_yJ7_fill_d0a16_cJ7_fill_d0a16_5_none : Cond.code yJ7_fill_d0a16 cJ7_fill_d0a16 5 none ∈ wsG := mG (seg2 (List.mem_of_getElem? (i := 85) rfl)) rfl
theorem winitialized_RJ7 : Cond.initialized RJ7 ∈ wsG := mG (seg1 (List.mem_of_getElem? (i := 20) rfl)) rfl
theorem wstatic_yJ7_fill_d0a16 : Cond.static yJ7_fill_d0a16 ∈ wsG := mG (seg2 (List.mem_of_getElem? (i := 84) rfl)) rfl
theorem wfieldLink_RX8_16_LineEchoes_Wave_fromFar_J : Cond.fieldLink RX8 16 "LineEchoes$Wave" "fromFar" "[[J" ∈ wsG := mG (seg1 (List.mem_of_getElem? (i := 178) rfl)) rfl
theorem wfieldLink_RX8_19_LineEchoes_Wave_echoes_J : Cond.fieldLink RX8 19 "LineEchoes$Wave" "echoes" "[J" ∈ wsG := mG (seg1 (List.mem_of_getElem? (i := 180) rfl)) rfl
theorem wfieldLink_RX8_23_LineEchoes_Wave_totals_J : Cond.fieldLink RX8 23 "LineEchoes$Wave" "totals" "[J" ∈ wsG := mG (seg1 (List.mem_of_getElem? (i := 183) rfl)) rfl
theorem wfieldLink_RX8_59_LineEchoes_Bench_pulses_I : Cond.fieldLink RX8 59 "LineEchoes$Bench" "pulses" "I" ∈ wsG := mG (seg1 (List.mem_of_getElem? (i := 73) rfl)) rfl
theorem wfieldLink_RX8_62_LineEchoes_Bench_pulseTimes_I : Cond.fieldLink RX8 62 "LineEchoes$Bench" "pulseTimes" "[I" ∈ wsG := mG (seg1 (List.mem_of_getElem? (i := 77) rfl)) rfl
theorem wfieldLink_RX8_39_LineEchoes_Bench_window_I : Cond.fieldLink RX8 39 "LineEchoes$Bench" "window" "I" ∈ wsG := mG (seg1 (List.mem_of_getElem? (i := 68) rfl)) rfl
theorem wfieldLink_RX8_66_LineEchoes_Bench_pulseEnergies_I : Cond.fieldLink RX8 66 "LineEchoes$Bench" "pulseEnergies" "[I" ∈ wsG := mG (seg1 (List.mem_of_getElem? (i := 81) rfl)) rfl
theorem wconstantLong_RX9_100_1000 : Cond.constantLong RX9 100 (1000) ∈ wsG := mG (seg2 (List.mem_of_getElem? (i := 97) rfl)) rfl
theorem wfieldLink_RX8_93_LineEchoes_Bench_lengths_I : Cond.fieldLink RX8 93 "LineEchoes$Bench" "lengths" "[I" ∈ wsG := mG (seg1 (List.mem_of_getElem? (i := 53) rfl)) rfl
theorem wfieldLink_RX8_96_LineEchoes_Bench_least_I : Cond.fieldLink RX8 96 "LineEchoes$Bench" "least" "I" ∈ wsG := mG (seg1 (List.mem_of_getElem? (i := 66) rfl)) rfl
theorem wmethodLink_RX8_82_yX8_setOut : Cond.methodLink RX8 82 yX8_setOut ∈ wsG := mG (seg2 (List.mem_of_getElem? (i := 98) rfl)) rfl
theorem wcode_yX8_setOut_cX8_setOut_8_none : Cond.code yX8_setOut cX8_setOut 8 none ∈ wsG := mG (seg2 (List.mem_of_getElem? (i := 101) rfl)) rfl
theorem winitialized_RX8 : Cond.initialized RX8 ∈ wsG := mG (seg1 (List.mem_of_getElem? (i := 8) rfl)) rfl
theorem winstanceMethod_yX8_setOut : Cond.instanceMethod yX8_setOut ∈ wsG := mG (seg2 (List.mem_of_getElem? (i := 100) rfl)) rfl
theorem wselects_RX8_yX8_setOut_yX8_setOut : Cond.selects RX8 yX8_setOut yX8_setOut ∈ wsG := mG (seg0 (List.mem_of_getElem? (i := 8) rfl)) rfl
theorem wfieldLink_RX8_75_LineEchoes_Bench_front_I : Cond.fieldLink RX8 75 "LineEchoes$Bench" "front" "I" ∈ wsG := mG (seg1 (List.mem_of_getElem? (i := 60) rfl)) rfl
theorem wcode_yX9_turnedBack_cX9_turnedBack_3_some_long : Cond.code yX9_turnedBack cX9_turnedBack 3 (some .long) ∈ wsG := mG (seg2 (List.mem_of_getElem? (i := 96) rfl)) rfl
theorem wstatic_yX9_turnedBack : Cond.static yX9_turnedBack ∈ wsG := mG (seg2 (List.mem_of_getElem? (i := 95) rfl)) rfl
theorem wfieldLink_RX8_86_LineEchoes_Bench_fractions_I : Cond.fieldLink RX8 86 "LineEchoes$Bench" "fractions" "[I" ∈ wsG := mG (seg1 (List.mem_of_getElem? (i := 56) rfl)) rfl
theorem wmethodLink_RX8_89_yX8_countMerging : Cond.methodLink RX8 89 yX8_countMerging ∈ wsG := mG (seg2 (List.mem_of_getElem? (i := 106) rfl)) rfl
theorem wcode_yX8_countMerging_cX8_countMerging_5_none : Cond.code yX8_countMerging cX8_countMerging 5 none ∈ wsG := mG (seg2 (List.mem_of_getElem? (i := 109) rfl)) rfl
theorem winstanceMethod_yX8_countMerging : Cond.instanceMethod yX8_countMerging ∈ wsG := mG (seg2 (List.mem_of_getElem? (i := 108) rfl)) rfl
theorem wselects_RX8_yX8_countMerging_yX8_countMerging : Cond.selects RX8 yX8_countMerging yX8_countMerging ∈ wsG := mG (seg0 (List.mem_of_getElem? (i := 10) rfl)) rfl
theorem wfieldLink_RX8_33_LineEchoes_Bench_count_I : Cond.fieldLink RX8 33 "LineEchoes$Bench" "count" "I" ∈ wsG := mG (seg1 (List.mem_of_getElem? (i := 48) rfl)) rfl
theorem wmethodLink_RX8_69_Lib_MathLoose_max_long_x : Cond.methodLink RX8 69 Lib.MathLoose.max_long.x ∈ wsG := mG (seg2 (List.mem_of_getElem? (i := 114) rfl)) rfl
theorem wmethodLink_RX8_46_yX8_meetJoint : Cond.methodLink RX8 46 yX8_meetJoint ∈ wsG := mG (seg2 (List.mem_of_getElem? (i := 102) rfl)) rfl
theorem wcode_yX8_meetJoint_cX8_meetJoint_13_none : Cond.code yX8_meetJoint cX8_meetJoint 13 none ∈ wsG := mG (seg2 (List.mem_of_getElem? (i := 105) rfl)) rfl
theorem winstanceMethod_yX8_meetJoint : Cond.instanceMethod yX8_meetJoint ∈ wsG := mG (seg2 (List.mem_of_getElem? (i := 104) rfl)) rfl
theorem wselects_RX8_yX8_meetJoint_yX8_meetJoint : Cond.selects RX8 yX8_meetJoint yX8_meetJoint ∈ wsG := mG (seg0 (List.mem_of_getElem? (i := 9) rfl)) rfl
theorem wmethodLink_RX8_42_yX8_meetFront : Cond.methodLink RX8 42 yX8_meetFront ∈ wsG := mG (seg2 (List.mem_of_getElem? (i := 90) rfl)) rfl
theorem wcode_yX8_meetFront_cX8_meetFront_9_none : Cond.code yX8_meetFront cX8_meetFront 9 none ∈ wsG := mG (seg2 (List.mem_of_getElem? (i := 93) rfl)) rfl
theorem winstanceMethod_yX8_meetFront : Cond.instanceMethod yX8_meetFront ∈ wsG := mG (seg2 (List.mem_of_getElem? (i := 92) rfl)) rfl
theorem wselects_RX8_yX8_meetFront_yX8_meetFront : Cond.selects RX8 yX8_meetFront yX8_meetFront ∈ wsG := mG (seg0 (List.mem_of_getElem? (i := 7) rfl)) rfl
theorem wmethodLink_RX8_26_yX8_clear : Cond.methodLink RX8 26 yX8_clear ∈ wsG := mG (seg2 (List.mem_of_getElem? (i := 79) rfl)) rfl
theorem wcode_yX8_clear_cX8_clear_2_none : Cond.code yX8_clear cX8_clear 2 none ∈ wsG := mG (seg2 (List.mem_of_getElem? (i := 82) rfl)) rfl
theorem winstanceMethod_yX8_clear : Cond.instanceMethod yX8_clear ∈ wsG := mG (seg2 (List.mem_of_getElem? (i := 81) rfl)) rfl
theorem wselects_RX8_yX8_clear_yX8_clear : Cond.selects RX8 yX8_clear yX8_clear ∈ wsG := mG (seg0 (List.mem_of_getElem? (i := 5) rfl)) rfl
theorem wmethodLink_RX8_29_yX8_addUpPulses : Cond.methodLink RX8 29 yX8_addUpPulses ∈ wsG := mG (seg2 (List.mem_of_getElem? (i := 86) rfl)) rfl
theorem wcode_yX8_addUpPulses_cX8_addUpPulses_3_none : Cond.code yX8_addUpPulses cX8_addUpPulses 3 none ∈ wsG := mG (seg2 (List.mem_of_getElem? (i := 89) rfl)) rfl
theorem winstanceMethod_yX8_addUpPulses : Cond.instanceMethod yX8_addUpPulses ∈ wsG := mG (seg2 (List.mem_of_getElem? (i := 88) rfl)) rfl
theorem wselects_RX8_yX8_addUpPulses_yX8_addUpPulses : Cond.selects RX8 yX8_addUpPulses yX8_addUpPulses ∈ wsG := mG (seg0 (List.mem_of_getElem? (i := 6) rfl)) rfl
theorem wmethodLink_RX8_50_yX8_addUpEchoes : Cond.methodLink RX8 50 yX8_addUpEchoes ∈ wsG := mG (seg2 (List.mem_of_getElem? (i := 110) rfl)) rfl
theorem wcode_yX8_addUpEchoes_cX8_addUpEchoes_2_none : Cond.code yX8_addUpEchoes cX8_addUpEchoes 2 none ∈ wsG := mG (seg2 (List.mem_of_getElem? (i := 113) rfl)) rfl
theorem winstanceMethod_yX8_addUpEchoes : Cond.instanceMethod yX8_addUpEchoes ∈ wsG := mG (seg2 (List.mem_of_getElem? (i := 112) rfl)) rfl
theorem wselects_RX8_yX8_addUpEchoes_yX8_addUpEchoes : Cond.selects RX8 yX8_addUpEchoes yX8_addUpEchoes ∈ wsG := mG (seg0 (List.mem_of_getElem? (i := 11) rfl)) rfl
theorem wfieldLink_RX3_11_LineEchoes_History_states_LLineEchoes_State : Cond.fieldLink RX3 11 "LineEchoes$History" "states" "[LLineEchoes$State;" ∈ wsG := mG (seg1 (List.mem_of_getElem? (i := 128) rfl)) rfl
theorem wfieldLink_RX3_18_LineEchoes_History_count_I : Cond.fieldLink RX3 18 "LineEchoes$History" "count" "I" ∈ wsG := mG (seg1 (List.mem_of_getElem? (i := 129) rfl)) rfl
theorem wmethodLink_RX1_41_yX1_takeLine : Cond.methodLink RX1 41 yX1_takeLine ∈ wsG := mG (seg2 (List.mem_of_getElem? (i := 22) rfl)) rfl
theorem wcode_yX1_takeLine_cX1_takeLine_2_none : Cond.code yX1_takeLine cX1_takeLine 2 none ∈ wsG := mG (seg2 (List.mem_of_getElem? (i := 25) rfl)) rfl
theorem winstanceMethod_yX1_takeLine : Cond.instanceMethod yX1_takeLine ∈ wsG := mG (seg2 (List.mem_of_getElem? (i := 23) rfl)) rfl
theorem wselects_RX1_yX1_takeLine_yX1_takeLine : Cond.selects RX1 yX1_takeLine yX1_takeLine ∈ wsG := mG (seg2 (List.mem_of_getElem? (i := 24) rfl)) rfl
theorem wmethodLink_RX1_45_yX1_takeSettings : Cond.methodLink RX1 45 yX1_takeSettings ∈ wsG := mG (seg2 (List.mem_of_getElem? (i := 29) rfl)) rfl
theorem wcode_yX1_takeSettings_cX1_takeSettings_2_none : Cond.code yX1_takeSettings cX1_takeSettings 2 none ∈ wsG := mG (seg2 (List.mem_of_getElem? (i := 32) rfl)) rfl
theorem winstanceMethod_yX1_takeSettings : Cond.instanceMethod yX1_takeSettings ∈ wsG := mG (seg2 (List.mem_of_getElem? (i := 30) rfl)) rfl
theorem wselects_RX1_yX1_takeSettings_yX1_takeSettings : Cond.selects RX1 yX1_takeSettings yX1_takeSettings ∈ wsG := mG (seg2 (List.mem_of_getElem? (i := 31) rfl)) rfl
theorem wfieldLink_RX6_12_LineEchoes_State_bench_LLineEchoes_Bench : Cond.fieldLink RX6 12 "LineEchoes$State" "bench" "LLineEchoes$Bench;" ∈ wsG := mG (seg1 (List.mem_of_getElem? (i := 103) rfl)) rfl
theorem wmethodLink_RX6_25_yX1_copyBench : Cond.methodLink RX6 25 yX1_copyBench ∈ wsG := mG (seg2 (List.mem_of_getElem? (i := 18) rfl)) rfl
theorem wcode_yX1_copyBench_cX1_copyBench_2_none : Cond.code yX1_copyBench cX1_copyBench 2 none ∈ wsG := mG (seg2 (List.mem_of_getElem? (i := 21) rfl)) rfl
theorem winstanceMethod_yX1_copyBench : Cond.instanceMethod yX1_copyBench ∈ wsG := mG (seg2 (List.mem_of_getElem? (i := 19) rfl)) rfl
theorem wselects_RX1_yX1_copyBench_yX1_copyBench : Cond.selects RX1 yX1_copyBench yX1_copyBench ∈ wsG := mG (seg2 (List.mem_of_getElem? (i := 20) rfl)) rfl
theorem wfieldLink_RX6_18_LineEchoes_State_sound_J : Cond.fieldLink RX6 18 "LineEchoes$State" "sound" "[J" ∈ wsG := mG (seg1 (List.mem_of_getElem? (i := 106) rfl)) rfl
theorem wmethodLink_RX6_29_arraycopyName : Cond.methodLink RX6 29 arraycopyName ∈ wsG := mG (seg2 (List.mem_of_getElem? (i := 33) rfl)) rfl
theorem wfieldLink_RX6_22_LineEchoes_State_seen_J : Cond.fieldLink RX6 22 "LineEchoes$State" "seen" "[J" ∈ wsG := mG (seg1 (List.mem_of_getElem? (i := 108) rfl)) rfl
theorem wmethodLink_RX3_25_yX6_copyState : Cond.methodLink RX3 25 yX6_copyState ∈ wsG := mG (seg2 (List.mem_of_getElem? (i := 14) rfl)) rfl
theorem wcode_yX6_copyState_cX6_copyState_2_none : Cond.code yX6_copyState cX6_copyState 2 none ∈ wsG := mG (seg2 (List.mem_of_getElem? (i := 17) rfl)) rfl
theorem winitialized_RX6 : Cond.initialized RX6 ∈ wsG := mG (seg1 (List.mem_of_getElem? (i := 2) rfl)) rfl
theorem winstanceMethod_yX6_copyState : Cond.instanceMethod yX6_copyState ∈ wsG := mG (seg2 (List.mem_of_getElem? (i := 15) rfl)) rfl
theorem wselects_RX6_yX6_copyState_yX6_copyState : Cond.selects RX6 yX6_copyState yX6_copyState ∈ wsG := mG (seg2 (List.mem_of_getElem? (i := 16) rfl)) rfl
theorem wmethodLink_RX3_22_yX3_moveOldestToTop : Cond.methodLink RX3 22 yX3_moveOldestToTop ∈ wsG := mG (seg2 (List.mem_of_getElem? (i := 10) rfl)) rfl
theorem wcode_yX3_moveOldestToTop_cX3_moveOldestToTop_3_none : Cond.code yX3_moveOldestToTop cX3_moveOldestToTop 3 none ∈ wsG := mG (seg2 (List.mem_of_getElem? (i := 13) rfl)) rfl
theorem winitialized_RX3 : Cond.initialized RX3 ∈ wsG := mG (seg1 (List.mem_of_getElem? (i := 4) rfl)) rfl
theorem winstanceMethod_yX3_moveOldestToTop : Cond.instanceMethod yX3_moveOldestToTop ∈ wsG := mG (seg2 (List.mem_of_getElem? (i := 12) rfl)) rfl
theorem wselects_RX3_yX3_moveOldestToTop_yX3_moveOldestToTop : Cond.selects RX3 yX3_moveOldestToTop yX3_moveOldestToTop ∈ wsG := mG (seg0 (List.mem_of_getElem? (i := 0) rfl)) rfl
theorem wfieldLink_RX4_12_LineEchoes_Peeling_line_LLineEchoes_Bench : Cond.fieldLink RX4 12 "LineEchoes$Peeling" "line" "LLineEchoes$Bench;" ∈ wsG := mG (seg1 (List.mem_of_getElem? (i := 204) rfl)) rfl
theorem wfieldLink_RX4_52_LineEchoes_Bench_count_I : Cond.fieldLink RX4 52 "LineEchoes$Bench" "count" "I" ∈ wsG := mG (seg1 (List.mem_of_getElem? (i := 49) rfl)) rfl
theorem wmethodLink_RX4_71_yX1_takeSettings : Cond.methodLink RX4 71 yX1_takeSettings ∈ wsG := mG (seg2 (List.mem_of_getElem? (i := 130) rfl)) rfl
theorem wfieldLink_RX4_74_LineEchoes_Bench_pulses_I : Cond.fieldLink RX4 74 "LineEchoes$Bench" "pulses" "I" ∈ wsG := mG (seg1 (List.mem_of_getElem? (i := 72) rfl)) rfl
theorem wfieldLink_RX4_77_LineEchoes_Bench_pulseTimes_I : Cond.fieldLink RX4 77 "LineEchoes$Bench" "pulseTimes" "[I" ∈ wsG := mG (seg1 (List.mem_of_getElem? (i := 76) rfl)) rfl
theorem wfieldLink_RX4_81_LineEchoes_Bench_pulseEnergies_I : Cond.fieldLink RX4 81 "LineEchoes$Bench" "pulseEnergies" "[I" ∈ wsG := mG (seg1 (List.mem_of_getElem? (i := 80) rfl)) rfl
theorem wfieldLink_RX4_18_LineEchoes_Peeling_result_I : Cond.fieldLink RX4 18 "LineEchoes$Peeling" "result" "I" ∈ wsG := mG (seg1 (List.mem_of_getElem? (i := 206) rfl)) rfl
theorem wfieldLink_RX4_22_LineEchoes_Peeling_endTime_I : Cond.fieldLink RX4 22 "LineEchoes$Peeling" "endTime" "I" ∈ wsG := mG (seg1 (List.mem_of_getElem? (i := 208) rfl)) rfl
theorem wmethodLink_RX4_63_yX4_endWith : Cond.methodLink RX4 63 yX4_endWith ∈ wsG := mG (seg2 (List.mem_of_getElem? (i := 139) rfl)) rfl
theorem wcode_yX4_endWith_cX4_endWith_3_none : Cond.code yX4_endWith cX4_endWith 3 none ∈ wsG := mG (seg2 (List.mem_of_getElem? (i := 142) rfl)) rfl
theorem winitialized_RX4 : Cond.initialized RX4 ∈ wsG := mG (seg1 (List.mem_of_getElem? (i := 9) rfl)) rfl
theorem winstanceMethod_yX4_endWith : Cond.instanceMethod yX4_endWith ∈ wsG := mG (seg2 (List.mem_of_getElem? (i := 141) rfl)) rfl
theorem wselects_RX4_yX4_endWith_yX4_endWith : Cond.selects RX4 yX4_endWith yX4_endWith ∈ wsG := mG (seg0 (List.mem_of_getElem? (i := 15) rfl)) rfl
theorem wfieldLink_RX4_28_LineEchoes_Peeling_trial_LLineEchoes_Wave : Cond.fieldLink RX4 28 "LineEchoes$Peeling" "trial" "LLineEchoes$Wave;" ∈ wsG := mG (seg1 (List.mem_of_getElem? (i := 210) rfl)) rfl
theorem wfieldLink_RX4_84_LineEchoes_Wave_echoes_J : Cond.fieldLink RX4 84 "LineEchoes$Wave" "echoes" "[J" ∈ wsG := mG (seg1 (List.mem_of_getElem? (i := 181) rfl)) rfl
theorem wfieldLink_RX4_87_LineEchoes_Bench_window_I : Cond.fieldLink RX4 87 "LineEchoes$Bench" "window" "I" ∈ wsG := mG (seg1 (List.mem_of_getElem? (i := 69) rfl)) rfl
theorem wcode_yX9_firstUnequal_cX9_firstUnequal_4_some_int : Cond.code yX9_firstUnequal cX9_firstUnequal 4 (some .int) ∈ wsG := mG (seg2 (List.mem_of_getElem? (i := 138) rfl)) rfl
theorem wstatic_yX9_firstUnequal : Cond.static yX9_firstUnequal ∈ wsG := mG (seg2 (List.mem_of_getElem? (i := 137) rfl)) rfl
theorem wmethodLink_RX4_55_yX1_reach : Cond.methodLink RX4 55 yX1_reach ∈ wsG := mG (seg2 (List.mem_of_getElem? (i := 143) rfl)) rfl
theorem wcode_yX1_reach_cX1_reach_4_some_int : Cond.code yX1_reach cX1_reach 4 (some .int) ∈ wsG := mG (seg2 (List.mem_of_getElem? (i := 48) rfl)) rfl
theorem winstanceMethod_yX1_reach : Cond.instanceMethod yX1_reach ∈ wsG := mG (seg2 (List.mem_of_getElem? (i := 46) rfl)) rfl
theorem wselects_RX1_yX1_reach_yX1_reach : Cond.selects RX1 yX1_reach yX1_reach ∈ wsG := mG (seg2 (List.mem_of_getElem? (i := 47) rfl)) rfl
theorem wfieldLink_RX4_123_LineEchoes_Bench_least_I : Cond.fieldLink RX4 123 "LineEchoes$Bench" "least" "I" ∈ wsG := mG (seg1 (List.mem_of_getElem? (i := 65) rfl)) rfl
theorem wmethodLink_RX4_102_yX4_kept : Cond.methodLink RX4 102 yX4_kept ∈ wsG := mG (seg2 (List.mem_of_getElem? (i := 152) rfl)) rfl
theorem wcode_yX4_kept_cX4_kept_3_some_long : Cond.code yX4_kept cX4_kept 3 (some .long) ∈ wsG := mG (seg2 (List.mem_of_getElem? (i := 155) rfl)) rfl
theorem winstanceMethod_yX4_kept : Cond.instanceMethod yX4_kept ∈ wsG := mG (seg2 (List.mem_of_getElem? (i := 154) rfl)) rfl
theorem wselects_RX4_yX4_kept_yX4_kept : Cond.selects RX4 yX4_kept yX4_kept ∈ wsG := mG (seg0 (List.mem_of_getElem? (i := 18) rfl)) rfl
theorem wfieldLink_RX4_106_LineEchoes_Wave_fromNear_J : Cond.fieldLink RX4 106 "LineEchoes$Wave" "fromNear" "[[J" ∈ wsG := mG (seg1 (List.mem_of_getElem? (i := 176) rfl)) rfl
theorem wfieldLink_RX4_110_LineEchoes_Bench_fractions_I : Cond.fieldLink RX4 110 "LineEchoes$Bench" "fractions" "[I" ∈ wsG := mG (seg1 (List.mem_of_getElem? (i := 57) rfl)) rfl
theorem wfieldLink_RX4_117_LineEchoes_Bench_lengths_I : Cond.fieldLink RX4 117 "LineEchoes$Bench" "lengths" "[I" ∈ wsG := mG (seg1 (List.mem_of_getElem? (i := 52) rfl)) rfl
theorem wfieldLink_RX4_120_LineEchoes_Bench_front_I : Cond.fieldLink RX4 120 "LineEchoes$Bench" "front" "I" ∈ wsG := mG (seg1 (List.mem_of_getElem? (i := 62) rfl)) rfl
theorem wmethodLink_RX4_98_yX4_echoOfNewEnd : Cond.methodLink RX4 98 yX4_echoOfNewEnd ∈ wsG := mG (seg2 (List.mem_of_getElem? (i := 157) rfl)) rfl
theorem wcode_yX4_echoOfNewEnd_cX4_echoOfNewEnd_12_some_long : Cond.code yX4_echoOfNewEnd cX4_echoOfNewEnd 12 (some .long) ∈ wsG := mG (seg2 (List.mem_of_getElem? (i := 160) rfl)) rfl
theorem winstanceMethod_yX4_echoOfNewEnd : Cond.instanceMethod yX4_echoOfNewEnd ∈ wsG := mG (seg2 (List.mem_of_getElem? (i := 159) rfl)) rfl
theorem wselects_RX4_yX4_echoOfNewEnd_yX4_echoOfNewEnd : Cond.selects RX4 yX4_echoOfNewEnd yX4_echoOfNewEnd ∈ wsG := mG (seg0 (List.mem_of_getElem? (i := 19) rfl)) rfl
theorem wmethodLink_RX4_94_yX4_energyBeyondEnd : Cond.methodLink RX4 94 yX4_energyBeyondEnd ∈ wsG := mG (seg2 (List.mem_of_getElem? (i := 148) rfl)) rfl
theorem wcode_yX4_energyBeyondEnd_cX4_energyBeyondEnd_4_some_long : Cond.code yX4_energyBeyondEnd cX4_energyBeyondEnd 4 (some .long) ∈ wsG := mG (seg2 (List.mem_of_getElem? (i := 151) rfl)) rfl
theorem winstanceMethod_yX4_energyBeyondEnd : Cond.instanceMethod yX4_energyBeyondEnd ∈ wsG := mG (seg2 (List.mem_of_getElem? (i := 150) rfl)) rfl
theorem wselects_RX4_yX4_energyBeyondEnd_yX4_energyBeyondEnd : Cond.selects RX4 yX4_energyBeyondEnd yX4_energyBeyondEnd ∈ wsG := mG (seg0 (List.mem_of_getElem? (i := 17) rfl)) rfl
theorem wmethodLink_RX4_41_yX8_spread : Cond.methodLink RX4 41 yX8_spread ∈ wsG := mG (seg2 (List.mem_of_getElem? (i := 131) rfl)) rfl
theorem wcode_yX8_spread_cX8_spread_4_none : Cond.code yX8_spread cX8_spread 4 none ∈ wsG := mG (seg2 (List.mem_of_getElem? (i := 78) rfl)) rfl
theorem winstanceMethod_yX8_spread : Cond.instanceMethod yX8_spread ∈ wsG := mG (seg2 (List.mem_of_getElem? (i := 76) rfl)) rfl
theorem wselects_RX8_yX8_spread_yX8_spread : Cond.selects RX8 yX8_spread yX8_spread ∈ wsG := mG (seg2 (List.mem_of_getElem? (i := 77) rfl)) rfl
theorem wfieldLink_RX4_44_LineEchoes_State_seen_J : Cond.fieldLink RX4 44 "LineEchoes$State" "seen" "[J" ∈ wsG := mG (seg1 (List.mem_of_getElem? (i := 109) rfl)) rfl
theorem wmethodLink_RX4_48_yX4_timeOfNextPart : Cond.methodLink RX4 48 yX4_timeOfNextPart ∈ wsG := mG (seg2 (List.mem_of_getElem? (i := 132) rfl)) rfl
theorem wcode_yX4_timeOfNextPart_cX4_timeOfNextPart_4_some_int : Cond.code yX4_timeOfNextPart cX4_timeOfNextPart 4 (some .int) ∈ wsG := mG (seg2 (List.mem_of_getElem? (i := 135) rfl)) rfl
theorem winstanceMethod_yX4_timeOfNextPart : Cond.instanceMethod yX4_timeOfNextPart ∈ wsG := mG (seg2 (List.mem_of_getElem? (i := 134) rfl)) rfl
theorem wselects_RX4_yX4_timeOfNextPart_yX4_timeOfNextPart : Cond.selects RX4 yX4_timeOfNextPart yX4_timeOfNextPart ∈ wsG := mG (seg0 (List.mem_of_getElem? (i := 14) rfl)) rfl
theorem wmethodLink_RX4_59_yX4_smallestFraction : Cond.methodLink RX4 59 yX4_smallestFraction ∈ wsG := mG (seg2 (List.mem_of_getElem? (i := 144) rfl)) rfl
theorem wcode_yX4_smallestFraction_cX4_smallestFraction_10_some_int : Cond.code yX4_smallestFraction cX4_smallestFraction 10 (some .int) ∈ wsG := mG (seg2 (List.mem_of_getElem? (i := 147) rfl)) rfl
theorem winstanceMethod_yX4_smallestFraction : Cond.instanceMethod yX4_smallestFraction ∈ wsG := mG (seg2 (List.mem_of_getElem? (i := 146) rfl)) rfl
theorem wselects_RX4_yX4_smallestFraction_yX4_smallestFraction : Cond.selects RX4 yX4_smallestFraction yX4_smallestFraction ∈ wsG := mG (seg0 (List.mem_of_getElem? (i := 16) rfl)) rfl
theorem wmethodLink_RX4_67_yX1_append : Cond.methodLink RX4 67 yX1_append ∈ wsG := mG (seg2 (List.mem_of_getElem? (i := 161) rfl)) rfl
theorem wcode_yX1_append_cX1_append_3_some_int : Cond.code yX1_append cX1_append 3 (some .int) ∈ wsG := mG (seg2 (List.mem_of_getElem? (i := 164) rfl)) rfl
theorem winstanceMethod_yX1_append : Cond.instanceMethod yX1_append ∈ wsG := mG (seg2 (List.mem_of_getElem? (i := 162) rfl)) rfl
theorem wselects_RX1_yX1_append_yX1_append : Cond.selects RX1 yX1_append yX1_append ∈ wsG := mG (seg2 (List.mem_of_getElem? (i := 163) rfl)) rfl
theorem wfieldLink_RX4_32_LineEchoes_State_bench_LLineEchoes_Bench : Cond.fieldLink RX4 32 "LineEchoes$State" "bench" "LLineEchoes$Bench;" ∈ wsG := mG (seg1 (List.mem_of_getElem? (i := 104) rfl)) rfl
theorem wmethodLink_RX4_37_yX4_startLine : Cond.methodLink RX4 37 yX4_startLine ∈ wsG := mG (seg2 (List.mem_of_getElem? (i := 126) rfl)) rfl
theorem wcode_yX4_startLine_cX4_startLine_2_none : Cond.code yX4_startLine cX4_startLine 2 none ∈ wsG := mG (seg2 (List.mem_of_getElem? (i := 129) rfl)) rfl
theorem winstanceMethod_yX4_startLine : Cond.instanceMethod yX4_startLine ∈ wsG := mG (seg2 (List.mem_of_getElem? (i := 128) rfl)) rfl
theorem wselects_RX4_yX4_startLine_yX4_startLine : Cond.selects RX4 yX4_startLine yX4_startLine ∈ wsG := mG (seg0 (List.mem_of_getElem? (i := 13) rfl)) rfl
theorem wfieldLink_RX9_301_LineEchoes_1_SwitchMap_LineEchoes_Command_I : Cond.fieldLink RX9 301 "LineEchoes$1" "$SwitchMap$LineEchoes$Command" "[I" ∈ wsG := mG (seg2 (List.mem_of_getElem? (i := 59) rfl)) rfl
theorem wmethodLink_RX9_306_LineEchoes_Command_ordinal_I : Cond.methodLink RX9 306 ⟨"LineEchoes$Command", "ordinal", "()I"⟩ ∈ wsG := mG (seg2 (List.mem_of_getElem? (i := 61) rfl)) rfl
theorem wfieldLink_RX9_12_LineEchoes_now_LLineEchoes_State : Cond.fieldLink RX9 12 "LineEchoes" "now" "LLineEchoes$State;" ∈ wsG := mG (seg1 (List.mem_of_getElem? (i := 220) rfl)) rfl
theorem wfieldLink_RX9_77_LineEchoes_State_bench_LLineEchoes_Bench : Cond.fieldLink RX9 77 "LineEchoes$State" "bench" "LLineEchoes$Bench;" ∈ wsG := mG (seg1 (List.mem_of_getElem? (i := 105) rfl)) rfl
theorem wmethodLink_RX9_309_yX1_verdictOnAppend : Cond.methodLink RX9 309 yX1_verdictOnAppend ∈ wsG := mG (seg3 (List.mem_of_getElem? (i := 71) rfl)) rfl
theorem wcode_yX1_verdictOnAppend_cX1_verdictOnAppend_3_some_object_LineEchoes_Verdict : Cond.code yX1_verdictOnAppend cX1_verdictOnAppend 3 (some (.object "LineEchoes$Verdict")) ∈ wsG := mG (seg3 (List.mem_of_getElem? (i := 74) rfl)) rfl
theorem winstanceMethod_yX1_verdictOnAppend : Cond.instanceMethod yX1_verdictOnAppend ∈ wsG := mG (seg3 (List.mem_of_getElem? (i := 72) rfl)) rfl
theorem wselects_RX1_yX1_verdictOnAppend_yX1_verdictOnAppend : Cond.selects RX1 yX1_verdictOnAppend yX1_verdictOnAppend ∈ wsG := mG (seg3 (List.mem_of_getElem? (i := 73) rfl)) rfl
theorem wmethodLink_RX9_313_yX1_verdictOnReplace : Cond.methodLink RX9 313 yX1_verdictOnReplace ∈ wsG := mG (seg3 (List.mem_of_getElem? (i := 86) rfl)) rfl
theorem wcode_yX1_verdictOnReplace_cX1_verdictOnReplace_5_some_object_LineEchoes_Verdict : Cond.code yX1_verdictOnReplace cX1_verdictOnReplace 5 (some (.object "LineEchoes$Verdict")) ∈ wsG := mG (seg3 (List.mem_of_getElem? (i := 89) rfl)) rfl
theorem winstanceMethod_yX1_verdictOnReplace : Cond.instanceMethod yX1_verdictOnReplace ∈ wsG := mG (seg3 (List.mem_of_getElem? (i := 87) rfl)) rfl
theorem wselects_RX1_yX1_verdictOnReplace_yX1_verdictOnReplace : Cond.selects RX1 yX1_verdictOnReplace yX1_verdictOnReplace ∈ wsG := mG (seg3 (List.mem_of_getElem? (i := 88) rfl)) rfl
theorem wmethodLink_RX9_317_yX1_verdictOnPart : Cond.methodLink RX9 317 yX1_verdictOnPart ∈ wsG := mG (seg3 (List.mem_of_getElem? (i := 92) rfl)) rfl
theorem wcode_yX1_verdictOnPart_cX1_verdictOnPart_2_some_object_LineEchoes_Verdict : Cond.code yX1_verdictOnPart cX1_verdictOnPart 2 (some (.object "LineEchoes$Verdict")) ∈ wsG := mG (seg3 (List.mem_of_getElem? (i := 95) rfl)) rfl
theorem winstanceMethod_yX1_verdictOnPart : Cond.instanceMethod yX1_verdictOnPart ∈ wsG := mG (seg3 (List.mem_of_getElem? (i := 93) rfl)) rfl
theorem wselects_RX1_yX1_verdictOnPart_yX1_verdictOnPart : Cond.selects RX1 yX1_verdictOnPart yX1_verdictOnPart ∈ wsG := mG (seg3 (List.mem_of_getElem? (i := 94) rfl)) rfl
theorem wmethodLink_RX9_321_yX1_verdictOnDivide : Cond.methodLink RX9 321 yX1_verdictOnDivide ∈ wsG := mG (seg3 (List.mem_of_getElem? (i := 96) rfl)) rfl
theorem wcode_yX1_verdictOnDivide_cX1_verdictOnDivide_4_some_object_LineEchoes_Verdict : Cond.code yX1_verdictOnDivide cX1_verdictOnDivide 4 (some (.object "LineEchoes$Verdict")) ∈ wsG := mG (seg3 (List.mem_of_getElem? (i := 99) rfl)) rfl
theorem winstanceMethod_yX1_verdictOnDivide : Cond.instanceMethod yX1_verdictOnDivide ∈ wsG := mG (seg3 (List.mem_of_getElem? (i := 97) rfl)) rfl
theorem wselects_RX1_yX1_verdictOnDivide_yX1_verdictOnDivide : Cond.selects RX1 yX1_verdictOnDivide yX1_verdictOnDivide ∈ wsG := mG (seg3 (List.mem_of_getElem? (i := 98) rfl)) rfl
theorem wmethodLink_RX9_324_yX1_verdictOnPulse : Cond.methodLink RX9 324 yX1_verdictOnPulse ∈ wsG := mG (seg3 (List.mem_of_getElem? (i := 100) rfl)) rfl
theorem wcode_yX1_verdictOnPulse_cX1_verdictOnPulse_3_some_object_LineEchoes_Verdict : Cond.code yX1_verdictOnPulse cX1_verdictOnPulse 3 (some (.object "LineEchoes$Verdict")) ∈ wsG := mG (seg3 (List.mem_of_getElem? (i := 103) rfl)) rfl
theorem winstanceMethod_yX1_verdictOnPulse : Cond.instanceMethod yX1_verdictOnPulse ∈ wsG := mG (seg3 (List.mem_of_getElem? (i := 101) rfl)) rfl
theorem wselects_RX1_yX1_verdictOnPulse_yX1_verdictOnPulse : Cond.selects RX1 yX1_verdictOnPulse yX1_verdictOnPulse ∈ wsG := mG (seg3 (List.mem_of_getElem? (i := 102) rfl)) rfl
theorem wfieldLink_RX9_252_LineEchoes_Verdict_FINE_LLineEchoes_Verdict : Cond.fieldLink RX9 252 "LineEchoes$Verdict" "FINE" "LLineEchoes$Verdict;" ∈ wsG := mG (seg3 (List.mem_of_getElem? (i := 106) rfl)) rfl
theorem wfieldLink_RX9_363_LineEchoes_Verdict_NO_SUCH_NUMBER_LLineEchoes_Verdict : Cond.fieldLink RX9 363 "LineEchoes$Verdict" "NO_SUCH_NUMBER" "LLineEchoes$Verdict;" ∈ wsG := mG (seg4 (List.mem_of_getElem? (i := 7) rfl)) rfl
set_option maxRecDepth 20000 in
theorem Cat_370_1 : ∀ w ∈ (vx_atS RX9 370 "java/lang/IndexOutOfBoundsException" excNm).filter goodWord, w ∈ lw_tbl := by decide +kernel
set_option maxRecDepth 20000 in
theorem Cat_370_2 : ∀ w ∈ (vx_atS RX9 370 "java/lang/IndexOutOfBoundsException" excNm).filter (fun w => !goodWord w), w ∈ excB := by decide +kernel
set_option maxRecDepth 20000 in
theorem Cat_370_3 : ∀ w ∈ Cond.classLink RX9 366 "java/lang/IndexOutOfBoundsException" :: Cond.initialized "java/lang/IndexOutOfBoundsException" :: vx_atS RX9 370 "java/lang/IndexOutOfBoundsException" excNm, vx_ot w = true := by decide +kernel
theorem wclassLink_RX9_366_java_lang_IndexOutOfBoundsException : Cond.classLink RX9 366 "java/lang/IndexOutOfBoundsException" ∈ wsG := mG (seg4 (List.mem_of_getElem? (i := 8) rfl)) rfl
theorem winitialized_java_lang_IndexOutOfBoundsException : Cond.initialized "java/lang/IndexOutOfBoundsException" ∈ wsG := mG (seg1 (List.mem_of_getElem? (i := 16) rfl)) rfl
theorem wfieldLink_RX9_371_LineEchoes_Verdict_OUT_OF_RANGE_LLineEchoes_Verdict : Cond.fieldLink RX9 371 "LineEchoes$Verdict" "OUT_OF_RANGE" "LLineEchoes$Verdict;" ∈ wsG := mG (seg4 (List.mem_of_getElem? (i := 24) rfl)) rfl
set_option maxRecDepth 20000 in
theorem Cat_378_1 : ∀ w ∈ (vx_atS RX9 378 "java/lang/IllegalArgumentException" excNm).filter goodWord, w ∈ lw_tbl := by decide +kernel
set_option maxRecDepth 20000 in
theorem Cat_378_2 : ∀ w ∈ (vx_atS RX9 378 "java/lang/IllegalArgumentException" excNm).filter (fun w => !goodWord w), w ∈ excB := by decide +kernel
set_option maxRecDepth 20000 in
theorem Cat_378_3 : ∀ w ∈ Cond.classLink RX9 374 "java/lang/IllegalArgumentException" :: Cond.initialized "java/lang/IllegalArgumentException" :: vx_atS RX9 378 "java/lang/IllegalArgumentException" excNm, vx_ot w = true := by decide +kernel
theorem wclassLink_RX9_374_java_lang_IllegalArgumentException : Cond.classLink RX9 374 "java/lang/IllegalArgumentException" ∈ wsG := mG (seg3 (List.mem_of_getElem? (i := 129) rfl)) rfl
theorem winitialized_java_lang_IllegalArgumentException : Cond.initialized "java/lang/IllegalArgumentException" ∈ wsG := mG (seg1 (List.mem_of_getElem? (i := 17) rfl)) rfl
theorem wfieldLink_RX9_379_LineEchoes_Verdict_NO_ROOM_LLineEchoes_Verdict : Cond.fieldLink RX9 379 "LineEchoes$Verdict" "NO_ROOM" "LLineEchoes$Verdict;" ∈ wsG := mG (seg4 (List.mem_of_getElem? (i := 25) rfl)) rfl
set_option maxRecDepth 20000 in
theorem Cat_127_1 : ∀ w ∈ (vx_atS RX9 127 "java/lang/IllegalStateException" excNm).filter goodWord, w ∈ lw_tbl := by decide +kernel
set_option maxRecDepth 20000 in
theorem Cat_127_2 : ∀ w ∈ (vx_atS RX9 127 "java/lang/IllegalStateException" excNm).filter (fun w => !goodWord w), w ∈ excB := by decide +kernel
set_option maxRecDepth 20000 in
theorem Cat_127_3 : ∀ w ∈ Cond.classLink RX9 123 "java/lang/IllegalStateException" :: Cond.initialized "java/lang/IllegalStateException" :: vx_atS RX9 127 "java/lang/IllegalStateException" excNm, vx_ot w = true := by decide +kernel
theorem wclassLink_RX9_123_java_lang_IllegalStateException : Cond.classLink RX9 123 "java/lang/IllegalStateException" ∈ wsG := mG (seg4 (List.mem_of_getElem? (i := 26) rfl)) rfl
theorem winitialized_java_lang_IllegalStateException : Cond.initialized "java/lang/IllegalStateException" ∈ wsG := mG (seg1 (List.mem_of_getElem? (i := 18) rfl)) rfl
theorem wfieldLink_RX9_44_LineEchoes_waveIsFresh_Z : Cond.fieldLink RX9 44 "LineEchoes" "waveIsFresh" "Z" ∈ wsG := mG (seg1 (List.mem_of_getElem? (i := 225) rfl)) rfl
theorem wfieldLink_RX9_48_LineEchoes_peelingIsFresh_Z : Cond.fieldLink RX9 48 "LineEchoes" "peelingIsFresh" "Z" ∈ wsG := mG (seg1 (List.mem_of_getElem? (i := 226) rfl)) rfl
theorem wmethodLink_RX9_74_yX9_forgetResults : Cond.methodLink RX9 74 yX9_forgetResults ∈ wsG := mG (seg2 (List.mem_of_getElem? (i := 34) rfl)) rfl
theorem wcode_yX9_forgetResults_cX9_forgetResults_1_none : Cond.code yX9_forgetResults cX9_forgetResults 1 none ∈ wsG := mG (seg2 (List.mem_of_getElem? (i := 37) rfl)) rfl
theorem winstanceMethod_yX9_forgetResults : Cond.instanceMethod yX9_forgetResults ∈ wsG := mG (seg2 (List.mem_of_getElem? (i := 36) rfl)) rfl
theorem wselects_RX9_yX9_forgetResults_yX9_forgetResults : Cond.selects RX9 yX9_forgetResults yX9_forgetResults ∈ wsG := mG (seg0 (List.mem_of_getElem? (i := 1) rfl)) rfl
theorem wmethodLink_RX9_335_yX1_append : Cond.methodLink RX9 335 yX1_append ∈ wsG := mG (seg2 (List.mem_of_getElem? (i := 170) rfl)) rfl
theorem wmethodLink_RX9_338_yX1_replace : Cond.methodLink RX9 338 yX1_replace ∈ wsG := mG (seg2 (List.mem_of_getElem? (i := 171) rfl)) rfl
theorem wcode_yX1_replace_cX1_replace_5_some_int : Cond.code yX1_replace cX1_replace 5 (some .int) ∈ wsG := mG (seg2 (List.mem_of_getElem? (i := 174) rfl)) rfl
theorem winstanceMethod_yX1_replace : Cond.instanceMethod yX1_replace ∈ wsG := mG (seg2 (List.mem_of_getElem? (i := 172) rfl)) rfl
theorem wselects_RX1_yX1_replace_yX1_replace : Cond.selects RX1 yX1_replace yX1_replace ∈ wsG := mG (seg2 (List.mem_of_getElem? (i := 173) rfl)) rfl
theorem wmethodLink_RX9_342_yX1_cut : Cond.methodLink RX9 342 yX1_cut ∈ wsG := mG (seg2 (List.mem_of_getElem? (i := 175) rfl)) rfl
theorem wcode_yX1_cut_cX1_cut_3_some_int : Cond.code yX1_cut cX1_cut 3 (some .int) ∈ wsG := mG (seg2 (List.mem_of_getElem? (i := 178) rfl)) rfl
theorem winstanceMethod_yX1_cut : Cond.instanceMethod yX1_cut ∈ wsG := mG (seg2 (List.mem_of_getElem? (i := 176) rfl)) rfl
theorem wselects_RX1_yX1_cut_yX1_cut : Cond.selects RX1 yX1_cut yX1_cut ∈ wsG := mG (seg2 (List.mem_of_getElem? (i := 177) rfl)) rfl
theorem wmethodLink_RX9_345_yX1_divide : Cond.methodLink RX9 345 yX1_divide ∈ wsG := mG (seg2 (List.mem_of_getElem? (i := 179) rfl)) rfl
theorem wcode_yX1_divide_cX1_divide_5_some_int : Cond.code yX1_divide cX1_divide 5 (some .int) ∈ wsG := mG (seg2 (List.mem_of_getElem? (i := 182) rfl)) rfl
theorem winstanceMethod_yX1_divide : Cond.instanceMethod yX1_divide ∈ wsG := mG (seg2 (List.mem_of_getElem? (i := 180) rfl)) rfl
theorem wselects_RX1_yX1_divide_yX1_divide : Cond.selects RX1 yX1_divide yX1_divide ∈ wsG := mG (seg2 (List.mem_of_getElem? (i := 181) rfl)) rfl
theorem wmethodLink_RX9_348_yX1_appendPulse : Cond.methodLink RX9 348 yX1_appendPulse ∈ wsG := mG (seg2 (List.mem_of_getElem? (i := 183) rfl)) rfl
theorem wcode_yX1_appendPulse_cX1_appendPulse_3_some_int : Cond.code yX1_appendPulse cX1_appendPulse 3 (some .int) ∈ wsG := mG (seg2 (List.mem_of_getElem? (i := 186) rfl)) rfl
theorem winstanceMethod_yX1_appendPulse : Cond.instanceMethod yX1_appendPulse ∈ wsG := mG (seg2 (List.mem_of_getElem? (i := 184) rfl)) rfl
theorem wselects_RX1_yX1_appendPulse_yX1_appendPulse : Cond.selects RX1 yX1_appendPulse yX1_appendPulse ∈ wsG := mG (seg2 (List.mem_of_getElem? (i := 185) rfl)) rfl
theorem wmethodLink_RX9_248_yX9_verdictOn : Cond.methodLink RX9 248 yX9_verdictOn ∈ wsG := mG (seg3 (List.mem_of_getElem? (i := 67) rfl)) rfl
theorem wcode_yX9_verdictOn_cX9_verdictOn_5_some_object_LineEchoes_Verdict : Cond.code yX9_verdictOn cX9_verdictOn 5 (some (.object "LineEchoes$Verdict")) ∈ wsG := mG (seg3 (List.mem_of_getElem? (i := 70) rfl)) rfl
theorem winstanceMethod_yX9_verdictOn : Cond.instanceMethod yX9_verdictOn ∈ wsG := mG (seg3 (List.mem_of_getElem? (i := 69) rfl)) rfl
theorem wselects_RX9_yX9_verdictOn_yX9_verdictOn : Cond.selects RX9 yX9_verdictOn yX9_verdictOn ∈ wsG := mG (seg0 (List.mem_of_getElem? (i := 28) rfl)) rfl
theorem wmethodLink_RX9_294_yX9_refuseUnlessFine : Cond.methodLink RX9 294 yX9_refuseUnlessFine ∈ wsG := mG (seg4 (List.mem_of_getElem? (i := 4) rfl)) rfl
theorem wcode_yX9_refuseUnlessFine_cX9_refuseUnlessFine_1_none : Cond.code yX9_refuseUnlessFine cX9_refuseUnlessFine 1 none ∈ wsG := mG (seg4 (List.mem_of_getElem? (i := 6) rfl)) rfl
theorem wstatic_yX9_refuseUnlessFine : Cond.static yX9_refuseUnlessFine ∈ wsG := mG (seg4 (List.mem_of_getElem? (i := 5) rfl)) rfl
theorem wfieldLink_RX9_19_LineEchoes_history_LLineEchoes_History : Cond.fieldLink RX9 19 "LineEchoes" "history" "LLineEchoes$History;" ∈ wsG := mG (seg1 (List.mem_of_getElem? (i := 221) rfl)) rfl
theorem wmethodLink_RX9_70_yX3_keep : Cond.methodLink RX9 70 yX3_keep ∈ wsG := mG (seg2 (List.mem_of_getElem? (i := 6) rfl)) rfl
theorem wcode_yX3_keep_cX3_keep_2_none : Cond.code yX3_keep cX3_keep 2 none ∈ wsG := mG (seg2 (List.mem_of_getElem? (i := 9) rfl)) rfl
theorem winstanceMethod_yX3_keep : Cond.instanceMethod yX3_keep ∈ wsG := mG (seg2 (List.mem_of_getElem? (i := 7) rfl)) rfl
theorem wselects_RX3_yX3_keep_yX3_keep : Cond.selects RX3 yX3_keep yX3_keep ∈ wsG := mG (seg2 (List.mem_of_getElem? (i := 8) rfl)) rfl
theorem wmethodLink_RX9_298_yX9_changeBench : Cond.methodLink RX9 298 yX9_changeBench ∈ wsG := mG (seg2 (List.mem_of_getElem? (i := 166) rfl)) rfl
theorem wcode_yX9_changeBench_cX9_changeBench_5_some_int : Cond.code yX9_changeBench cX9_changeBench 5 (some .int) ∈ wsG := mG (seg2 (List.mem_of_getElem? (i := 169) rfl)) rfl
theorem winstanceMethod_yX9_changeBench : Cond.instanceMethod yX9_changeBench ∈ wsG := mG (seg2 (List.mem_of_getElem? (i := 168) rfl)) rfl
theorem wselects_RX9_yX9_changeBench_yX9_changeBench : Cond.selects RX9 yX9_changeBench yX9_changeBench ∈ wsG := mG (seg0 (List.mem_of_getElem? (i := 20) rfl)) rfl
theorem wfieldLink_RX9_51_LineEchoes_Command_PART_LLineEchoes_Command : Cond.fieldLink RX9 51 "LineEchoes$Command" "PART" "LLineEchoes$Command;" ∈ wsG := mG (seg3 (List.mem_of_getElem? (i := 239) rfl)) rfl
theorem wmethodLink_RX9_57_yX9_change : Cond.methodLink RX9 57 yX9_change ∈ wsG := mG (seg4 (List.mem_of_getElem? (i := 0) rfl)) rfl
theorem wcode_yX9_change_cX9_change_5_some_int : Cond.code yX9_change cX9_change 5 (some .int) ∈ wsG := mG (seg4 (List.mem_of_getElem? (i := 3) rfl)) rfl
theorem winstanceMethod_yX9_change : Cond.instanceMethod yX9_change ∈ wsG := mG (seg4 (List.mem_of_getElem? (i := 2) rfl)) rfl
theorem wselects_RX9_yX9_change_yX9_change : Cond.selects RX9 yX9_change yX9_change ∈ wsG := mG (seg0 (List.mem_of_getElem? (i := 31) rfl)) rfl
theorem wfieldLink_RX9_61_LineEchoes_Command_SET_LLineEchoes_Command : Cond.fieldLink RX9 61 "LineEchoes$Command" "SET" "LLineEchoes$Command;" ∈ wsG := mG (seg4 (List.mem_of_getElem? (i := 50) rfl)) rfl
theorem wfieldLink_RX9_64_LineEchoes_Command_CUT_LLineEchoes_Command : Cond.fieldLink RX9 64 "LineEchoes$Command" "CUT" "LLineEchoes$Command;" ∈ wsG := mG (seg4 (List.mem_of_getElem? (i := 59) rfl)) rfl
theorem wfieldLink_RX9_67_LineEchoes_Command_SPLIT_LLineEchoes_Command : Cond.fieldLink RX9 67 "LineEchoes$Command" "SPLIT" "LLineEchoes$Command;" ∈ wsG := mG (seg4 (List.mem_of_getElem? (i := 68) rfl)) rfl
theorem wmethodLink_RX9_81_yX1_turnRound : Cond.methodLink RX9 81 yX1_turnRound ∈ wsG := mG (seg2 (List.mem_of_getElem? (i := 38) rfl)) rfl
theorem wcode_yX1_turnRound_cX1_turnRound_1_none : Cond.code yX1_turnRound cX1_turnRound 1 none ∈ wsG := mG (seg2 (List.mem_of_getElem? (i := 41) rfl)) rfl
theorem winstanceMethod_yX1_turnRound : Cond.instanceMethod yX1_turnRound ∈ wsG := mG (seg2 (List.mem_of_getElem? (i := 39) rfl)) rfl
theorem wselects_RX1_yX1_turnRound_yX1_turnRound : Cond.selects RX1 yX1_turnRound yX1_turnRound ∈ wsG := mG (seg2 (List.mem_of_getElem? (i := 40) rfl)) rfl
theorem wfieldLink_RX9_86_LineEchoes_Bench_count_I : Cond.fieldLink RX9 86 "LineEchoes$Bench" "count" "I" ∈ wsG := mG (seg1 (List.mem_of_getElem? (i := 50) rfl)) rfl
theorem wmethodLink_RX9_90_yX1_reach : Cond.methodLink RX9 90 yX1_reach ∈ wsG := mG (seg2 (List.mem_of_getElem? (i := 45) rfl)) rfl
theorem wmethodLink_RX9_384_yX9_isWithin : Cond.methodLink RX9 384 yX9_isWithin ∈ wsG := mG (seg3 (List.mem_of_getElem? (i := 128) rfl)) rfl
theorem wconstantLong_RX9_94_999 : Cond.constantLong RX9 94 (999) ∈ wsG := mG (seg4 (List.mem_of_getElem? (i := 77) rfl)) rfl
theorem wmethodLink_RX9_96_yX9_requireRange : Cond.methodLink RX9 96 yX9_requireRange ∈ wsG := mG (seg3 (List.mem_of_getElem? (i := 125) rfl)) rfl
theorem wcode_yX9_requireRange_cX9_requireRange_6_none : Cond.code yX9_requireRange cX9_requireRange 6 none ∈ wsG := mG (seg3 (List.mem_of_getElem? (i := 127) rfl)) rfl
theorem wstatic_yX9_requireRange : Cond.static yX9_requireRange ∈ wsG := mG (seg3 (List.mem_of_getElem? (i := 126) rfl)) rfl
theorem wconstantLong_RX9_102_200 : Cond.constantLong RX9 102 (200) ∈ wsG := mG (seg4 (List.mem_of_getElem? (i := 78) rfl)) rfl
theorem wfieldLink_RX9_104_LineEchoes_Bench_window_I : Cond.fieldLink RX9 104 "LineEchoes$Bench" "window" "I" ∈ wsG := mG (seg1 (List.mem_of_getElem? (i := 70) rfl)) rfl
theorem wfieldLink_RX9_107_LineEchoes_Bench_front_I : Cond.fieldLink RX9 107 "LineEchoes$Bench" "front" "I" ∈ wsG := mG (seg1 (List.mem_of_getElem? (i := 61) rfl)) rfl
theorem wfieldLink_RX9_110_LineEchoes_Bench_least_I : Cond.fieldLink RX9 110 "LineEchoes$Bench" "least" "I" ∈ wsG := mG (seg1 (List.mem_of_getElem? (i := 64) rfl)) rfl
theorem wfieldLink_RX9_113_LineEchoes_Command_PULSE_LLineEchoes_Command : Cond.fieldLink RX9 113 "LineEchoes$Command" "PULSE" "LLineEchoes$Command;" ∈ wsG := mG (seg4 (List.mem_of_getElem? (i := 86) rfl)) rfl
theorem wfieldLink_RX9_116_LineEchoes_Bench_pulses_I : Cond.fieldLink RX9 116 "LineEchoes$Bench" "pulses" "I" ∈ wsG := mG (seg1 (List.mem_of_getElem? (i := 74) rfl)) rfl
theorem wmethodLink_RX9_119_yX9_requireNumber : Cond.methodLink RX9 119 yX9_requireNumber ∈ wsG := mG (seg4 (List.mem_of_getElem? (i := 95) rfl)) rfl
theorem wcode_yX9_requireNumber_cX9_requireNumber_2_none : Cond.code yX9_requireNumber cX9_requireNumber 2 none ∈ wsG := mG (seg4 (List.mem_of_getElem? (i := 97) rfl)) rfl
theorem wstatic_yX9_requireNumber : Cond.static yX9_requireNumber ∈ wsG := mG (seg4 (List.mem_of_getElem? (i := 96) rfl)) rfl
theorem wmethodLink_RX9_130_yX1_cutPulse : Cond.methodLink RX9 130 yX1_cutPulse ∈ wsG := mG (seg4 (List.mem_of_getElem? (i := 99) rfl)) rfl
theorem wcode_yX1_cutPulse_cX1_cutPulse_3_some_int : Cond.code yX1_cutPulse cX1_cutPulse 3 (some .int) ∈ wsG := mG (seg4 (List.mem_of_getElem? (i := 102) rfl)) rfl
theorem winstanceMethod_yX1_cutPulse : Cond.instanceMethod yX1_cutPulse ∈ wsG := mG (seg4 (List.mem_of_getElem? (i := 100) rfl)) rfl
theorem wselects_RX1_yX1_cutPulse_yX1_cutPulse : Cond.selects RX1 yX1_cutPulse yX1_cutPulse ∈ wsG := mG (seg4 (List.mem_of_getElem? (i := 101) rfl)) rfl
theorem wconstantLong_RX9_133_2 : Cond.constantLong RX9 133 (2) ∈ wsG := mG (seg4 (List.mem_of_getElem? (i := 110) rfl)) rfl
theorem wfieldLink_RX9_135_LineEchoes_Bench_lengths_I : Cond.fieldLink RX9 135 "LineEchoes$Bench" "lengths" "[I" ∈ wsG := mG (seg1 (List.mem_of_getElem? (i := 54) rfl)) rfl
theorem wfieldLink_RX9_139_LineEchoes_Bench_fractions_I : Cond.fieldLink RX9 139 "LineEchoes$Bench" "fractions" "[I" ∈ wsG := mG (seg1 (List.mem_of_getElem? (i := 58) rfl)) rfl
theorem wconstantLong_RX9_142_5 : Cond.constantLong RX9 142 (5) ∈ wsG := mG (seg3 (List.mem_of_getElem? (i := 124) rfl)) rfl
theorem wfieldLink_RX9_33_LineEchoes_wave_LLineEchoes_Wave : Cond.fieldLink RX9 33 "LineEchoes" "wave" "LLineEchoes$Wave;" ∈ wsG := mG (seg1 (List.mem_of_getElem? (i := 223) rfl)) rfl
theorem wmethodLink_RX9_357_yX8_spread : Cond.methodLink RX9 357 yX8_spread ∈ wsG := mG (seg2 (List.mem_of_getElem? (i := 75) rfl)) rfl
theorem wmethodLink_RX9_144_yX9_presentWave : Cond.methodLink RX9 144 yX9_presentWave ∈ wsG := mG (seg2 (List.mem_of_getElem? (i := 71) rfl)) rfl
theorem wcode_yX9_presentWave_cX9_presentWave_1_some_object_LineEchoes_Wave : Cond.code yX9_presentWave cX9_presentWave 1 (some (.object "LineEchoes$Wave")) ∈ wsG := mG (seg2 (List.mem_of_getElem? (i := 74) rfl)) rfl
theorem winstanceMethod_yX9_presentWave : Cond.instanceMethod yX9_presentWave ∈ wsG := mG (seg2 (List.mem_of_getElem? (i := 73) rfl)) rfl
theorem wselects_RX9_yX9_presentWave_yX9_presentWave : Cond.selects RX9 yX9_presentWave yX9_presentWave ∈ wsG := mG (seg0 (List.mem_of_getElem? (i := 4) rfl)) rfl
theorem wfieldLink_RX9_148_LineEchoes_Wave_echoes_J : Cond.fieldLink RX9 148 "LineEchoes$Wave" "echoes" "[J" ∈ wsG := mG (seg1 (List.mem_of_getElem? (i := 182) rfl)) rfl
theorem wmethodLink_RX9_152_yX9_requireNotNegative : Cond.methodLink RX9 152 yX9_requireNotNegative ∈ wsG := mG (seg4 (List.mem_of_getElem? (i := 126) rfl)) rfl
theorem wcode_yX9_requireNotNegative_cX9_requireNotNegative_1_none : Cond.code yX9_requireNotNegative cX9_requireNotNegative 1 none ∈ wsG := mG (seg4 (List.mem_of_getElem? (i := 128) rfl)) rfl
theorem wstatic_yX9_requireNotNegative : Cond.static yX9_requireNotNegative ∈ wsG := mG (seg4 (List.mem_of_getElem? (i := 127) rfl)) rfl
theorem wconstantLong_RX9_156_8 : Cond.constantLong RX9 156 (8) ∈ wsG := mG (seg3 (List.mem_of_getElem? (i := 203) rfl)) rfl
theorem wfieldLink_RX9_158_LineEchoes_Wave_totals_J : Cond.fieldLink RX9 158 "LineEchoes$Wave" "totals" "[J" ∈ wsG := mG (seg1 (List.mem_of_getElem? (i := 184) rfl)) rfl
theorem wfieldLink_RX9_165_LineEchoes_Wave_fromNear_J : Cond.fieldLink RX9 165 "LineEchoes$Wave" "fromNear" "[[J" ∈ wsG := mG (seg1 (List.mem_of_getElem? (i := 177) rfl)) rfl
theorem wfieldLink_RX9_161_LineEchoes_Wave_fromFar_J : Cond.fieldLink RX9 161 "LineEchoes$Wave" "fromFar" "[[J" ∈ wsG := mG (seg1 (List.mem_of_getElem? (i := 179) rfl)) rfl
theorem wconstantLong_RX9_390_10 : Cond.constantLong RX9 390 (10) ∈ wsG := mG (seg4 (List.mem_of_getElem? (i := 151) rfl)) rfl
theorem wmethodLink_RX9_168_yX9_digitCount : Cond.methodLink RX9 168 yX9_digitCount ∈ wsG := mG (seg4 (List.mem_of_getElem? (i := 148) rfl)) rfl
theorem wcode_yX9_digitCount_cX9_digitCount_5_some_int : Cond.code yX9_digitCount cX9_digitCount 5 (some .int) ∈ wsG := mG (seg4 (List.mem_of_getElem? (i := 150) rfl)) rfl
theorem wstatic_yX9_digitCount : Cond.static yX9_digitCount ∈ wsG := mG (seg4 (List.mem_of_getElem? (i := 149) rfl)) rfl
theorem wmethodLink_RX9_392_yX9_digitByte : Cond.methodLink RX9 392 yX9_digitByte ∈ wsG := mG (seg4 (List.mem_of_getElem? (i := 155) rfl)) rfl
theorem wcode_yX9_digitByte_cX9_digitByte_6_some_int : Cond.code yX9_digitByte cX9_digitByte 6 (some .int) ∈ wsG := mG (seg4 (List.mem_of_getElem? (i := 157) rfl)) rfl
theorem wstatic_yX9_digitByte : Cond.static yX9_digitByte ∈ wsG := mG (seg4 (List.mem_of_getElem? (i := 156) rfl)) rfl
theorem wmethodLink_RX9_172_yX9_entryByte : Cond.methodLink RX9 172 yX9_entryByte ∈ wsG := mG (seg4 (List.mem_of_getElem? (i := 152) rfl)) rfl
theorem wcode_yX9_entryByte_cX9_entryByte_6_some_int : Cond.code yX9_entryByte cX9_entryByte 6 (some .int) ∈ wsG := mG (seg4 (List.mem_of_getElem? (i := 154) rfl)) rfl
theorem wstatic_yX9_entryByte : Cond.static yX9_entryByte ∈ wsG := mG (seg4 (List.mem_of_getElem? (i := 153) rfl)) rfl
theorem wfieldLink_RX9_40_LineEchoes_peeling_LLineEchoes_Peeling : Cond.fieldLink RX9 40 "LineEchoes" "peeling" "LLineEchoes$Peeling;" ∈ wsG := mG (seg1 (List.mem_of_getElem? (i := 224) rfl)) rfl
theorem wmethodLink_RX9_360_yX4_findLine : Cond.methodLink RX9 360 yX4_findLine ∈ wsG := mG (seg2 (List.mem_of_getElem? (i := 122) rfl)) rfl
theorem wcode_yX4_findLine_cX4_findLine_6_none : Cond.code yX4_findLine cX4_findLine 6 none ∈ wsG := mG (seg2 (List.mem_of_getElem? (i := 125) rfl)) rfl
theorem winstanceMethod_yX4_findLine : Cond.instanceMethod yX4_findLine ∈ wsG := mG (seg2 (List.mem_of_getElem? (i := 123) rfl)) rfl
theorem wselects_RX4_yX4_findLine_yX4_findLine : Cond.selects RX4 yX4_findLine yX4_findLine ∈ wsG := mG (seg2 (List.mem_of_getElem? (i := 124) rfl)) rfl
theorem wmethodLink_RX9_351_arraycopyName : Cond.methodLink RX9 351 arraycopyName ∈ wsG := mG (seg2 (List.mem_of_getElem? (i := 117) rfl)) rfl
theorem wfieldLink_RX9_182_LineEchoes_State_sound_J : Cond.fieldLink RX9 182 "LineEchoes$State" "sound" "[J" ∈ wsG := mG (seg1 (List.mem_of_getElem? (i := 107) rfl)) rfl
theorem wmethodLink_RX9_327_yX9_copyEchoes : Cond.methodLink RX9 327 yX9_copyEchoes ∈ wsG := mG (seg2 (List.mem_of_getElem? (i := 67) rfl)) rfl
theorem wcode_yX9_copyEchoes_cX9_copyEchoes_3_some_int : Cond.code yX9_copyEchoes cX9_copyEchoes 3 (some .int) ∈ wsG := mG (seg2 (List.mem_of_getElem? (i := 70) rfl)) rfl
theorem winstanceMethod_yX9_copyEchoes : Cond.instanceMethod yX9_copyEchoes ∈ wsG := mG (seg2 (List.mem_of_getElem? (i := 69) rfl)) rfl
theorem wselects_RX9_yX9_copyEchoes_yX9_copyEchoes : Cond.selects RX9 yX9_copyEchoes yX9_copyEchoes ∈ wsG := mG (seg0 (List.mem_of_getElem? (i := 3) rfl)) rfl
theorem wfieldLink_RX9_203_LineEchoes_State_seen_J : Cond.fieldLink RX9 203 "LineEchoes$State" "seen" "[J" ∈ wsG := mG (seg1 (List.mem_of_getElem? (i := 110) rfl)) rfl
theorem wmethodLink_RX9_206_yX9_presentPeeling : Cond.methodLink RX9 206 yX9_presentPeeling ∈ wsG := mG (seg2 (List.mem_of_getElem? (i := 118) rfl)) rfl
theorem wcode_yX9_presentPeeling_cX9_presentPeeling_1_some_object_LineEchoes_Peeling : Cond.code yX9_presentPeeling cX9_presentPeeling 1 (some (.object "LineEchoes$Peeling")) ∈ wsG := mG (seg2 (List.mem_of_getElem? (i := 121) rfl)) rfl
theorem winstanceMethod_yX9_presentPeeling : Cond.instanceMethod yX9_presentPeeling ∈ wsG := mG (seg2 (List.mem_of_getElem? (i := 120) rfl)) rfl
theorem wselects_RX9_yX9_presentPeeling_yX9_presentPeeling : Cond.selects RX9 yX9_presentPeeling yX9_presentPeeling ∈ wsG := mG (seg0 (List.mem_of_getElem? (i := 12) rfl)) rfl
theorem wfieldLink_RX9_216_LineEchoes_Peeling_line_LLineEchoes_Bench : Cond.fieldLink RX9 216 "LineEchoes$Peeling" "line" "LLineEchoes$Bench;" ∈ wsG := mG (seg1 (List.mem_of_getElem? (i := 205) rfl)) rfl
theorem wmethodLink_RX9_331_yX1_takeLine : Cond.methodLink RX9 331 yX1_takeLine ∈ wsG := mG (seg2 (List.mem_of_getElem? (i := 165) rfl)) rfl
theorem wfieldLink_RX9_176_LineEchoes_Command_SOUND_LLineEchoes_Command : Cond.fieldLink RX9 176 "LineEchoes$Command" "SOUND" "LLineEchoes$Command;" ∈ wsG := mG (seg2 (List.mem_of_getElem? (i := 53) rfl)) rfl
theorem wmethodLink_RX9_179_yX9_carryOut : Cond.methodLink RX9 179 yX9_carryOut ∈ wsG := mG (seg2 (List.mem_of_getElem? (i := 55) rfl)) rfl
theorem wcode_yX9_carryOut_cX9_carryOut_6_some_int : Cond.code yX9_carryOut cX9_carryOut 6 (some .int) ∈ wsG := mG (seg2 (List.mem_of_getElem? (i := 58) rfl)) rfl
theorem winstanceMethod_yX9_carryOut : Cond.instanceMethod yX9_carryOut ∈ wsG := mG (seg2 (List.mem_of_getElem? (i := 57) rfl)) rfl
theorem wselects_RX9_yX9_carryOut_yX9_carryOut : Cond.selects RX9 yX9_carryOut yX9_carryOut ∈ wsG := mG (seg0 (List.mem_of_getElem? (i := 2) rfl)) rfl
theorem wconstantLong_RX9_185_3 : Cond.constantLong RX9 185 (3) ∈ wsG := mG (seg3 (List.mem_of_getElem? (i := 213) rfl)) rfl
theorem wmethodLink_RX9_187_yX9_firstUnequal : Cond.methodLink RX9 187 yX9_firstUnequal ∈ wsG := mG (seg3 (List.mem_of_getElem? (i := 214) rfl)) rfl
theorem wmethodLink_RX9_191_yX1_earliestPulse : Cond.methodLink RX9 191 yX1_earliestPulse ∈ wsG := mG (seg3 (List.mem_of_getElem? (i := 215) rfl)) rfl
theorem wcode_yX1_earliestPulse_cX1_earliestPulse_3_some_int : Cond.code yX1_earliestPulse cX1_earliestPulse 3 (some .int) ∈ wsG := mG (seg3 (List.mem_of_getElem? (i := 218) rfl)) rfl
theorem winstanceMethod_yX1_earliestPulse : Cond.instanceMethod yX1_earliestPulse ∈ wsG := mG (seg3 (List.mem_of_getElem? (i := 216) rfl)) rfl
theorem wselects_RX1_yX1_earliestPulse_yX1_earliestPulse : Cond.selects RX1 yX1_earliestPulse yX1_earliestPulse ∈ wsG := mG (seg3 (List.mem_of_getElem? (i := 217) rfl)) rfl
theorem wmethodLink_RX9_195_yX1_partAtWayAndBack : Cond.methodLink RX9 195 yX1_partAtWayAndBack ∈ wsG := mG (seg3 (List.mem_of_getElem? (i := 222) rfl)) rfl
theorem wcode_yX1_partAtWayAndBack_cX1_partAtWayAndBack_5_some_int : Cond.code yX1_partAtWayAndBack cX1_partAtWayAndBack 5 (some .int) ∈ wsG := mG (seg3 (List.mem_of_getElem? (i := 225) rfl)) rfl
theorem winstanceMethod_yX1_partAtWayAndBack : Cond.instanceMethod yX1_partAtWayAndBack ∈ wsG := mG (seg3 (List.mem_of_getElem? (i := 223) rfl)) rfl
theorem wselects_RX1_yX1_partAtWayAndBack_yX1_partAtWayAndBack : Cond.selects RX1 yX1_partAtWayAndBack yX1_partAtWayAndBack ∈ wsG := mG (seg3 (List.mem_of_getElem? (i := 224) rfl)) rfl
theorem wfieldLink_RX9_198_LineEchoes_Command_LOOK_LLineEchoes_Command : Cond.fieldLink RX9 198 "LineEchoes$Command" "LOOK" "LLineEchoes$Command;" ∈ wsG := mG (seg2 (List.mem_of_getElem? (i := 195) rfl)) rfl
theorem wconstantLong_RX9_201_4000000 : Cond.constantLong RX9 201 (4000000) ∈ wsG := mG (seg4 (List.mem_of_getElem? (i := 169) rfl)) rfl
theorem wfieldLink_RX9_210_LineEchoes_Peeling_result_I : Cond.fieldLink RX9 210 "LineEchoes$Peeling" "result" "I" ∈ wsG := mG (seg1 (List.mem_of_getElem? (i := 207) rfl)) rfl
theorem wfieldLink_RX9_213_LineEchoes_Peeling_endTime_I : Cond.fieldLink RX9 213 "LineEchoes$Peeling" "endTime" "I" ∈ wsG := mG (seg1 (List.mem_of_getElem? (i := 209) rfl)) rfl
theorem wfieldLink_RX9_219_LineEchoes_Command_ADOPT_LLineEchoes_Command : Cond.fieldLink RX9 219 "LineEchoes$Command" "ADOPT" "LLineEchoes$Command;" ∈ wsG := mG (seg2 (List.mem_of_getElem? (i := 201) rfl)) rfl
theorem wfieldLink_RX9_26_LineEchoes_script_LLineEchoes_Script : Cond.fieldLink RX9 26 "LineEchoes" "script" "LLineEchoes$Script;" ∈ wsG := mG (seg1 (List.mem_of_getElem? (i := 222) rfl)) rfl
theorem wfieldLink_RX9_224_LineEchoes_Script_length_I : Cond.fieldLink RX9 224 "LineEchoes$Script" "length" "I" ∈ wsG := mG (seg1 (List.mem_of_getElem? (i := 146) rfl)) rfl
theorem wfieldLink_RX9_258_LineEchoes_History_count_I : Cond.fieldLink RX9 258 "LineEchoes$History" "count" "I" ∈ wsG := mG (seg1 (List.mem_of_getElem? (i := 130) rfl)) rfl
theorem wmethodLink_RX9_261_yX3_restoreLatest : Cond.methodLink RX9 261 yX3_restoreLatest ∈ wsG := mG (seg4 (List.mem_of_getElem? (i := 209) rfl)) rfl
theorem wcode_yX3_restoreLatest_cX3_restoreLatest_2_none : Cond.code yX3_restoreLatest cX3_restoreLatest 2 none ∈ wsG := mG (seg4 (List.mem_of_getElem? (i := 212) rfl)) rfl
theorem winstanceMethod_yX3_restoreLatest : Cond.instanceMethod yX3_restoreLatest ∈ wsG := mG (seg4 (List.mem_of_getElem? (i := 210) rfl)) rfl
theorem wselects_RX3_yX3_restoreLatest_yX3_restoreLatest : Cond.selects RX3 yX3_restoreLatest yX3_restoreLatest ∈ wsG := mG (seg4 (List.mem_of_getElem? (i := 211) rfl)) rfl
theorem wconstantLong_RX9_396_31 : Cond.constantLong RX9 396 (31) ∈ wsG := mG (seg3 (List.mem_of_getElem? (i := 115) rfl)) rfl
theorem wmethodLink_RX9_266_yX9_mixed : Cond.methodLink RX9 266 yX9_mixed ∈ wsG := mG (seg3 (List.mem_of_getElem? (i := 112) rfl)) rfl
theorem wcode_yX9_mixed_cX9_mixed_4_some_long : Cond.code yX9_mixed cX9_mixed 4 (some .long) ∈ wsG := mG (seg3 (List.mem_of_getElem? (i := 114) rfl)) rfl
theorem wstatic_yX9_mixed : Cond.static yX9_mixed ∈ wsG := mG (seg3 (List.mem_of_getElem? (i := 113) rfl)) rfl
theorem wmethodLink_RX9_398_yX9_bench : Cond.methodLink RX9 398 yX9_bench ∈ wsG := mG (seg3 (List.mem_of_getElem? (i := 120) rfl)) rfl
theorem wcode_yX9_bench_cX9_bench_2_some_int : Cond.code yX9_bench cX9_bench 2 (some .int) ∈ wsG := mG (seg3 (List.mem_of_getElem? (i := 123) rfl)) rfl
theorem winstanceMethod_yX9_bench : Cond.instanceMethod yX9_bench ∈ wsG := mG (seg3 (List.mem_of_getElem? (i := 121) rfl)) rfl
theorem wselects_RX9_yX9_bench_yX9_bench : Cond.selects RX9 yX9_bench yX9_bench ∈ wsG := mG (seg3 (List.mem_of_getElem? (i := 122) rfl)) rfl
theorem wfieldLink_RX9_400_LineEchoes_Bench_pulseTimes_I : Cond.fieldLink RX9 400 "LineEchoes$Bench" "pulseTimes" "[I" ∈ wsG := mG (seg1 (List.mem_of_getElem? (i := 78) rfl)) rfl
theorem wfieldLink_RX9_403_LineEchoes_Bench_pulseEnergies_I : Cond.fieldLink RX9 403 "LineEchoes$Bench" "pulseEnergies" "[I" ∈ wsG := mG (seg1 (List.mem_of_getElem? (i := 82) rfl)) rfl
theorem wmethodLink_RX9_290_yX9_mixedWithParts : Cond.methodLink RX9 290 yX9_mixedWithParts ∈ wsG := mG (seg3 (List.mem_of_getElem? (i := 196) rfl)) rfl
theorem wcode_yX9_mixedWithParts_cX9_mixedWithParts_6_some_long : Cond.code yX9_mixedWithParts cX9_mixedWithParts 6 (some .long) ∈ wsG := mG (seg3 (List.mem_of_getElem? (i := 198) rfl)) rfl
theorem wstatic_yX9_mixedWithParts : Cond.static yX9_mixedWithParts ∈ wsG := mG (seg3 (List.mem_of_getElem? (i := 197) rfl)) rfl
theorem wmethodLink_RX9_274_yX9_total : Cond.methodLink RX9 274 yX9_total ∈ wsG := mG (seg3 (List.mem_of_getElem? (i := 199) rfl)) rfl
theorem wcode_yX9_total_cX9_total_2_some_long : Cond.code yX9_total cX9_total 2 (some .long) ∈ wsG := mG (seg3 (List.mem_of_getElem? (i := 202) rfl)) rfl
theorem winstanceMethod_yX9_total : Cond.instanceMethod yX9_total ∈ wsG := mG (seg3 (List.mem_of_getElem? (i := 200) rfl)) rfl
theorem wselects_RX9_yX9_total_yX9_total : Cond.selects RX9 yX9_total yX9_total ∈ wsG := mG (seg3 (List.mem_of_getElem? (i := 201) rfl)) rfl
theorem wmethodLink_RX9_284_yX9_fault : Cond.methodLink RX9 284 yX9_fault ∈ wsG := mG (seg3 (List.mem_of_getElem? (i := 209) rfl)) rfl
theorem wcode_yX9_fault_cX9_fault_5_some_int : Cond.code yX9_fault cX9_fault 5 (some .int) ∈ wsG := mG (seg3 (List.mem_of_getElem? (i := 212) rfl)) rfl
theorem winstanceMethod_yX9_fault : Cond.instanceMethod yX9_fault ∈ wsG := mG (seg3 (List.mem_of_getElem? (i := 210) rfl)) rfl
theorem wselects_RX9_yX9_fault_yX9_fault : Cond.selects RX9 yX9_fault yX9_fault ∈ wsG := mG (seg3 (List.mem_of_getElem? (i := 211) rfl)) rfl
theorem wmethodLink_RX9_287_yX9_peel : Cond.methodLink RX9 287 yX9_peel ∈ wsG := mG (seg3 (List.mem_of_getElem? (i := 226) rfl)) rfl
theorem wcode_yX9_peel_cX9_peel_3_some_int : Cond.code yX9_peel cX9_peel 3 (some .int) ∈ wsG := mG (seg3 (List.mem_of_getElem? (i := 229) rfl)) rfl
theorem winstanceMethod_yX9_peel : Cond.instanceMethod yX9_peel ∈ wsG := mG (seg3 (List.mem_of_getElem? (i := 227) rfl)) rfl
theorem wselects_RX9_yX9_peel_yX9_peel : Cond.selects RX9 yX9_peel yX9_peel ∈ wsG := mG (seg3 (List.mem_of_getElem? (i := 228) rfl)) rfl
theorem wmethodLink_RX9_278_yX9_echo : Cond.methodLink RX9 278 yX9_echo ∈ wsG := mG (seg3 (List.mem_of_getElem? (i := 204) rfl)) rfl
theorem wcode_yX9_echo_cX9_echo_2_some_long : Cond.code yX9_echo cX9_echo 2 (some .long) ∈ wsG := mG (seg3 (List.mem_of_getElem? (i := 207) rfl)) rfl
theorem winstanceMethod_yX9_echo : Cond.instanceMethod yX9_echo ∈ wsG := mG (seg3 (List.mem_of_getElem? (i := 205) rfl)) rfl
theorem wselects_RX9_yX9_echo_yX9_echo : Cond.selects RX9 yX9_echo yX9_echo ∈ wsG := mG (seg3 (List.mem_of_getElem? (i := 206) rfl)) rfl
theorem wconstantLong_RX9_264_11908 : Cond.constantLong RX9 264 (11908) ∈ wsG := mG (seg3 (List.mem_of_getElem? (i := 111) rfl)) rfl
theorem wmethodLink_RX9_270_yX9_mixedWithBench : Cond.methodLink RX9 270 yX9_mixedWithBench ∈ wsG := mG (seg3 (List.mem_of_getElem? (i := 116) rfl)) rfl
theorem wcode_yX9_mixedWithBench_cX9_mixedWithBench_6_some_long : Cond.code yX9_mixedWithBench cX9_mixedWithBench 6 (some .long) ∈ wsG := mG (seg3 (List.mem_of_getElem? (i := 119) rfl)) rfl
theorem winstanceMethod_yX9_mixedWithBench : Cond.instanceMethod yX9_mixedWithBench ∈ wsG := mG (seg3 (List.mem_of_getElem? (i := 118) rfl)) rfl
theorem wselects_RX9_yX9_mixedWithBench_yX9_mixedWithBench : Cond.selects RX9 yX9_mixedWithBench yX9_mixedWithBench ∈ wsG := mG (seg0 (List.mem_of_getElem? (i := 29) rfl)) rfl
theorem wmethodLink_RX9_281_yX9_differences : Cond.methodLink RX9 281 yX9_differences ∈ wsG := mG (seg3 (List.mem_of_getElem? (i := 208) rfl)) rfl
theorem wcode_yX9_differences_cX9_differences_4_some_int : Cond.code yX9_differences cX9_differences 4 (some .int) ∈ wsG := mG (seg2 (List.mem_of_getElem? (i := 190) rfl)) rfl
theorem winstanceMethod_yX9_differences : Cond.instanceMethod yX9_differences ∈ wsG := mG (seg2 (List.mem_of_getElem? (i := 188) rfl)) rfl
theorem wselects_RX9_yX9_differences_yX9_differences : Cond.selects RX9 yX9_differences yX9_differences ∈ wsG := mG (seg2 (List.mem_of_getElem? (i := 189) rfl)) rfl
theorem wfieldLink_RX5_15_LineEchoes_Script_length_I : Cond.fieldLink RX5 15 "LineEchoes$Script" "length" "I" ∈ wsG := mG (seg1 (List.mem_of_getElem? (i := 145) rfl)) rfl
theorem wfieldLink_RX5_9_LineEchoes_Script_bytes_B : Cond.fieldLink RX5 9 "LineEchoes$Script" "bytes" "[B" ∈ wsG := mG (seg1 (List.mem_of_getElem? (i := 144) rfl)) rfl
theorem wconstantLong_RX9_222_127 : Cond.constantLong RX9 222 (127) ∈ wsG := mG (seg4 (List.mem_of_getElem? (i := 195) rfl)) rfl
theorem wmethodLink_RX9_229_yX5_append : Cond.methodLink RX9 229 yX5_append ∈ wsG := mG (seg4 (List.mem_of_getElem? (i := 197) rfl)) rfl
theorem wcode_yX5_append_cX5_append_2_none : Cond.code yX5_append cX5_append 2 none ∈ wsG := mG (seg4 (List.mem_of_getElem? (i := 200) rfl)) rfl
theorem winitialized_RX5 : Cond.initialized RX5 ∈ wsG := mG (seg1 (List.mem_of_getElem? (i := 5) rfl)) rfl
theorem winstanceMethod_yX5_append : Cond.instanceMethod yX5_append ∈ wsG := mG (seg4 (List.mem_of_getElem? (i := 198) rfl)) rfl
theorem wselects_RX5_yX5_append_yX5_append : Cond.selects RX5 yX5_append yX5_append ∈ wsG := mG (seg4 (List.mem_of_getElem? (i := 199) rfl)) rfl
theorem wfieldLink_RX5_32_LineEchoes_Script_position_I : Cond.fieldLink RX5 32 "LineEchoes$Script" "position" "I" ∈ wsG := mG (seg1 (List.mem_of_getElem? (i := 151) rfl)) rfl
theorem wfieldLink_RX5_35_LineEchoes_Script_fault_I : Cond.fieldLink RX5 35 "LineEchoes$Script" "fault" "I" ∈ wsG := mG (seg1 (List.mem_of_getElem? (i := 152) rfl)) rfl
theorem wmethodLink_RX5_62_yX5_byteHere : Cond.methodLink RX5 62 yX5_byteHere ∈ wsG := mG (seg2 (List.mem_of_getElem? (i := 227) rfl)) rfl
theorem wcode_yX5_byteHere_cX5_byteHere_1_some_int : Cond.code yX5_byteHere cX5_byteHere 1 (some .int) ∈ wsG := mG (seg2 (List.mem_of_getElem? (i := 230) rfl)) rfl
theorem winstanceMethod_yX5_byteHere : Cond.instanceMethod yX5_byteHere ∈ wsG := mG (seg2 (List.mem_of_getElem? (i := 229) rfl)) rfl
theorem wselects_RX5_yX5_byteHere_yX5_byteHere : Cond.selects RX5 yX5_byteHere yX5_byteHere ∈ wsG := mG (seg0 (List.mem_of_getElem? (i := 22) rfl)) rfl
theorem wfieldLink_RX2_47_LineEchoes_Command_word_Ljava_lang_String : Cond.fieldLink RX2 47 "LineEchoes$Command" "word" "Ljava/lang/String;" ∈ wsG := mG (seg6 (List.mem_of_getElem? (i := 182) rfl)) rfl
theorem wmethodLink_RX2_62_yJ0_length_8abf5 : Cond.methodLink RX2 62 yJ0_length_8abf5 ∈ wsG := mG (seg3 (List.mem_of_getElem? (i := 5) rfl)) rfl
theorem wmethodLink_RX2_68_yJ0_charAt_5068e : Cond.methodLink RX2 68 yJ0_charAt_5068e ∈ wsG := mG (seg3 (List.mem_of_getElem? (i := 15) rfl)) rfl
theorem wfieldLink_RX2_55_LineEchoes_Command_ALL_LLineEchoes_Command : Cond.fieldLink RX2 55 "LineEchoes$Command" "ALL" "[LLineEchoes$Command;" ∈ wsG := mG (seg2 (List.mem_of_getElem? (i := 238) rfl)) rfl
theorem wmethodLink_RX2_58_yX2_isSpelled : Cond.methodLink RX2 58 yX2_isSpelled ∈ wsG := mG (seg3 (List.mem_of_getElem? (i := 0) rfl)) rfl
theorem wcode_yX2_isSpelled_cX2_isSpelled_5_some_boolean : Cond.code yX2_isSpelled cX2_isSpelled 5 (some .boolean) ∈ wsG := mG (seg3 (List.mem_of_getElem? (i := 4) rfl)) rfl
theorem winitialized_RX2 : Cond.initialized RX2 ∈ wsG := mG (seg1 (List.mem_of_getElem? (i := 7) rfl)) rfl
theorem winstanceMethod_yX2_isSpelled : Cond.instanceMethod yX2_isSpelled ∈ wsG := mG (seg3 (List.mem_of_getElem? (i := 2) rfl)) rfl
theorem wselects_RX2_yX2_isSpelled_yX2_isSpelled : Cond.selects RX2 yX2_isSpelled yX2_isSpelled ∈ wsG := mG (seg0 (List.mem_of_getElem? (i := 24) rfl)) rfl
theorem wmethodLink_RX5_69_yX5_isDigitHere : Cond.methodLink RX5 69 yX5_isDigitHere ∈ wsG := mG (seg3 (List.mem_of_getElem? (i := 61) rfl)) rfl
theorem wcode_yX5_isDigitHere_cX5_isDigitHere_1_some_boolean : Cond.code yX5_isDigitHere cX5_isDigitHere 1 (some .boolean) ∈ wsG := mG (seg3 (List.mem_of_getElem? (i := 64) rfl)) rfl
theorem winstanceMethod_yX5_isDigitHere : Cond.instanceMethod yX5_isDigitHere ∈ wsG := mG (seg3 (List.mem_of_getElem? (i := 63) rfl)) rfl
theorem wselects_RX5_yX5_isDigitHere_yX5_isDigitHere : Cond.selects RX5 yX5_isDigitHere yX5_isDigitHere ∈ wsG := mG (seg0 (List.mem_of_getElem? (i := 27) rfl)) rfl
theorem wfieldLink_RX5_28_LineEchoes_Script_numbers_I : Cond.fieldLink RX5 28 "LineEchoes$Script" "numbers" "[I" ∈ wsG := mG (seg1 (List.mem_of_getElem? (i := 149) rfl)) rfl
theorem wmethodLink_RX5_45_yX5_skipSpaces : Cond.methodLink RX5 45 yX5_skipSpaces ∈ wsG := mG (seg2 (List.mem_of_getElem? (i := 223) rfl)) rfl
theorem wcode_yX5_skipSpaces_cX5_skipSpaces_1_none : Cond.code yX5_skipSpaces cX5_skipSpaces 1 none ∈ wsG := mG (seg2 (List.mem_of_getElem? (i := 226) rfl)) rfl
theorem winstanceMethod_yX5_skipSpaces : Cond.instanceMethod yX5_skipSpaces ∈ wsG := mG (seg2 (List.mem_of_getElem? (i := 225) rfl)) rfl
theorem wselects_RX5_yX5_skipSpaces_yX5_skipSpaces : Cond.selects RX5 yX5_skipSpaces yX5_skipSpaces ∈ wsG := mG (seg0 (List.mem_of_getElem? (i := 21) rfl)) rfl
theorem wmethodLink_RX5_66_yX5_failHere : Cond.methodLink RX5 66 yX5_failHere ∈ wsG := mG (seg3 (List.mem_of_getElem? (i := 57) rfl)) rfl
theorem wcode_yX5_failHere_cX5_failHere_1_some_boolean : Cond.code yX5_failHere cX5_failHere 1 (some .boolean) ∈ wsG := mG (seg3 (List.mem_of_getElem? (i := 60) rfl)) rfl
theorem winstanceMethod_yX5_failHere : Cond.instanceMethod yX5_failHere ∈ wsG := mG (seg3 (List.mem_of_getElem? (i := 59) rfl)) rfl
theorem wselects_RX5_yX5_failHere_yX5_failHere : Cond.selects RX5 yX5_failHere yX5_failHere ∈ wsG := mG (seg0 (List.mem_of_getElem? (i := 26) rfl)) rfl
theorem wfieldLink_RX5_25_LineEchoes_Script_command_LLineEchoes_Command : Cond.fieldLink RX5 25 "LineEchoes$Script" "command" "LLineEchoes$Command;" ∈ wsG := mG (seg1 (List.mem_of_getElem? (i := 147) rfl)) rfl
theorem wfieldLink_RX5_55_LineEchoes_Command_numberCount_I : Cond.fieldLink RX5 55 "LineEchoes$Command" "numberCount" "I" ∈ wsG := mG (seg6 (List.mem_of_getElem? (i := 185) rfl)) rfl
theorem wmethodLink_RX5_58_yX5_readNumber : Cond.methodLink RX5 58 yX5_readNumber ∈ wsG := mG (seg3 (List.mem_of_getElem? (i := 53) rfl)) rfl
theorem wcode_yX5_readNumber_cX5_readNumber_4_some_boolean : Cond.code yX5_readNumber cX5_readNumber 4 (some .boolean) ∈ wsG := mG (seg3 (List.mem_of_getElem? (i := 56) rfl)) rfl
theorem winstanceMethod_yX5_readNumber : Cond.instanceMethod yX5_readNumber ∈ wsG := mG (seg3 (List.mem_of_getElem? (i := 55) rfl)) rfl
theorem wselects_RX5_yX5_readNumber_yX5_readNumber : Cond.selects RX5 yX5_readNumber yX5_readNumber ∈ wsG := mG (seg0 (List.mem_of_getElem? (i := 25) rfl)) rfl
theorem wmethodLink_RX5_48_yX5_skipLetters : Cond.methodLink RX5 48 yX5_skipLetters ∈ wsG := mG (seg2 (List.mem_of_getElem? (i := 231) rfl)) rfl
theorem wcode_yX5_skipLetters_cX5_skipLetters_1_none : Cond.code yX5_skipLetters cX5_skipLetters 1 none ∈ wsG := mG (seg2 (List.mem_of_getElem? (i := 234) rfl)) rfl
theorem winstanceMethod_yX5_skipLetters : Cond.instanceMethod yX5_skipLetters ∈ wsG := mG (seg2 (List.mem_of_getElem? (i := 233) rfl)) rfl
theorem wselects_RX5_yX5_skipLetters_yX5_skipLetters : Cond.selects RX5 yX5_skipLetters yX5_skipLetters ∈ wsG := mG (seg0 (List.mem_of_getElem? (i := 23) rfl)) rfl
theorem wmethodLink_RX5_51_yX2_spelled : Cond.methodLink RX5 51 yX2_spelled ∈ wsG := mG (seg2 (List.mem_of_getElem? (i := 235) rfl)) rfl
theorem wcode_yX2_spelled_cX2_spelled_4_some_object_LineEchoes_Command : Cond.code yX2_spelled cX2_spelled 4 (some (.object "LineEchoes$Command")) ∈ wsG := mG (seg2 (List.mem_of_getElem? (i := 237) rfl)) rfl
theorem wstatic_yX2_spelled : Cond.static yX2_spelled ∈ wsG := mG (seg2 (List.mem_of_getElem? (i := 236) rfl)) rfl
theorem wmethodLink_RX5_41_yX5_readCommand : Cond.methodLink RX5 41 yX5_readCommand ∈ wsG := mG (seg2 (List.mem_of_getElem? (i := 219) rfl)) rfl
theorem wcode_yX5_readCommand_cX5_readCommand_4_some_boolean : Cond.code yX5_readCommand cX5_readCommand 4 (some .boolean) ∈ wsG := mG (seg2 (List.mem_of_getElem? (i := 222) rfl)) rfl
theorem winstanceMethod_yX5_readCommand : Cond.instanceMethod yX5_readCommand ∈ wsG := mG (seg2 (List.mem_of_getElem? (i := 220) rfl)) rfl
theorem wselects_RX5_yX5_readCommand_yX5_readCommand : Cond.selects RX5 yX5_readCommand yX5_readCommand ∈ wsG := mG (seg2 (List.mem_of_getElem? (i := 221) rfl)) rfl
theorem wmethodLink_RX5_38_yX5_rewind : Cond.methodLink RX5 38 yX5_rewind ∈ wsG := mG (seg2 (List.mem_of_getElem? (i := 215) rfl)) rfl
theorem wcode_yX5_rewind_cX5_rewind_1_none : Cond.code yX5_rewind cX5_rewind 1 none ∈ wsG := mG (seg2 (List.mem_of_getElem? (i := 218) rfl)) rfl
theorem winstanceMethod_yX5_rewind : Cond.instanceMethod yX5_rewind ∈ wsG := mG (seg2 (List.mem_of_getElem? (i := 216) rfl)) rfl
theorem wselects_RX5_yX5_rewind_yX5_rewind : Cond.selects RX5 yX5_rewind yX5_rewind ∈ wsG := mG (seg2 (List.mem_of_getElem? (i := 217) rfl)) rfl
theorem wmethodLink_RX9_238_yX5_readCommand : Cond.methodLink RX9 238 yX5_readCommand ∈ wsG := mG (seg3 (List.mem_of_getElem? (i := 66) rfl)) rfl
theorem wfieldLink_RX9_242_LineEchoes_Script_numbers_I : Cond.fieldLink RX9 242 "LineEchoes$Script" "numbers" "[I" ∈ wsG := mG (seg1 (List.mem_of_getElem? (i := 150) rfl)) rfl
theorem wfieldLink_RX9_245_LineEchoes_Script_command_LLineEchoes_Command : Cond.fieldLink RX9 245 "LineEchoes$Script" "command" "LLineEchoes$Command;" ∈ wsG := mG (seg1 (List.mem_of_getElem? (i := 148) rfl)) rfl
theorem wmethodLink_RX9_232_yX5_firstFault : Cond.methodLink RX9 232 yX5_firstFault ∈ wsG := mG (seg2 (List.mem_of_getElem? (i := 211) rfl)) rfl
theorem wcode_yX5_firstFault_cX5_firstFault_3_some_int : Cond.code yX5_firstFault cX5_firstFault 3 (some .int) ∈ wsG := mG (seg2 (List.mem_of_getElem? (i := 214) rfl)) rfl
theorem winstanceMethod_yX5_firstFault : Cond.instanceMethod yX5_firstFault ∈ wsG := mG (seg2 (List.mem_of_getElem? (i := 212) rfl)) rfl
theorem wselects_RX5_yX5_firstFault_yX5_firstFault : Cond.selects RX5 yX5_firstFault yX5_firstFault ∈ wsG := mG (seg2 (List.mem_of_getElem? (i := 213) rfl)) rfl
theorem wmethodLink_RX9_235_yX5_rewind : Cond.methodLink RX9 235 yX5_rewind ∈ wsG := mG (seg3 (List.mem_of_getElem? (i := 65) rfl)) rfl
theorem wfieldLink_RJ0_38_java_lang_String_COMPACT_STRINGS_Z : Cond.fieldLink RJ0 38 "java/lang/String" "COMPACT_STRINGS" "Z" ∈ wsG := mG (seg3 (List.mem_of_getElem? (i := 13) rfl)) rfl
theorem wfieldLink_RJ0_15_java_lang_String_coder_B : Cond.fieldLink RJ0 15 "java/lang/String" "coder" "B" ∈ wsG := mG (seg6 (List.mem_of_getElem? (i := 184) rfl)) rfl
theorem wfieldLink_RJ0_9_java_lang_String_value_B : Cond.fieldLink RJ0 9 "java/lang/String" "value" "[B" ∈ wsG := mG (seg6 (List.mem_of_getElem? (i := 183) rfl)) rfl
theorem wmethodLink_RJ0_335_yJ0_coder_7d493 : Cond.methodLink RJ0 335 yJ0_coder_7d493 ∈ wsG := mG (seg3 (List.mem_of_getElem? (i := 9) rfl)) rfl
theorem winstanceMethod_yJ0_coder_7d493 : Cond.instanceMethod yJ0_coder_7d493 ∈ wsG := mG (seg3 (List.mem_of_getElem? (i := 10) rfl)) rfl
theorem wselects_RJ0_yJ0_coder_7d493_yJ0_coder_7d493 : Cond.selects RJ0 yJ0_coder_7d493 yJ0_coder_7d493 ∈ wsG := mG (seg3 (List.mem_of_getElem? (i := 11) rfl)) rfl
theorem winitialized_RJ0 : Cond.initialized RJ0 ∈ wsG := mG (seg1 (List.mem_of_getElem? (i := 22) rfl)) rfl
theorem wcode_yJ0_coder_7d493_cJ0_coder_7d493_1_some_byte : Cond.code yJ0_coder_7d493 cJ0_coder_7d493 1 (some .byte) ∈ wsG := mG (seg3 (List.mem_of_getElem? (i := 12) rfl)) rfl
theorem wmethodLink_RJ0_1059_yJ3_checkIndex_8e157 : Cond.methodLink RJ0 1059 yJ3_checkIndex_8e157 ∈ wsG := mG (seg3 (List.mem_of_getElem? (i := 31) rfl)) rfl
theorem wcode_yJ3_checkIndex_8e157_cJ3_checkIndex_8e157_3_some_int : Cond.code yJ3_checkIndex_8e157 cJ3_checkIndex_8e157 3 (some .int) ∈ wsG := mG (seg3 (List.mem_of_getElem? (i := 33) rfl)) rfl
theorem wstatic_yJ3_checkIndex_8e157 : Cond.static yJ3_checkIndex_8e157 ∈ wsG := mG (seg3 (List.mem_of_getElem? (i := 32) rfl)) rfl
theorem winitialized_RJ3 : Cond.initialized RJ3 ∈ wsG := mG (seg1 (List.mem_of_getElem? (i := 24) rfl)) rfl
theorem wfieldLink_RJ0_1053_jdk_internal_util_Preconditions_SIOOBE_FORMATTER_Ljava_util_function_BiFunction : Cond.fieldLink RJ0 1053 "jdk/internal/util/Preconditions" "SIOOBE_FORMATTER" "Ljava/util/function/BiFunction;" ∈ wsG := mG (seg3 (List.mem_of_getElem? (i := 29) rfl)) rfl
theorem wmethodLink_RJ1_9_yJ0_checkIndex_df160 : Cond.methodLink RJ1 9 yJ0_checkIndex_df160 ∈ wsG := mG (seg3 (List.mem_of_getElem? (i := 26) rfl)) rfl
theorem wcode_yJ0_checkIndex_df160_cJ0_checkIndex_df160_2_none : Cond.code yJ0_checkIndex_df160 cJ0_checkIndex_df160 2 none ∈ wsG := mG (seg3 (List.mem_of_getElem? (i := 28) rfl)) rfl
theorem wstatic_yJ0_checkIndex_df160 : Cond.static yJ0_checkIndex_df160 ∈ wsG := mG (seg3 (List.mem_of_getElem? (i := 27) rfl)) rfl
theorem wmethodLink_RJ0_492_yJ0_isLatin1_aae02 : Cond.methodLink RJ0 492 yJ0_isLatin1_aae02 ∈ wsG := mG (seg3 (List.mem_of_getElem? (i := 19) rfl)) rfl
theorem winstanceMethod_yJ0_isLatin1_aae02 : Cond.instanceMethod yJ0_isLatin1_aae02 ∈ wsG := mG (seg3 (List.mem_of_getElem? (i := 20) rfl)) rfl
theorem wselects_RJ0_yJ0_isLatin1_aae02_yJ0_isLatin1_aae02 : Cond.selects RJ0 yJ0_isLatin1_aae02 yJ0_isLatin1_aae02 ∈ wsG := mG (seg3 (List.mem_of_getElem? (i := 21) rfl)) rfl
theorem wcode_yJ0_isLatin1_aae02_cJ0_isLatin1_aae02_1_some_boolean : Cond.code yJ0_isLatin1_aae02 cJ0_isLatin1_aae02 1 (some .boolean) ∈ wsG := mG (seg3 (List.mem_of_getElem? (i := 22) rfl)) rfl
theorem wmethodLink_RJ0_495_yJ1_charAt_3b067 : Cond.methodLink RJ0 495 yJ1_charAt_3b067 ∈ wsG := mG (seg3 (List.mem_of_getElem? (i := 23) rfl)) rfl
theorem wcode_yJ1_charAt_3b067_cJ1_charAt_3b067_2_some_char : Cond.code yJ1_charAt_3b067 cJ1_charAt_3b067 2 (some .char) ∈ wsG := mG (seg3 (List.mem_of_getElem? (i := 25) rfl)) rfl
theorem wstatic_yJ1_charAt_3b067 : Cond.static yJ1_charAt_3b067 ∈ wsG := mG (seg3 (List.mem_of_getElem? (i := 24) rfl)) rfl
theorem winitialized_RJ1 : Cond.initialized RJ1 ∈ wsG := mG (seg1 (List.mem_of_getElem? (i := 23) rfl)) rfl
theorem winstanceMethod_yJ0_length_8abf5 : Cond.instanceMethod yJ0_length_8abf5 ∈ wsG := mG (seg3 (List.mem_of_getElem? (i := 6) rfl)) rfl
theorem wselects_RJ0_yJ0_length_8abf5_yJ0_length_8abf5 : Cond.selects RJ0 yJ0_length_8abf5 yJ0_length_8abf5 ∈ wsG := mG (seg3 (List.mem_of_getElem? (i := 7) rfl)) rfl
theorem wcode_yJ0_length_8abf5_cJ0_length_8abf5_1_some_int : Cond.code yJ0_length_8abf5 cJ0_length_8abf5 1 (some .int) ∈ wsG := mG (seg3 (List.mem_of_getElem? (i := 8) rfl)) rfl
theorem winstanceMethod_yJ0_charAt_5068e : Cond.instanceMethod yJ0_charAt_5068e ∈ wsG := mG (seg3 (List.mem_of_getElem? (i := 16) rfl)) rfl
theorem wselects_RJ0_yJ0_charAt_5068e_yJ0_charAt_5068e : Cond.selects RJ0 yJ0_charAt_5068e yJ0_charAt_5068e ∈ wsG := mG (seg3 (List.mem_of_getElem? (i := 17) rfl)) rfl
theorem wcode_yJ0_charAt_5068e_cJ0_charAt_5068e_2_some_char : Cond.code yJ0_charAt_5068e cJ0_charAt_5068e 2 (some .char) ∈ wsG := mG (seg3 (List.mem_of_getElem? (i := 18) rfl)) rfl
