theorem wmethodLink_RX1_3_java_lang_Object_init_V : Cond.methodLink RX1 3 ⟨"java/lang/Object", "<init>", "()V"⟩ ∈ wsG := mG (seg1 (List.mem_of_getElem? (i := 45) rfl)) rfl
theorem wconstant_RX1_40_100000 : Cond.constant RX1 40 100000 ∈ wsG := mG (seg1 (List.mem_of_getElem? (i := 46) rfl)) rfl
theorem wmethodLink_RX6_3_java_lang_Object_init_V : Cond.methodLink RX6 3 ⟨"java/lang/Object", "<init>", "()V"⟩ ∈ wsG := mG (seg1 (List.mem_of_getElem? (i := 39) rfl)) rfl
theorem wclassLink_RX6_9_LineEchoes_Bench : Cond.classLink RX6 9 "LineEchoes$Bench" ∈ wsG := mG (seg1 (List.mem_of_getElem? (i := 40) rfl)) rfl
theorem winstantiable_RX1_9 : Cond.instantiable RX1 9 ∈ wsG := mG (seg1 (List.mem_of_getElem? (i := 41) rfl)) rfl
theorem wmethodLink_RX6_11_yX1_init : Cond.methodLink RX6 11 yX1_init ∈ wsG := mG (seg1 (List.mem_of_getElem? (i := 42) rfl)) rfl
theorem winstanceMethod_yX1_init : Cond.instanceMethod yX1_init ∈ wsG := mG (seg1 (List.mem_of_getElem? (i := 43) rfl)) rfl
theorem wcode_yX1_init_cX1_init_1_none : Cond.code yX1_init cX1_init 1 none ∈ wsG := mG (seg1 (List.mem_of_getElem? (i := 44) rfl)) rfl
theorem wmethodLink_RX3_3_java_lang_Object_init_V : Cond.methodLink RX3 3 ⟨"java/lang/Object", "<init>", "()V"⟩ ∈ wsG := mG (seg1 (List.mem_of_getElem? (i := 124) rfl)) rfl
theorem wclassLink_RX3_9_LineEchoes_State : Cond.classLink RX3 9 "LineEchoes$State" ∈ wsG := mG (seg1 (List.mem_of_getElem? (i := 125) rfl)) rfl
theorem winstantiable_RX6_3 : Cond.instantiable RX6 3 ∈ wsG := mG (seg1 (List.mem_of_getElem? (i := 35) rfl)) rfl
theorem wmethodLink_RX3_17_yX6_init : Cond.methodLink RX3 17 yX6_init ∈ wsG := mG (seg1 (List.mem_of_getElem? (i := 127) rfl)) rfl
theorem winstanceMethod_yX6_init : Cond.instanceMethod yX6_init ∈ wsG := mG (seg1 (List.mem_of_getElem? (i := 37) rfl)) rfl
theorem wcode_yX6_init_cX6_init_1_none : Cond.code yX6_init cX6_init 1 none ∈ wsG := mG (seg1 (List.mem_of_getElem? (i := 38) rfl)) rfl
theorem wmethodLink_RX5_3_java_lang_Object_init_V : Cond.methodLink RX5 3 ⟨"java/lang/Object", "<init>", "()V"⟩ ∈ wsG := mG (seg1 (List.mem_of_getElem? (i := 141) rfl)) rfl
theorem wfieldLink_RX5_19_LineEchoes_Command_PART_LLineEchoes_Command : Cond.fieldLink RX5 19 "LineEchoes$Command" "PART" "LLineEchoes$Command;" ∈ wsG := mG (seg1 (List.mem_of_getElem? (i := 142) rfl)) rfl
theorem wmethodLink_RX8_3_java_lang_Object_init_V : Cond.methodLink RX8 3 ⟨"java/lang/Object", "<init>", "()V"⟩ ∈ wsG := mG (seg1 (List.mem_of_getElem? (i := 172) rfl)) rfl
theorem wclassLink_RX8_9_J : Cond.classLink RX8 9 "[[J" ∈ wsG := mG (seg1 (List.mem_of_getElem? (i := 173) rfl)) rfl
theorem wmethodLink_RX4_3_java_lang_Object_init_V : Cond.methodLink RX4 3 ⟨"java/lang/Object", "<init>", "()V"⟩ ∈ wsG := mG (seg1 (List.mem_of_getElem? (i := 199) rfl)) rfl
theorem wclassLink_RX4_9_LineEchoes_Bench : Cond.classLink RX4 9 "LineEchoes$Bench" ∈ wsG := mG (seg1 (List.mem_of_getElem? (i := 200) rfl)) rfl
theorem wmethodLink_RX4_11_yX1_init : Cond.methodLink RX4 11 yX1_init ∈ wsG := mG (seg1 (List.mem_of_getElem? (i := 201) rfl)) rfl
theorem wclassLink_RX4_25_LineEchoes_Wave : Cond.classLink RX4 25 "LineEchoes$Wave" ∈ wsG := mG (seg1 (List.mem_of_getElem? (i := 202) rfl)) rfl
theorem winstantiable_RX8_4 : Cond.instantiable RX8 4 ∈ wsG := mG (seg1 (List.mem_of_getElem? (i := 168) rfl)) rfl
theorem wmethodLink_RX4_27_yX8_init : Cond.methodLink RX4 27 yX8_init ∈ wsG := mG (seg1 (List.mem_of_getElem? (i := 203) rfl)) rfl
theorem winstanceMethod_yX8_init : Cond.instanceMethod yX8_init ∈ wsG := mG (seg1 (List.mem_of_getElem? (i := 170) rfl)) rfl
theorem wcode_yX8_init_cX8_init_1_none : Cond.code yX8_init cX8_init 1 none ∈ wsG := mG (seg1 (List.mem_of_getElem? (i := 171) rfl)) rfl
theorem wmethodLink_RX9_3_java_lang_Object_init_V : Cond.methodLink RX9 3 ⟨"java/lang/Object", "<init>", "()V"⟩ ∈ wsG := mG (seg1 (List.mem_of_getElem? (i := 31) rfl)) rfl
theorem wclassLink_RX9_9_LineEchoes_State : Cond.classLink RX9 9 "LineEchoes$State" ∈ wsG := mG (seg1 (List.mem_of_getElem? (i := 34) rfl)) rfl
theorem wmethodLink_RX9_11_yX6_init : Cond.methodLink RX9 11 yX6_init ∈ wsG := mG (seg1 (List.mem_of_getElem? (i := 36) rfl)) rfl
theorem wclassLink_RX9_16_LineEchoes_History : Cond.classLink RX9 16 "LineEchoes$History" ∈ wsG := mG (seg1 (List.mem_of_getElem? (i := 119) rfl)) rfl
theorem winstantiable_RX3_2 : Cond.instantiable RX3 2 ∈ wsG := mG (seg1 (List.mem_of_getElem? (i := 120) rfl)) rfl
theorem wmethodLink_RX9_18_yX3_init : Cond.methodLink RX9 18 yX3_init ∈ wsG := mG (seg1 (List.mem_of_getElem? (i := 121) rfl)) rfl
theorem winstanceMethod_yX3_init : Cond.instanceMethod yX3_init ∈ wsG := mG (seg1 (List.mem_of_getElem? (i := 122) rfl)) rfl
theorem wcode_yX3_init_cX3_init_2_none : Cond.code yX3_init cX3_init 2 none ∈ wsG := mG (seg1 (List.mem_of_getElem? (i := 123) rfl)) rfl
theorem wclassLink_RX9_23_LineEchoes_Script : Cond.classLink RX9 23 "LineEchoes$Script" ∈ wsG := mG (seg1 (List.mem_of_getElem? (i := 136) rfl)) rfl
theorem winstantiable_RX5_6 : Cond.instantiable RX5 6 ∈ wsG := mG (seg1 (List.mem_of_getElem? (i := 137) rfl)) rfl
theorem wmethodLink_RX9_25_yX5_init : Cond.methodLink RX9 25 yX5_init ∈ wsG := mG (seg1 (List.mem_of_getElem? (i := 138) rfl)) rfl
theorem winstanceMethod_yX5_init : Cond.instanceMethod yX5_init ∈ wsG := mG (seg1 (List.mem_of_getElem? (i := 139) rfl)) rfl
theorem wcode_yX5_init_cX5_init_1_none : Cond.code yX5_init cX5_init 1 none ∈ wsG := mG (seg1 (List.mem_of_getElem? (i := 140) rfl)) rfl
theorem wclassLink_RX9_30_LineEchoes_Wave : Cond.classLink RX9 30 "LineEchoes$Wave" ∈ wsG := mG (seg1 (List.mem_of_getElem? (i := 167) rfl)) rfl
theorem wmethodLink_RX9_32_yX8_init : Cond.methodLink RX9 32 yX8_init ∈ wsG := mG (seg1 (List.mem_of_getElem? (i := 169) rfl)) rfl
theorem wclassLink_RX9_37_LineEchoes_Peeling : Cond.classLink RX9 37 "LineEchoes$Peeling" ∈ wsG := mG (seg1 (List.mem_of_getElem? (i := 194) rfl)) rfl
theorem winstantiable_RX4_4 : Cond.instantiable RX4 4 ∈ wsG := mG (seg1 (List.mem_of_getElem? (i := 195) rfl)) rfl
theorem wmethodLink_RX9_39_yX4_init : Cond.methodLink RX9 39 yX4_init ∈ wsG := mG (seg1 (List.mem_of_getElem? (i := 196) rfl)) rfl
theorem winstanceMethod_yX4_init : Cond.instanceMethod yX4_init ∈ wsG := mG (seg1 (List.mem_of_getElem? (i := 197) rfl)) rfl
theorem wcode_yX4_init_cX4_init_1_none : Cond.code yX4_init cX4_init 1 none ∈ wsG := mG (seg1 (List.mem_of_getElem? (i := 198) rfl)) rfl
theorem wmethodLink_RX10_1_java_lang_Object_init_V : Cond.methodLink RX10 1 ⟨"java/lang/Object", "<init>", "()V"⟩ ∈ wsG := mG (seg4 (List.mem_of_getElem? (i := 218) rfl)) rfl
theorem wconstantLong_RX10_44_100_ : Cond.constantLong RX10 44 100 ∈ wsG := mG (seg4 (List.mem_of_getElem? (i := 219) rfl)) rfl
theorem wconstantLong_RX10_46_100000 : Cond.constantLong RX10 46 100000 ∈ wsG := mG (seg4 (List.mem_of_getElem? (i := 220) rfl)) rfl
/-! CONSTRUCTORS: what the array classes need beside SFG -/
def SFK (E : Nat → Nat → Nat) : SG := fun A U H => SFG E A U H ∧ va_AO "LineEchoes$State" U ∧ va_AOA .long U
theorem va_AOA.moved {ty : FieldType} {u U : State} (hvm : u.vm.Alike U.vm) (h : va_AOA ty u) : va_AOA ty U := by
  exact over_moved hvm h
theorem SFK.stat (E : Nat → Nat → Nat) : Stat (SFK E) := ⟨fun A u U H hW h => ⟨(SFG.stat E).1 A u U H hW h.1, h.2.1.moved hW.alike, h.2.2.moved hW.alike⟩, fun A U H H1 h hq => ⟨(SFG.stat E).2.1 A U H H1 h.1 hq, h.2⟩, fun A B U H h hAB => ⟨(SFG.stat E).2.2 A B U H h.1 hAB, h.2⟩⟩
theorem Cx.weak {X : CxT} {G G' : SG} {T : Nat → ClassId} {cc : ByteArray} {own : String} {ret : Option FieldType} {nl fr lo : Nat} (hs : Stat G) (h : ∀ (A : Nat → Prop) (U : State) (H : Heap), G' A U H → G A U H) (C : Cx X G' T cc own ret nl fr lo) : Cx X G T cc own ret nl fr lo := by
  obtain ⟨p, l, e, R, s, m, args, below, meth, c, D, A, H0, nL, Q⟩ := X
  obtain ⟨hx, hb, hml, hown, hts, hK, hlocks, hr, hA, hnl, hfr, hlo, htr, hG, hGs, hH0⟩ := C
  exact ⟨hx, hb, hml, hown, hts, hK, hlocks, hr, hA, hnl, hfr, hlo, htr, hs, h _ _ _ hGs, hH0⟩
theorem Cx.sfg {X : CxT} {E : Nat → Nat → Nat} {T : Nat → ClassId} {cc : ByteArray} {own : String} {ret : Option FieldType} {nl fr lo : Nat} (C : Cx X (SFK E) T cc own ret nl fr lo) : Cx X (SFG E) T cc own ret nl fr lo := C.weak (SFG.stat E) (fun _ _ _ h => h.1)
theorem arrV_agree {c : ClassId} {n : Nat} {f g : Nat → Value} (h : ∀ j, j < n → f j = g j) : arrV c n f = arrV c n g := by
  unfold arrV
  congr 1
  exact congrArg Array.ofFn (funext fun j => h j.1 j.2)
/-- an array of references shows only what lies below its length -/
theorem v_refN {X : CxT} {k n : Nat} {ws1 ws2 : va_W} {lv : List (Nat × Value)} {pc : Nat} {st : List Value} {q N : Nat} {c : ClassId} {f f' : Nat → Option Nat} (h : ∀ j, j < N → f j = f' j) (kk : V X k n (ws1 ++ (q, .inl (c, N, .inr (.inr (.inr (.inr f'))))) :: ws2) lv pc st) : V X k n (ws1 ++ (q, .inl (c, N, .inr (.inr (.inr (.inr f))))) :: ws2) lv pc st := by
  obtain ⟨p, l, e, R, s, m, args, below, meth, c, D, A, H0, nL, Q⟩ := X
  intro H locs ls hP hD hS hl
  refine kk H locs ls (va_P_iff.mpr fun q hq => ?_) ?_ hS hl
  · rcases List.mem_append.mp hq with h1 | h1
    · exact va_P_iff.mp hP q (List.mem_append_left _ h1)
    · rcases List.mem_cons.mp h1 with rfl | h1
      · have h2 := va_P_iff.mp hP _ (List.mem_append_right _ List.mem_cons_self)
        have h3 : ∀ c, vp_cell c (N, .inr (.inr (.inr (.inr f)))) = vp_cell c (N, .inr (.inr (.inr (.inr f')))) := fun c => by
          rw [vp_cell_q, vp_cell_q]
          exact arrV_agree fun j hj => by rw [h j hj]
        exact Eq.trans h2 (congrArg some (h3 _))
      · exact va_P_iff.mp hP q (List.mem_append_right _ (List.mem_cons_of_mem _ h1))
  · have hD := va_D_iff.mp hD
    refine va_D_iff.mpr ⟨by simpa using hD.1, fun q hq => ?_⟩
    rcases List.mem_append.mp hq with h1 | h1
    · exact hD.2 q (List.mem_append_left _ h1)
    · rcases List.mem_cons.mp h1 with rfl | h1
      · exact hD.2 (q, .inl (_, N, .inr (.inr (.inr (.inr f))))) (List.mem_append_right _ List.mem_cons_self)
      · exact hD.2 q (List.mem_append_right _ (List.mem_cons_of_mem _ h1))
section CONS2
variable {X : CxT} {G : SG} {T : Nat → ClassId} {E : Nat → Nat → Nat} {ws ws' w : va_W} {cc : ByteArray} {own : String} {ret : Option FieldType} {nl fr lo k n ix ix2 mc ms : Nat} {lv : List (Nat × Value)} {pc : Nat} {rest : List Value} {y : MethodName} {cc' : ByteArray} {nL' : Nat} {rm : Room}
/-- new, dup, <init> -/
theorem v_mk {Cn : String} {TT : u_T} {NN ci : Nat} {fs : List Value} {Wq : Nat → va_W → Prop} (tyF : Nat → FieldType) (hinT : ∀ w ∈ u_ws Cn TT NN, w ∈ wsG) (hty : ∀ k, k < NN → parseFieldDescriptor (TT k).2.2.1 = some (tyF k)) (hcl : Cond.classLink own ix Cn ∈ wsG) (hinst : Cond.instantiable Cn NN ∈ wsG) (hini : Cond.initialized Cn ∈ wsG) (hc : vwCl[ci]? = some (Cn, TT, NN)) (hfs : ∀ j, j < NN → defaultValue (tyF j) = vp_V fs j)
    (hM : ∀ q D, MetA G y cc' nL' rm D T [.ref q] [(q, .inr (ci, fs))] (Wq q) mc ms) (hl9 : Cond.methodLink own ix2 y ∈ wsG) (hin : Cond.instanceMethod y ∈ wsG) (hini2 : Cond.initialized y.cls ∈ wsG) (hcode : Cond.code y cc' nL' none ∈ wsG) (hy1 : y.name = "<init>")
    (hd : y.cls ≠ "java/lang/invoke/MethodHandle" ∧ y.cls ≠ "java/lang/invoke/VarHandle" ∧ (parseMethodDescriptor y.desc).map (fun d => d.parameters.length) = some 0) (hR : rm.frames + 1 ≤ fr ∧ 8 + (nL' + 11) + rm.locals ≤ lo) (hrm : rm.cells = mc ∧ rm.slots = ms) (hst : ((rest.map fun v => v.category).sum) ≤ 7)
    (C : Cx X G T cc own ret nl fr lo) (hcap : CapOK X (k + 1 + mc) (n + NN + ms)) (hd0 : decode cc pc = .ok (.new ix, 3)) (hd1 : decode cc (pc + 3) = .ok (.dup, 1)) (hd2 : decode cc (pc + 4) = .ok (.invokespecial ix2, 3)) (kk : ∀ q w', Wq q w' → V X (k + 1 + mc) (n + NN + ms) (ws ++ w') lv (pc + 7) (.ref q :: rest)) : V X k n ws lv pc rest := by
  refine v_newobj tyF hinT hty hcl hinst hini hc hfs C (hcap.mono (Nat.le_add_right _ _) (Nat.le_add_right _ _)) hd0 (fun q => ?_)
  refine v_dup C hd1 rfl ?_
  refine v_perm List.perm_append_comm ?_
  refine v_callI (Wp := fun w' => ∃ w1, Wq q w1 ∧ w' = w1 ++ ws) (rest := .ref q :: rest) C hcap (fun D => (hM q D).frame ws) hl9 hin hini2 hcode hy1 hd hR hrm ?_ hd2 (fun w' hw => ?_)
  · show ((Value.ref q).category + (rest.map fun v => v.category).sum) ≤ 8
    have : (Value.ref q).category = 1 := rfl
    omega
  · obtain ⟨w1, h1, rfl⟩ := hw
    exact v_perm List.perm_append_comm (kk q w1 h1)
theorem v_sasAny {q0 qk q b : Nat} {f : Nat → Option Nat} {vs : List Value} {i : Int32} (hq : ws[q0]? = some (q, .inl (T 3, 3, .inr (.inr (.inr (.inr f)))))) (hv : ws[qk]? = some (b, .inr (5, vs))) (hin : vp_in i 3) (hset : ws.set q0 (q, .inl (T 3, 3, .inr (.inr (.inr (.inr (va_up f i.toNatClampNeg (some b))))))) = ws') (C : Cx X G T cc own ret nl fr lo) (hdg : decode cc pc = .ok (.aastore, 1)) (kk : V X k n ws' lv (pc + 1) rest) : V X k n ws lv pc (.ref b :: .int i :: .ref q :: rest) := by
  subst hset
  obtain ⟨p, l, e, R, s, m, args, below, meth, c, D, A, H0, nL, Q⟩ := X
  obtain ⟨hx, hb, hml, hown, hts, hK, hlocks, hr, hA, hnl, hfr, hlo, htr, hG, hGs, hH0⟩ := C
  intro H locs ls hP hD hS hl
  exact va_astq (r := (RX6, TX6, 3)) hx hb hK hP hD hS q0 3 qk 5 hq rfl hv rfl hin hdg (fun H2 locs2 hP2 hD2 hS2 => kk H2 locs2 ls hP2 hD2 hS2 hl)
theorem v_part0 (hl : Cond.fieldLink own ix "LineEchoes$Command" "PART" "LLineEchoes$Command;" ∈ wsG) (C : Cx X (SFK E) T cc own ret nl fr lo) (hdg : decode cc pc = .ok (.getstatic ix, 3)) (kk : V X k n ws lv (pc + 3) (.ref (E 0 0) :: rest)) : V X k n ws lv pc rest := Ce_comm (i := 0) (by decide) hl C.sfg hdg kk
end CONS2
def pe0 : Nat → Int32 := upd (fun _ => 0) 0 100000
def zI : Nat → Int32 := fun _ => 0
def zJ : Nat → Int64 := fun _ => 0
theorem perm_wave {α : Type} (o a b c d : α) (N F : List α) : ((((([o] ++ [a]) ++ N) ++ [b]) ++ F) ++ [c] ++ [d]).Perm ([o, a, b, c, d] ++ (N ++ F)) := by
  classical
  refine List.perm_iff_count.mpr fun x => ?_
  simp only [List.count_append, List.count_cons, List.count_nil]
  omega
abbrev wB (T : Nat → ClassId) (a : Nat → Nat) : va_W := [(a 0, .inr (0, [.int 0, .ref (a 1), .ref (a 2), .int 0, .int 1, .int 100, .int 1, .ref (a 3), .ref (a 4)])), (a 1, .inl (T 1, 8, .inl (fun _ => 0))), (a 2, .inl (T 1, 8, .inl (fun _ => 0))), (a 3, .inl (T 1, 4, .inl (fun _ => 0))), (a 4, .inl (T 1, 4, .inl pe0))]
abbrev wS (T : Nat → ClassId) (a : Nat → Nat) : va_W := (a 0, .inr (5, [.ref (a 1), .ref (a 6), .ref (a 7)])) :: (wB T (fun i => a (1 + i)) ++ [(a 6, .inl (T 0, 201, .inr (.inl (fun _ => 0)))), (a 7, .inl (T 0, 201, .inr (.inl (fun _ => 0))))])
abbrev wH (T : Nat → ClassId) (a : Nat → Nat) (f : Nat → Option Nat) : va_W := (a 0, .inr (2, [.ref (a 1), .int 0])) :: (a 1, .inl (T 3, 3, .inr (.inr (.inr (.inr f))))) :: (wS T (fun i => a (2 + i)) ++ (wS T (fun i => a (10 + i)) ++ wS T (fun i => a (18 + i))))
abbrev wC (E : Nat → Nat → Nat) (T : Nat → ClassId) (a : Nat → Nat) : va_W := [(a 0, .inr (4, [.ref (a 1), .int 0, .ref (E 0 0), .ref (a 2), .int 0, .int (-1)])), (a 1, .inl (T 2, 120, .inl (fun _ => 0))), (a 2, .inl (T 1, 3, .inl (fun _ => 0)))]
abbrev rowsW (T : Nat → ClassId) (a : Nat → Nat) (s : Nat) : va_W := (List.range 9).map (fun i => (a (s + i), .inl (T 0, 201, .inr (.inl (fun _ => 0)))))
abbrev wW (T : Nat → ClassId) (a : Nat → Nat) (f1 f2 : Nat → Option Nat) : va_W := [(a 0, .inr (6, [.ref (a 1), .ref (a 2), .ref (a 3), .ref (a 4)])), (a 1, .inl (T 4, 9, .inr (.inr (.inr (.inr f1))))), (a 2, .inl (T 4, 9, .inr (.inr (.inr (.inr f2))))), (a 3, .inl (T 0, 201, .inr (.inl (fun _ => 0)))), (a 4, .inl (T 0, 9, .inr (.inl (fun _ => 0))))] ++ (rowsW T a 5 ++ rowsW T a 14)
abbrev wP (T : Nat → ClassId) (a : Nat → Nat) (f1 f2 : Nat → Option Nat) : va_W := (a 0, .inr (3, [.ref (a 1), .int 0, .int (-1), .ref (a 6)])) :: (wB T (fun i => a (1 + i)) ++ wW T (fun i => a (6 + i)) f1 f2)
abbrev wL0 (E : Nat → Nat → Nat) (a : Nat → Nat) (T : Nat → ClassId) : va_W := wL E a T 0 0 0 0 1 100 1 (fun _ => 0) (fun _ => 0) (fun _ => 0) pe0 (fun _ => 0) (fun _ => 0) 0 (fun j => j) 0 0 1 100 1 (fun _ => 0) (fun _ => 0) (fun _ => 0) pe0 (fun _ => 0) (fun _ => 0) 0 0 1 100 1 (fun _ => 0) (fun _ => 0) (fun _ => 0) pe0 (fun _ => 0) (fun _ => 0) 0 0 1 100 1 (fun _ => 0) (fun _ => 0) (fun _ => 0) pe0 (fun _ => 0) (fun _ => 0) 0 0 0 (-1) (fun _ => 0) (fun _ => 0) (fun _ _ => 0) (fun _ _ => 0) (fun _ => 0) (fun _ => 0) 0 (-1) 0 0 1 100 1 (fun _ => 0) (fun _ => 0) (fun _ => 0) pe0 (fun _ _ => 0) (fun _ _ => 0) (fun _ => 0) (fun _ => 0)
def m00 : Nat → Int64 := vp_updL (vp_updL (vp_updL (vp_updL (fun _ => 0) 18 1) 19 100) 20 1) 22 100000
abbrev wR0 (a : Nat → Nat) (T : Nat → ClassId) : va_W := wR a T m00 (fun _ => 0) (0) (fun _ => 0) (0) (0) (0) (fun _ => 0) (fun _ => 0) (0) (fun _ => 0) (fun _ => 0) (fun _ => 0) (fun _ => 0) (fun _ => 0) (0) (0) (0) (0) (0) (0) (0) (0) (0) (0) (0) (fun _ => 0) (0)
set_option maxRecDepth 100000 in
set_option maxHeartbeats 4000000 in
theorem Ci_B {T : Nat → ClassId} {E : Nat → Nat → Nat} {b : Nat} {D : va_G} : MetA (SFK E) yX1_init cX1_init 1 { frames := 1, cells := 4, slots := 24, locals := 20 } D T [.ref b] [(b, .inr (0, [.int 0, .null, .null, .int 0, .int 0, .int 0, .int 0, .null, .null]))] (fun w1 => ∃ a, a 0 = b ∧ w1 = wB T a) 4 24 := by
  refine MetA.of [(0, .ref b)] (by decide) rfl (Nat.le_of_ble_eq_true rfl) rfl ⟨rfl, rfl⟩ (fun X C hcap hini hret => ?_)
  refine v_aload_n 0 C dX1_init_0 rfl rfl ?_
  refine v_objInit wmethodLink_RX1_3_java_lang_Object_init_V C (by decide) dX1_init_1 ?_
  refine v_aload_n 0 C dX1_init_4 rfl rfl ?_
  refine v_iconst (v := 0) C dX1_init_5 (by decide) ?_
  refine v_putAny (q0 := 0) (ci := 0) (Cn := RX1) (TT := TX1) (NN := 9) (ws' := [(b, .inr (0, [.int 0, .null, .null, .int 0, .int 0, .int 0, .int 0, .null, .null]))]) tyX1 inG1 tyX1_ok nmX1 rfl rfl 0 (by decide) wfieldLink_RX1_9_LineEchoes_Bench_count_I (Or.inl rfl) (tyX1_ok 0 (by decide)) rfl rfl (Nat.le_of_ble_eq_true rfl) rfl C dX1_init_6 ?_
  refine v_aload_n 0 C dX1_init_9 rfl rfl ?_
  refine v_bipush (v := 8) C dX1_init_10 (by decide) ?_
  refine v_newI 8 (by decide) (by decide) (by decide) C (hcap.mono (Nat.le_of_ble_eq_true rfl) (Nat.le_of_ble_eq_true rfl)) dX1_init_12 (fun q1 => ?_)
  refine v_putAny (q0 := 0) (ci := 0) (Cn := RX1) (TT := TX1) (NN := 9) (ws' := ([(b, .inr (0, [.int 0, .ref q1, .null, .int 0, .int 0, .int 0, .int 0, .null, .null]))] ++ [(q1, .inl (T 1, 8, .inl (fun _ => 0)))])) tyX1 inG1 tyX1_ok nmX1 rfl rfl 1 (by decide) wfieldLink_RX1_15_LineEchoes_Bench_lengths_I (Or.inr ⟨hini, rfl⟩) (tyX1_ok 1 (by decide)) rfl rfl (Nat.le_of_ble_eq_true rfl) rfl C dX1_init_14 ?_
  refine v_aload_n 0 C dX1_init_17 rfl rfl ?_
  refine v_bipush (v := 8) C dX1_init_18 (by decide) ?_
  refine v_newI 8 (by decide) (by decide) (by decide) C (hcap.mono (Nat.le_of_ble_eq_true rfl) (Nat.le_of_ble_eq_true rfl)) dX1_init_20 (fun q2 => ?_)
  refine v_putAny (q0 := 0) (ci := 0) (Cn := RX1) (TT := TX1) (NN := 9) (ws' := (([(b, .inr (0, [.int 0, .ref q1, .ref q2, .int 0, .int 0, .int 0, .int 0, .null, .null]))] ++ [(q1, .inl (T 1, 8, .inl (fun _ => 0)))]) ++ [(q2, .inl (T 1, 8, .inl (fun _ => 0)))])) tyX1 inG1 tyX1_ok nmX1 rfl rfl 2 (by decide) wfieldLink_RX1_19_LineEchoes_Bench_fractions_I (Or.inr ⟨hini, rfl⟩) (tyX1_ok 2 (by decide)) rfl rfl (Nat.le_of_ble_eq_true rfl) rfl C dX1_init_22 ?_
  refine v_aload_n 0 C dX1_init_25 rfl rfl ?_
  refine v_iconst (v := 0) C dX1_init_26 (by decide) ?_
  refine v_putAny (q0 := 0) (ci := 0) (Cn := RX1) (TT := TX1) (NN := 9) (ws' := (([(b, .inr (0, [.int 0, .ref q1, .ref q2, .int 0, .int 0, .int 0, .int 0, .null, .null]))] ++ [(q1, .inl (T 1, 8, .inl (fun _ => 0)))]) ++ [(q2, .inl (T 1, 8, .inl (fun _ => 0)))])) tyX1 inG1 tyX1_ok nmX1 rfl rfl 3 (by decide) wfieldLink_RX1_22_LineEchoes_Bench_front_I (Or.inl rfl) (tyX1_ok 3 (by decide)) rfl rfl (Nat.le_of_ble_eq_true rfl) rfl C dX1_init_27 ?_
  refine v_aload_n 0 C dX1_init_30 rfl rfl ?_
  refine v_iconst (v := 1) C dX1_init_31 (by decide) ?_
  refine v_putAny (q0 := 0) (ci := 0) (Cn := RX1) (TT := TX1) (NN := 9) (ws' := (([(b, .inr (0, [.int 0, .ref q1, .ref q2, .int 0, .int 1, .int 0, .int 0, .null, .null]))] ++ [(q1, .inl (T 1, 8, .inl (fun _ => 0)))]) ++ [(q2, .inl (T 1, 8, .inl (fun _ => 0)))])) tyX1 inG1 tyX1_ok nmX1 rfl rfl 4 (by decide) wfieldLink_RX1_25_LineEchoes_Bench_least_I (Or.inl rfl) (tyX1_ok 4 (by decide)) rfl rfl (Nat.le_of_ble_eq_true rfl) rfl C dX1_init_32 ?_
  refine v_aload_n 0 C dX1_init_35 rfl rfl ?_
  refine v_bipush (v := 100) C dX1_init_36 (by decide) ?_
  refine v_putAny (q0 := 0) (ci := 0) (Cn := RX1) (TT := TX1) (NN := 9) (ws' := (([(b, .inr (0, [.int 0, .ref q1, .ref q2, .int 0, .int 1, .int 100, .int 0, .null, .null]))] ++ [(q1, .inl (T 1, 8, .inl (fun _ => 0)))]) ++ [(q2, .inl (T 1, 8, .inl (fun _ => 0)))])) tyX1 inG1 tyX1_ok nmX1 rfl rfl 5 (by decide) wfieldLink_RX1_28_LineEchoes_Bench_window_I (Or.inl rfl) (tyX1_ok 5 (by decide)) rfl rfl (Nat.le_of_ble_eq_true rfl) rfl C dX1_init_38 ?_
  refine v_aload_n 0 C dX1_init_41 rfl rfl ?_
  refine v_iconst (v := 1) C dX1_init_42 (by decide) ?_
  refine v_putAny (q0 := 0) (ci := 0) (Cn := RX1) (TT := TX1) (NN := 9) (ws' := (([(b, .inr (0, [.int 0, .ref q1, .ref q2, .int 0, .int 1, .int 100, .int 1, .null, .null]))] ++ [(q1, .inl (T 1, 8, .inl (fun _ => 0)))]) ++ [(q2, .inl (T 1, 8, .inl (fun _ => 0)))])) tyX1 inG1 tyX1_ok nmX1 rfl rfl 6 (by decide) wfieldLink_RX1_31_LineEchoes_Bench_pulses_I (Or.inl rfl) (tyX1_ok 6 (by decide)) rfl rfl (Nat.le_of_ble_eq_true rfl) rfl C dX1_init_43 ?_
  refine v_aload_n 0 C dX1_init_46 rfl rfl ?_
  refine v_iconst (v := 4) C dX1_init_47 (by decide) ?_
  refine v_newI 4 (by decide) (by decide) (by decide) C (hcap.mono (Nat.le_of_ble_eq_true rfl) (Nat.le_of_ble_eq_true rfl)) dX1_init_48 (fun q3 => ?_)
  refine v_putAny (q0 := 0) (ci := 0) (Cn := RX1) (TT := TX1) (NN := 9) (ws' := ((([(b, .inr (0, [.int 0, .ref q1, .ref q2, .int 0, .int 1, .int 100, .int 1, .ref q3, .null]))] ++ [(q1, .inl (T 1, 8, .inl (fun _ => 0)))]) ++ [(q2, .inl (T 1, 8, .inl (fun _ => 0)))]) ++ [(q3, .inl (T 1, 4, .inl (fun _ => 0)))])) tyX1 inG1 tyX1_ok nmX1 rfl rfl 7 (by decide) wfieldLink_RX1_34_LineEchoes_Bench_pulseTimes_I (Or.inr ⟨hini, rfl⟩) (tyX1_ok 7 (by decide)) rfl rfl (Nat.le_of_ble_eq_true rfl) rfl C dX1_init_50 ?_
  refine v_aload_n 0 C dX1_init_53 rfl rfl ?_
  refine v_iconst (v := 4) C dX1_init_54 (by decide) ?_
  refine v_newI 4 (by decide) (by decide) (by decide) C (hcap.mono (Nat.le_of_ble_eq_true rfl) (Nat.le_of_ble_eq_true rfl)) dX1_init_55 (fun q4 => ?_)
  refine v_putAny (q0 := 0) (ci := 0) (Cn := RX1) (TT := TX1) (NN := 9) (ws' := (((([(b, .inr (0, [.int 0, .ref q1, .ref q2, .int 0, .int 1, .int 100, .int 1, .ref q3, .ref q4]))] ++ [(q1, .inl (T 1, 8, .inl (fun _ => 0)))]) ++ [(q2, .inl (T 1, 8, .inl (fun _ => 0)))]) ++ [(q3, .inl (T 1, 4, .inl (fun _ => 0)))]) ++ [(q4, .inl (T 1, 4, .inl (fun _ => 0)))])) tyX1 inG1 tyX1_ok nmX1 rfl rfl 8 (by decide) wfieldLink_RX1_37_LineEchoes_Bench_pulseEnergies_I (Or.inr ⟨hini, rfl⟩) (tyX1_ok 8 (by decide)) rfl rfl (Nat.le_of_ble_eq_true rfl) rfl C dX1_init_57 ?_
  refine v_aload_n 0 C dX1_init_60 rfl rfl ?_
  refine v_getAny (q0 := 0) (ci := 0) (Cn := RX1) (TT := TX1) (NN := 9) inG1 rfl rfl 8 (by decide) wfieldLink_RX1_37_LineEchoes_Bench_pulseEnergies_I rfl C dX1_init_61 ?_
  refine v_iconst (v := 0) C dX1_init_64 (by decide) ?_
  refine v_ldcI wconstant_RX1_40_100000 C dX1_init_65 ?_
  refine v_iasAny (q0 := 4) (ws' := (((([(b, .inr (0, [.int 0, .ref q1, .ref q2, .int 0, .int 1, .int 100, .int 1, .ref q3, .ref q4]))] ++ [(q1, .inl (T 1, 8, .inl (fun _ => 0)))]) ++ [(q2, .inl (T 1, 8, .inl (fun _ => 0)))]) ++ [(q3, .inl (T 1, 4, .inl (fun _ => 0)))]) ++ [(q4, .inl (T 1, 4, .inl (upd (fun _ => 0) 0 100000)))])) rfl (vp_in_iff.mpr (by decide)) rfl C dX1_init_67 ?_
  refine v_widen (k' := 4) (n' := 24) (Nat.le_of_ble_eq_true rfl) (Nat.le_of_ble_eq_true rfl) ?_
  exact v_vret C (hret _ ⟨fun i => if i < 1 then b else if i < 2 then q1 else if i < 3 then q2 else if i < 4 then q3 else q4, rfl, rfl⟩) dX1_init_68
set_option maxRecDepth 100000 in
set_option maxHeartbeats 4000000 in
theorem Ci_S {T : Nat → ClassId} {E : Nat → Nat → Nat} {b : Nat} {D : va_G} : MetA (SFK E) yX6_init cX6_init 1 { frames := 2, cells := 7, slots := 435, locals := 40 } D T [.ref b] [(b, .inr (5, [.null, .null, .null]))] (fun w1 => ∃ a, a 0 = b ∧ w1 = wS T a) 7 435 := by
  refine MetA.of [(0, .ref b)] (by decide) rfl (Nat.le_of_ble_eq_true rfl) rfl ⟨rfl, rfl⟩ (fun X C hcap hini hret => ?_)
  refine v_aload_n 0 C dX6_init_0 rfl rfl ?_
  refine v_objInit wmethodLink_RX6_3_java_lang_Object_init_V C (by decide) dX6_init_1 ?_
  refine v_aload_n 0 C dX6_init_4 rfl rfl ?_
  refine v_mk (ci := 0) (Cn := RX1) (TT := TX1) (NN := 9) (y := yX1_init) (cc' := cX1_init) (nL' := 1) (mc := 4) (ms := 24) (rm := { frames := 1, cells := 4, slots := 24, locals := 20 }) (Wq := fun b w1 => ∃ a, a 0 = b ∧ w1 = wB T a) tyX1 inG1 tyX1_ok wclassLink_RX6_9_LineEchoes_Bench winstantiable_RX1_9 winitialized_RX1 rfl (by decide) (fun q D => Ci_B) wmethodLink_RX6_11_yX1_init winstanceMethod_yX1_init winitialized_RX1 wcode_yX1_init_cX1_init_1_none rfl (by decide +kernel) (by decide) ⟨rfl, rfl⟩ (Nat.le_of_ble_eq_true rfl) C (hcap.mono (Nat.le_of_ble_eq_true rfl) (Nat.le_of_ble_eq_true rfl)) dX6_init_5 dX6_init_8 dX6_init_9 (fun q9 w9 hw9 => ?_)
  obtain ⟨a1, hq, rfl⟩ := hw9
  subst hq
  refine v_putAny (q0 := 0) (ci := 5) (Cn := RX6) (TT := TX6) (NN := 3) (ws' := ([(b, .inr (5, [.ref (a1 0), .null, .null]))] ++ wB T a1)) tyX6 inG6 tyX6_ok nmX6 rfl rfl 0 (by decide) wfieldLink_RX6_12_LineEchoes_State_bench_LLineEchoes_Bench (Or.inr ⟨hini, rfl⟩) (tyX6_ok 0 (by decide)) rfl rfl (Nat.le_of_ble_eq_true rfl) rfl C dX6_init_12 ?_
  refine v_aload_n 0 C dX6_init_15 rfl rfl ?_
  refine v_sipush (v := 201) C dX6_init_16 (by decide) ?_
  refine v_newJ 201 (by decide) (by decide) (by decide) C (hcap.mono (Nat.le_of_ble_eq_true rfl) (Nat.le_of_ble_eq_true rfl)) dX6_init_19 (fun q1 => ?_)
  refine v_putAny (q0 := 0) (ci := 5) (Cn := RX6) (TT := TX6) (NN := 3) (ws' := (([(b, .inr (5, [.ref (a1 0), .ref q1, .null]))] ++ wB T a1) ++ [(q1, .inl (T 0, 201, .inr (.inl (fun _ => 0))))])) tyX6 inG6 tyX6_ok nmX6 rfl rfl 1 (by decide) wfieldLink_RX6_18_LineEchoes_State_sound_J (Or.inr ⟨hini, rfl⟩) (tyX6_ok 1 (by decide)) rfl rfl (Nat.le_of_ble_eq_true rfl) rfl C dX6_init_21 ?_
  refine v_aload_n 0 C dX6_init_24 rfl rfl ?_
  refine v_sipush (v := 201) C dX6_init_25 (by decide) ?_
  refine v_newJ 201 (by decide) (by decide) (by decide) C (hcap.mono (Nat.le_of_ble_eq_true rfl) (Nat.le_of_ble_eq_true rfl)) dX6_init_28 (fun q2 => ?_)
  refine v_putAny (q0 := 0) (ci := 5) (Cn := RX6) (TT := TX6) (NN := 3) (ws' := ((([(b, .inr (5, [.ref (a1 0), .ref q1, .ref q2]))] ++ wB T a1) ++ [(q1, .inl (T 0, 201, .inr (.inl (fun _ => 0))))]) ++ [(q2, .inl (T 0, 201, .inr (.inl (fun _ => 0))))])) tyX6 inG6 tyX6_ok nmX6 rfl rfl 2 (by decide) wfieldLink_RX6_22_LineEchoes_State_seen_J (Or.inr ⟨hini, rfl⟩) (tyX6_ok 2 (by decide)) rfl rfl (Nat.le_of_ble_eq_true rfl) rfl C dX6_init_30 ?_
  refine v_widen (k' := 7) (n' := 435) (Nat.le_of_ble_eq_true rfl) (Nat.le_of_ble_eq_true rfl) ?_
  exact v_vret C (hret _ ⟨fun i => if i < 1 then b else if i < 6 then a1 (i - 1) else if i < 7 then q1 else q2, rfl, rfl⟩) dX6_init_33
set_option maxRecDepth 100000 in
set_option maxHeartbeats 4000000 in
theorem Ci_H {T : Nat → ClassId} {E : Nat → Nat → Nat} {b : Nat} {D : va_G} : MetA (SFK E) yX3_init cX3_init 2 { frames := 3, cells := 25, slots := 1317, locals := 60 } D T [.ref b] [(b, .inr (2, [.null, .int 0]))] (fun w1 => ∃ a f, (a 0 = b ∧ ∀ j, j < 3 → f j = some (a (2 + 8 * j))) ∧ w1 = wH T a f) 25 1317 := by
  refine MetA.of [(0, .ref b)] (by decide) rfl (Nat.le_of_ble_eq_true rfl) rfl ⟨rfl, rfl⟩ (fun X C hcap hini hret => ?_)
  refine v_aload_n 0 C dX3_init_0 rfl rfl ?_
  refine v_objInit wmethodLink_RX3_3_java_lang_Object_init_V C (by decide) dX3_init_1 ?_
  refine v_aload_n 0 C dX3_init_4 rfl rfl ?_
  refine v_iconst (v := 3) C dX3_init_5 (by decide) ?_
  refine v_newS 3 (by decide) (by decide) (by decide) wclassLink_RX3_9_LineEchoes_State (fun _ _ _ h => h.2.1) C (hcap.mono (Nat.le_of_ble_eq_true rfl) (Nat.le_of_ble_eq_true rfl)) dX3_init_6 (fun q1 => ?_)
  refine v_putAny (q0 := 0) (ci := 2) (Cn := RX3) (TT := TX3) (NN := 2) (ws' := ([(b, .inr (2, [.ref q1, .int 0]))] ++ [(q1, .inl (T 3, 3, .inr (.inr (.inr (.inr (fun _ => none))))))])) tyX3 inG3 tyX3_ok nmX3 rfl rfl 0 (by decide) wfieldLink_RX3_11_LineEchoes_History_states_LLineEchoes_State (Or.inr ⟨hini, rfl⟩) (tyX3_ok 0 (by decide)) rfl rfl (Nat.le_of_ble_eq_true rfl) rfl C dX3_init_9 ?_
  refine v_iconst (v := 0) C dX3_init_12 (by decide) ?_
  refine v_istore_n [(0, .ref b), (1, .int 0)] [1, 0] C dX3_init_13 rfl (by decide) rfl ?_
  refine v_iload_n 1 C dX3_init_14 rfl rfl ?_
  refine v_iconst (v := 3) C dX3_init_15 (by decide) ?_
  refine v_icmp_ge (e1 := ()) (e2 := ()) (o := ()) 38 C dX3_init_16 (by decide) (by split <;> rfl) (fun h9 _ => absurd h9 (by decide)) (fun h9 _ => ?_)
  refine v_aload_n 0 C dX3_init_19 rfl rfl ?_
  refine v_getAny (q0 := 0) (ci := 2) (Cn := RX3) (TT := TX3) (NN := 2) inG3 rfl rfl 0 (by decide) wfieldLink_RX3_11_LineEchoes_History_states_LLineEchoes_State rfl C dX3_init_20 ?_
  refine v_iload_n 1 C dX3_init_23 rfl rfl ?_
  refine v_mk (ci := 5) (Cn := RX6) (TT := TX6) (NN := 3) (y := yX6_init) (cc' := cX6_init) (nL' := 1) (mc := 7) (ms := 435) (rm := { frames := 2, cells := 7, slots := 435, locals := 40 }) (Wq := fun b w1 => ∃ a, a 0 = b ∧ w1 = wS T a) tyX6 inG6 tyX6_ok wclassLink_RX3_9_LineEchoes_State winstantiable_RX6_3 winitialized_RX6 rfl (by decide) (fun q D => Ci_S) wmethodLink_RX3_17_yX6_init winstanceMethod_yX6_init winitialized_RX6 wcode_yX6_init_cX6_init_1_none rfl (by decide +kernel) (by decide) ⟨rfl, rfl⟩ (Nat.le_of_ble_eq_true rfl) C (hcap.mono (Nat.le_of_ble_eq_true rfl) (Nat.le_of_ble_eq_true rfl)) dX3_init_24 dX3_init_27 dX3_init_28 (fun q9 w9 hw9 => ?_)
  obtain ⟨a1, hq, rfl⟩ := hw9
  subst hq
  refine v_sasAny (q0 := 1) (qk := 2) (ws' := (([(b, .inr (2, [.ref q1, .int 0]))] ++ [(q1, .inl (T 3, 3, .inr (.inr (.inr (.inr (va_up (fun _ => none) 0 (some (a1 0))))))))]) ++ wS T a1)) rfl rfl (vp_in_iff.mpr (by decide)) rfl C dX3_init_31 ?_
  refine v_iinc (j := 1) (K := fun z => z) (o := 1) (dv := 1) (fun v => [(0, .ref b), (1, .int v)]) [1, 0] C dX3_init_32 rfl (by decide) (by decide) (fun v => rfl) (by decide) (fun v hv => ?_)
  subst hv
  refine v_goto 14 C dX3_init_35 (by decide) ?_
  refine v_iload_n 1 C dX3_init_14 rfl rfl ?_
  refine v_iconst (v := 3) C dX3_init_15 (by decide) ?_
  refine v_icmp_ge (e1 := ()) (e2 := ()) (o := ()) 38 C dX3_init_16 (by decide) (by split <;> rfl) (fun h9 _ => absurd h9 (by decide)) (fun h9 _ => ?_)
  refine v_aload_n 0 C dX3_init_19 rfl rfl ?_
  refine v_getAny (q0 := 0) (ci := 2) (Cn := RX3) (TT := TX3) (NN := 2) inG3 rfl rfl 0 (by decide) wfieldLink_RX3_11_LineEchoes_History_states_LLineEchoes_State rfl C dX3_init_20 ?_
  refine v_iload_n 1 C dX3_init_23 rfl rfl ?_
  refine v_mk (ci := 5) (Cn := RX6) (TT := TX6) (NN := 3) (y := yX6_init) (cc' := cX6_init) (nL' := 1) (mc := 7) (ms := 435) (rm := { frames := 2, cells := 7, slots := 435, locals := 40 }) (Wq := fun b w1 => ∃ a, a 0 = b ∧ w1 = wS T a) tyX6 inG6 tyX6_ok wclassLink_RX3_9_LineEchoes_State winstantiable_RX6_3 winitialized_RX6 rfl (by decide) (fun q D => Ci_S) wmethodLink_RX3_17_yX6_init winstanceMethod_yX6_init winitialized_RX6 wcode_yX6_init_cX6_init_1_none rfl (by decide +kernel) (by decide) ⟨rfl, rfl⟩ (Nat.le_of_ble_eq_true rfl) C (hcap.mono (Nat.le_of_ble_eq_true rfl) (Nat.le_of_ble_eq_true rfl)) dX3_init_24 dX3_init_27 dX3_init_28 (fun q9 w9 hw9 => ?_)
  obtain ⟨a2, hq, rfl⟩ := hw9
  subst hq
  refine v_sasAny (q0 := 1) (qk := 10) (ws' := ((([(b, .inr (2, [.ref q1, .int 0]))] ++ [(q1, .inl (T 3, 3, .inr (.inr (.inr (.inr (va_up (va_up (fun _ => none) 0 (some (a1 0))) 1 (some (a2 0))))))))]) ++ wS T a1) ++ wS T a2)) rfl rfl (vp_in_iff.mpr (by decide)) rfl C dX3_init_31 ?_
  refine v_iinc (j := 1) (K := fun z => z) (o := 2) (dv := 1) (fun v => [(0, .ref b), (1, .int v)]) [1, 0] C dX3_init_32 rfl (by decide) (by decide) (fun v => rfl) (by decide) (fun v hv => ?_)
  subst hv
  refine v_goto 14 C dX3_init_35 (by decide) ?_
  refine v_iload_n 1 C dX3_init_14 rfl rfl ?_
  refine v_iconst (v := 3) C dX3_init_15 (by decide) ?_
  refine v_icmp_ge (e1 := ()) (e2 := ()) (o := ()) 38 C dX3_init_16 (by decide) (by split <;> rfl) (fun h9 _ => absurd h9 (by decide)) (fun h9 _ => ?_)
  refine v_aload_n 0 C dX3_init_19 rfl rfl ?_
  refine v_getAny (q0 := 0) (ci := 2) (Cn := RX3) (TT := TX3) (NN := 2) inG3 rfl rfl 0 (by decide) wfieldLink_RX3_11_LineEchoes_History_states_LLineEchoes_State rfl C dX3_init_20 ?_
  refine v_iload_n 1 C dX3_init_23 rfl rfl ?_
  refine v_mk (ci := 5) (Cn := RX6) (TT := TX6) (NN := 3) (y := yX6_init) (cc' := cX6_init) (nL' := 1) (mc := 7) (ms := 435) (rm := { frames := 2, cells := 7, slots := 435, locals := 40 }) (Wq := fun b w1 => ∃ a, a 0 = b ∧ w1 = wS T a) tyX6 inG6 tyX6_ok wclassLink_RX3_9_LineEchoes_State winstantiable_RX6_3 winitialized_RX6 rfl (by decide) (fun q D => Ci_S) wmethodLink_RX3_17_yX6_init winstanceMethod_yX6_init winitialized_RX6 wcode_yX6_init_cX6_init_1_none rfl (by decide +kernel) (by decide) ⟨rfl, rfl⟩ (Nat.le_of_ble_eq_true rfl) C (hcap.mono (Nat.le_of_ble_eq_true rfl) (Nat.le_of_ble_eq_true rfl)) dX3_init_24 dX3_init_27 dX3_init_28 (fun q9 w9 hw9 => ?_)
  obtain ⟨a3, hq, rfl⟩ := hw9
  subst hq
  refine v_sasAny (q0 := 1) (qk := 18) (ws' := (((([(b, .inr (2, [.ref q1, .int 0]))] ++ [(q1, .inl (T 3, 3, .inr (.inr (.inr (.inr (va_up (va_up (va_up (fun _ => none) 0 (some (a1 0))) 1 (some (a2 0))) 2 (some (a3 0))))))))]) ++ wS T a1) ++ wS T a2) ++ wS T a3)) rfl rfl (vp_in_iff.mpr (by decide)) rfl C dX3_init_31 ?_
  refine v_iinc (j := 1) (K := fun z => z) (o := 3) (dv := 1) (fun v => [(0, .ref b), (1, .int v)]) [1, 0] C dX3_init_32 rfl (by decide) (by decide) (fun v => rfl) (by decide) (fun v hv => ?_)
  subst hv
  refine v_goto 14 C dX3_init_35 (by decide) ?_
  refine v_iload_n 1 C dX3_init_14 rfl rfl ?_
  refine v_iconst (v := 3) C dX3_init_15 (by decide) ?_
  refine v_icmp_ge (e1 := ()) (e2 := ()) (o := ()) 38 C dX3_init_16 (by decide) (by split <;> rfl) (fun h9 _ => ?_) (fun h9 _ => absurd (by decide) h9)
  refine v_aload_n 0 C dX3_init_38 rfl rfl ?_
  refine v_iconst (v := 0) C dX3_init_39 (by decide) ?_
  refine v_putAny (q0 := 0) (ci := 2) (Cn := RX3) (TT := TX3) (NN := 2) (ws' := (((([(b, .inr (2, [.ref q1, .int 0]))] ++ [(q1, .inl (T 3, 3, .inr (.inr (.inr (.inr (va_up (va_up (va_up (fun _ => none) 0 (some (a1 0))) 1 (some (a2 0))) 2 (some (a3 0))))))))]) ++ wS T a1) ++ wS T a2) ++ wS T a3)) tyX3 inG3 tyX3_ok nmX3 rfl rfl 1 (by decide) wfieldLink_RX3_18_LineEchoes_History_count_I (Or.inl rfl) (tyX3_ok 1 (by decide)) rfl rfl (Nat.le_of_ble_eq_true rfl) rfl C dX3_init_40 ?_
  refine v_widen (k' := 25) (n' := 1317) (Nat.le_of_ble_eq_true rfl) (Nat.le_of_ble_eq_true rfl) ?_
  refine v_vret C (hret _ ⟨fun i => if i < 1 then b else if i < 2 then q1 else if i < 10 then a1 (i - 2) else if i < 18 then a2 (i - 10) else a3 (i - 18), _, ⟨rfl, fun j hj => ?_⟩, rfl⟩) dX3_init_43
  rcases (show j = 0 ∨ j = 1 ∨ j = 2 by omega) with rfl | rfl | rfl <;> rfl
set_option maxRecDepth 100000 in
set_option maxHeartbeats 4000000 in
theorem Ci_C {T : Nat → ClassId} {E : Nat → Nat → Nat} {b : Nat} {D : va_G} : MetA (SFK E) yX5_init cX5_init 1 { frames := 1, cells := 2, slots := 123, locals := 20 } D T [.ref b] [(b, .inr (4, [.null, .int 0, .null, .null, .int 0, .int 0]))] (fun w1 => ∃ a, a 0 = b ∧ w1 = wC E T a) 2 123 := by
  refine MetA.of [(0, .ref b)] (by decide) rfl (Nat.le_of_ble_eq_true rfl) rfl ⟨rfl, rfl⟩ (fun X C hcap hini hret => ?_)
  refine v_aload_n 0 C dX5_init_0 rfl rfl ?_
  refine v_objInit wmethodLink_RX5_3_java_lang_Object_init_V C (by decide) dX5_init_1 ?_
  refine v_aload_n 0 C dX5_init_4 rfl rfl ?_
  refine v_bipush (v := 120) C dX5_init_5 (by decide) ?_
  refine v_newB 120 (by decide) (by decide) (by decide) C (hcap.mono (Nat.le_of_ble_eq_true rfl) (Nat.le_of_ble_eq_true rfl)) dX5_init_7 (fun q1 => ?_)
  refine v_putAny (q0 := 0) (ci := 4) (Cn := RX5) (TT := TX5) (NN := 6) (ws' := ([(b, .inr (4, [.ref q1, .int 0, .null, .null, .int 0, .int 0]))] ++ [(q1, .inl (T 2, 120, .inl (fun _ => 0)))])) tyX5 inG5 tyX5_ok nmX5 rfl rfl 0 (by decide) wfieldLink_RX5_9_LineEchoes_Script_bytes_B (Or.inr ⟨hini, rfl⟩) (tyX5_ok 0 (by decide)) rfl rfl (Nat.le_of_ble_eq_true rfl) rfl C dX5_init_9 ?_
  refine v_aload_n 0 C dX5_init_12 rfl rfl ?_
  refine v_iconst (v := 0) C dX5_init_13 (by decide) ?_
  refine v_putAny (q0 := 0) (ci := 4) (Cn := RX5) (TT := TX5) (NN := 6) (ws' := ([(b, .inr (4, [.ref q1, .int 0, .null, .null, .int 0, .int 0]))] ++ [(q1, .inl (T 2, 120, .inl (fun _ => 0)))])) tyX5 inG5 tyX5_ok nmX5 rfl rfl 1 (by decide) wfieldLink_RX5_15_LineEchoes_Script_length_I (Or.inl rfl) (tyX5_ok 1 (by decide)) rfl rfl (Nat.le_of_ble_eq_true rfl) rfl C dX5_init_14 ?_
  refine v_aload_n 0 C dX5_init_17 rfl rfl ?_
  refine v_part0 wfieldLink_RX5_19_LineEchoes_Command_PART_LLineEchoes_Command C dX5_init_18 ?_
  refine v_putAny (q0 := 0) (ci := 4) (Cn := RX5) (TT := TX5) (NN := 6) (ws' := ([(b, .inr (4, [.ref q1, .int 0, .ref (E 0 0), .null, .int 0, .int 0]))] ++ [(q1, .inl (T 2, 120, .inl (fun _ => 0)))])) tyX5 inG5 tyX5_ok nmX5 rfl rfl 2 (by decide) wfieldLink_RX5_25_LineEchoes_Script_command_LLineEchoes_Command (Or.inl rfl) (tyX5_ok 2 (by decide)) rfl rfl (Nat.le_of_ble_eq_true rfl) rfl C dX5_init_21 ?_
  refine v_aload_n 0 C dX5_init_24 rfl rfl ?_
  refine v_iconst (v := 3) C dX5_init_25 (by decide) ?_
  refine v_newI 3 (by decide) (by decide) (by decide) C (hcap.mono (Nat.le_of_ble_eq_true rfl) (Nat.le_of_ble_eq_true rfl)) dX5_init_26 (fun q2 => ?_)
  refine v_putAny (q0 := 0) (ci := 4) (Cn := RX5) (TT := TX5) (NN := 6) (ws' := (([(b, .inr (4, [.ref q1, .int 0, .ref (E 0 0), .ref q2, .int 0, .int 0]))] ++ [(q1, .inl (T 2, 120, .inl (fun _ => 0)))]) ++ [(q2, .inl (T 1, 3, .inl (fun _ => 0)))])) tyX5 inG5 tyX5_ok nmX5 rfl rfl 3 (by decide) wfieldLink_RX5_28_LineEchoes_Script_numbers_I (Or.inr ⟨hini, rfl⟩) (tyX5_ok 3 (by decide)) rfl rfl (Nat.le_of_ble_eq_true rfl) rfl C dX5_init_28 ?_
  refine v_aload_n 0 C dX5_init_31 rfl rfl ?_
  refine v_iconst (v := 0) C dX5_init_32 (by decide) ?_
  refine v_putAny (q0 := 0) (ci := 4) (Cn := RX5) (TT := TX5) (NN := 6) (ws' := (([(b, .inr (4, [.ref q1, .int 0, .ref (E 0 0), .ref q2, .int 0, .int 0]))] ++ [(q1, .inl (T 2, 120, .inl (fun _ => 0)))]) ++ [(q2, .inl (T 1, 3, .inl (fun _ => 0)))])) tyX5 inG5 tyX5_ok nmX5 rfl rfl 4 (by decide) wfieldLink_RX5_32_LineEchoes_Script_position_I (Or.inl rfl) (tyX5_ok 4 (by decide)) rfl rfl (Nat.le_of_ble_eq_true rfl) rfl C dX5_init_33 ?_
  refine v_aload_n 0 C dX5_init_36 rfl rfl ?_
  refine v_iconst (v := (-1)) C dX5_init_37 (by decide) ?_
  refine v_putAny (q0 := 0) (ci := 4) (Cn := RX5) (TT := TX5) (NN := 6) (ws' := (([(b, .inr (4, [.ref q1, .int 0, .ref (E 0 0), .ref q2, .int 0, .int (-1)]))] ++ [(q1, .inl (T 2, 120, .inl (fun _ => 0)))]) ++ [(q2, .inl (T 1, 3, .inl (fun _ => 0)))])) tyX5 inG5 tyX5_ok nmX5 rfl rfl 5 (by decide) wfieldLink_RX5_35_LineEchoes_Script_fault_I (Or.inl rfl) (tyX5_ok 5 (by decide)) rfl rfl (Nat.le_of_ble_eq_true rfl) rfl C dX5_init_38 ?_
  refine v_widen (k' := 2) (n' := 123) (Nat.le_of_ble_eq_true rfl) (Nat.le_of_ble_eq_true rfl) ?_
  exact v_vret C (hret _ ⟨fun i => if i < 1 then b else if i < 2 then q1 else q2, rfl, rfl⟩) dX5_init_41
set_option maxRecDepth 100000 in
set_option maxHeartbeats 4000000 in
theorem Ci_W {T : Nat → ClassId} {E : Nat → Nat → Nat} {b : Nat} {D : va_G} : MetA (SFK E) yX8_init cX8_init 1 { frames := 1, cells := 22, slots := 3846, locals := 20 } D T [.ref b] [(b, .inr (6, [.null, .null, .null, .null]))] (fun w1 => ∃ a, a 0 = b ∧ w1 = wW T a (rws a 5) (rws a 14)) 22 3846 := by
  refine MetA.of [(0, .ref b)] (by decide) rfl (Nat.le_of_ble_eq_true rfl) rfl ⟨rfl, rfl⟩ (fun X C hcap hini hret => ?_)
  refine v_aload_n 0 C dX8_init_0 rfl rfl ?_
  refine v_objInit wmethodLink_RX8_3_java_lang_Object_init_V C (by decide) dX8_init_1 ?_
  refine v_aload_n 0 C dX8_init_4 rfl rfl ?_
  refine v_bipush (v := 9) C dX8_init_5 (by decide) ?_
  refine v_sipush (v := 201) C dX8_init_7 (by decide) ?_
  refine v_newJJ wclassLink_RX8_9_J (fun _ _ _ h => h.2.2) C (hcap.mono (Nat.le_of_ble_eq_true rfl) (Nat.le_of_ble_eq_true rfl)) dX8_init_10 (fun q1 r1 => ?_)
  refine v_putAny (q0 := 0) (ci := 6) (Cn := RX8) (TT := TX8) (NN := 4) (ws' := (([(b, .inr (6, [.ref q1, .null, .null, .null]))] ++ [(q1, .inl (T 4, 9, .inr (.inr (.inr (.inr (fun i => if i < 9 then some (r1 i) else none))))))]) ++ (List.range 9).map (fun i => (r1 i, .inl (T 0, 201, .inr (.inl (fun _ => 0))))))) tyX8 inG8 tyX8_ok nmX8 rfl rfl 0 (by decide) wfieldLink_RX8_11_LineEchoes_Wave_fromNear_J (Or.inr ⟨hini, rfl⟩) (tyX8_ok 0 (by decide)) rfl rfl (Nat.le_of_ble_eq_true rfl) rfl C dX8_init_14 ?_
  refine v_aload_n 0 C dX8_init_17 rfl rfl ?_
  refine v_bipush (v := 9) C dX8_init_18 (by decide) ?_
  refine v_sipush (v := 201) C dX8_init_20 (by decide) ?_
  refine v_newJJ wclassLink_RX8_9_J (fun _ _ _ h => h.2.2) C (hcap.mono (Nat.le_of_ble_eq_true rfl) (Nat.le_of_ble_eq_true rfl)) dX8_init_23 (fun q2 r2 => ?_)
  refine v_putAny (q0 := 0) (ci := 6) (Cn := RX8) (TT := TX8) (NN := 4) (ws' := (((([(b, .inr (6, [.ref q1, .ref q2, .null, .null]))] ++ [(q1, .inl (T 4, 9, .inr (.inr (.inr (.inr (fun i => if i < 9 then some (r1 i) else none))))))]) ++ (List.range 9).map (fun i => (r1 i, .inl (T 0, 201, .inr (.inl (fun _ => 0)))))) ++ [(q2, .inl (T 4, 9, .inr (.inr (.inr (.inr (fun i => if i < 9 then some (r2 i) else none))))))]) ++ (List.range 9).map (fun i => (r2 i, .inl (T 0, 201, .inr (.inl (fun _ => 0))))))) tyX8 inG8 tyX8_ok nmX8 rfl rfl 1 (by decide) wfieldLink_RX8_16_LineEchoes_Wave_fromFar_J (Or.inr ⟨hini, rfl⟩) (tyX8_ok 1 (by decide)) rfl rfl (Nat.le_of_ble_eq_true rfl) rfl C dX8_init_27 ?_
  refine v_aload_n 0 C dX8_init_30 rfl rfl ?_
  refine v_sipush (v := 201) C dX8_init_31 (by decide) ?_
  refine v_newJ 201 (by decide) (by decide) (by decide) C (hcap.mono (Nat.le_of_ble_eq_true rfl) (Nat.le_of_ble_eq_true rfl)) dX8_init_34 (fun q3 => ?_)
  refine v_putAny (q0 := 0) (ci := 6) (Cn := RX8) (TT := TX8) (NN := 4) (ws' := ((((([(b, .inr (6, [.ref q1, .ref q2, .ref q3, .null]))] ++ [(q1, .inl (T 4, 9, .inr (.inr (.inr (.inr (fun i => if i < 9 then some (r1 i) else none))))))]) ++ (List.range 9).map (fun i => (r1 i, .inl (T 0, 201, .inr (.inl (fun _ => 0)))))) ++ [(q2, .inl (T 4, 9, .inr (.inr (.inr (.inr (fun i => if i < 9 then some (r2 i) else none))))))]) ++ (List.range 9).map (fun i => (r2 i, .inl (T 0, 201, .inr (.inl (fun _ => 0)))))) ++ [(q3, .inl (T 0, 201, .inr (.inl (fun _ => 0))))])) tyX8 inG8 tyX8_ok nmX8 rfl rfl 2 (by decide) wfieldLink_RX8_19_LineEchoes_Wave_echoes_J (Or.inr ⟨hini, rfl⟩) (tyX8_ok 2 (by decide)) rfl rfl (Nat.le_of_ble_eq_true rfl) rfl C dX8_init_36 ?_
  refine v_aload_n 0 C dX8_init_39 rfl rfl ?_
  refine v_bipush (v := 9) C dX8_init_40 (by decide) ?_
  refine v_newJ 9 (by decide) (by decide) (by decide) C (hcap.mono (Nat.le_of_ble_eq_true rfl) (Nat.le_of_ble_eq_true rfl)) dX8_init_42 (fun q4 => ?_)
  refine v_putAny (q0 := 0) (ci := 6) (Cn := RX8) (TT := TX8) (NN := 4) (ws' := (((((([(b, .inr (6, [.ref q1, .ref q2, .ref q3, .ref q4]))] ++ [(q1, .inl (T 4, 9, .inr (.inr (.inr (.inr (fun i => if i < 9 then some (r1 i) else none))))))]) ++ (List.range 9).map (fun i => (r1 i, .inl (T 0, 201, .inr (.inl (fun _ => 0)))))) ++ [(q2, .inl (T 4, 9, .inr (.inr (.inr (.inr (fun i => if i < 9 then some (r2 i) else none))))))]) ++ (List.range 9).map (fun i => (r2 i, .inl (T 0, 201, .inr (.inl (fun _ => 0)))))) ++ [(q3, .inl (T 0, 201, .inr (.inl (fun _ => 0))))]) ++ [(q4, .inl (T 0, 9, .inr (.inl (fun _ => 0))))])) tyX8 inG8 tyX8_ok nmX8 rfl rfl 3 (by decide) wfieldLink_RX8_23_LineEchoes_Wave_totals_J (Or.inr ⟨hini, rfl⟩) (tyX8_ok 3 (by decide)) rfl rfl (Nat.le_of_ble_eq_true rfl) rfl C dX8_init_44 ?_
  refine v_widen (k' := 22) (n' := 3846) (Nat.le_of_ble_eq_true rfl) (Nat.le_of_ble_eq_true rfl) ?_
  refine v_perm (perm_wave _ _ _ _ _ _ _) ?_
  have e1 : (fun i => if i < 9 then some (r1 i) else none) = rws (fun i => if i < 1 then b else if i < 2 then q1 else if i < 3 then q2 else if i < 4 then q3 else if i < 5 then q4 else if i < 14 then r1 (i - 5) else r2 (i - 14)) 5 := by
    funext i
    unfold rws
    by_cases h : i < 9
    · rw [if_pos h, if_pos h]
      simp (disch := omega) only [if_neg, if_pos]
      rw [show 5 + i - 5 = i by omega]
    · rw [if_neg h, if_neg h]
  have e2 : (fun i => if i < 9 then some (r2 i) else none) = rws (fun i => if i < 1 then b else if i < 2 then q1 else if i < 3 then q2 else if i < 4 then q3 else if i < 5 then q4 else if i < 14 then r1 (i - 5) else r2 (i - 14)) 14 := by
    funext i
    unfold rws
    by_cases h : i < 9
    · rw [if_pos h, if_pos h]
      simp (disch := omega) only [if_neg, if_pos]
      rw [show 14 + i - 14 = i by omega]
    · rw [if_neg h, if_neg h]
  rw [e1, e2]
  exact v_vret C (hret _ ⟨fun i => if i < 1 then b else if i < 2 then q1 else if i < 3 then q2 else if i < 4 then q3 else if i < 5 then q4 else if i < 14 then r1 (i - 5) else r2 (i - 14), rfl, rfl⟩) dX8_init_47
set_option maxRecDepth 100000 in
set_option maxHeartbeats 4000000 in
theorem Ci_P {T : Nat → ClassId} {E : Nat → Nat → Nat} {b : Nat} {D : va_G} : MetA (SFK E) yX4_init cX4_init 1 { frames := 2, cells := 28, slots := 3883, locals := 40 } D T [.ref b] [(b, .inr (3, [.null, .int 0, .int 0, .null]))] (fun w1 => ∃ a, a 0 = b ∧ w1 = wP T a (rws a 11) (rws a 20)) 28 3883 := by
  refine MetA.of [(0, .ref b)] (by decide) rfl (Nat.le_of_ble_eq_true rfl) rfl ⟨rfl, rfl⟩ (fun X C hcap hini hret => ?_)
  refine v_aload_n 0 C dX4_init_0 rfl rfl ?_
  refine v_objInit wmethodLink_RX4_3_java_lang_Object_init_V C (by decide) dX4_init_1 ?_
  refine v_aload_n 0 C dX4_init_4 rfl rfl ?_
  refine v_mk (ci := 0) (Cn := RX1) (TT := TX1) (NN := 9) (y := yX1_init) (cc' := cX1_init) (nL' := 1) (mc := 4) (ms := 24) (rm := { frames := 1, cells := 4, slots := 24, locals := 20 }) (Wq := fun b w1 => ∃ a, a 0 = b ∧ w1 = wB T a) tyX1 inG1 tyX1_ok wclassLink_RX4_9_LineEchoes_Bench winstantiable_RX1_9 winitialized_RX1 rfl (by decide) (fun q D => Ci_B) wmethodLink_RX4_11_yX1_init winstanceMethod_yX1_init winitialized_RX1 wcode_yX1_init_cX1_init_1_none rfl (by decide +kernel) (by decide) ⟨rfl, rfl⟩ (Nat.le_of_ble_eq_true rfl) C (hcap.mono (Nat.le_of_ble_eq_true rfl) (Nat.le_of_ble_eq_true rfl)) dX4_init_5 dX4_init_8 dX4_init_9 (fun q9 w9 hw9 => ?_)
  obtain ⟨a1, hq, rfl⟩ := hw9
  subst hq
  refine v_putAny (q0 := 0) (ci := 3) (Cn := RX4) (TT := TX4) (NN := 4) (ws' := ([(b, .inr (3, [.ref (a1 0), .int 0, .int 0, .null]))] ++ wB T a1)) tyX4 inG4 tyX4_ok nmX4 rfl rfl 0 (by decide) wfieldLink_RX4_12_LineEchoes_Peeling_line_LLineEchoes_Bench (Or.inr ⟨hini, rfl⟩) (tyX4_ok 0 (by decide)) rfl rfl (Nat.le_of_ble_eq_true rfl) rfl C dX4_init_12 ?_
  refine v_aload_n 0 C dX4_init_15 rfl rfl ?_
  refine v_iconst (v := 0) C dX4_init_16 (by decide) ?_
  refine v_putAny (q0 := 0) (ci := 3) (Cn := RX4) (TT := TX4) (NN := 4) (ws' := ([(b, .inr (3, [.ref (a1 0), .int 0, .int 0, .null]))] ++ wB T a1)) tyX4 inG4 tyX4_ok nmX4 rfl rfl 1 (by decide) wfieldLink_RX4_18_LineEchoes_Peeling_result_I (Or.inl rfl) (tyX4_ok 1 (by decide)) rfl rfl (Nat.le_of_ble_eq_true rfl) rfl C dX4_init_17 ?_
  refine v_aload_n 0 C dX4_init_20 rfl rfl ?_
  refine v_iconst (v := (-1)) C dX4_init_21 (by decide) ?_
  refine v_putAny (q0 := 0) (ci := 3) (Cn := RX4) (TT := TX4) (NN := 4) (ws' := ([(b, .inr (3, [.ref (a1 0), .int 0, .int (-1), .null]))] ++ wB T a1)) tyX4 inG4 tyX4_ok nmX4 rfl rfl 2 (by decide) wfieldLink_RX4_22_LineEchoes_Peeling_endTime_I (Or.inl rfl) (tyX4_ok 2 (by decide)) rfl rfl (Nat.le_of_ble_eq_true rfl) rfl C dX4_init_22 ?_
  refine v_aload_n 0 C dX4_init_25 rfl rfl ?_
  refine v_mk (ci := 6) (Cn := RX8) (TT := TX8) (NN := 4) (y := yX8_init) (cc' := cX8_init) (nL' := 1) (mc := 22) (ms := 3846) (rm := { frames := 1, cells := 22, slots := 3846, locals := 20 }) (Wq := fun b w1 => ∃ a, a 0 = b ∧ w1 = wW T a (rws a 5) (rws a 14)) tyX8 inG8 tyX8_ok wclassLink_RX4_25_LineEchoes_Wave winstantiable_RX8_4 winitialized_RX8 rfl (by decide) (fun q D => Ci_W) wmethodLink_RX4_27_yX8_init winstanceMethod_yX8_init winitialized_RX8 wcode_yX8_init_cX8_init_1_none rfl (by decide +kernel) (by decide) ⟨rfl, rfl⟩ (Nat.le_of_ble_eq_true rfl) C (hcap.mono (Nat.le_of_ble_eq_true rfl) (Nat.le_of_ble_eq_true rfl)) dX4_init_26 dX4_init_29 dX4_init_30 (fun q9 w9 hw9 => ?_)
  obtain ⟨a2, hq, rfl⟩ := hw9
  subst hq
  refine v_putAny (q0 := 0) (ci := 3) (Cn := RX4) (TT := TX4) (NN := 4) (ws' := (([(b, .inr (3, [.ref (a1 0), .int 0, .int (-1), .ref (a2 0)]))] ++ wB T a1) ++ wW T a2 (rws a2 5) (rws a2 14))) tyX4 inG4 tyX4_ok nmX4 rfl rfl 3 (by decide) wfieldLink_RX4_28_LineEchoes_Peeling_trial_LLineEchoes_Wave (Or.inr ⟨hini, rfl⟩) (tyX4_ok 3 (by decide)) rfl rfl (Nat.le_of_ble_eq_true rfl) rfl C dX4_init_33 ?_
  refine v_widen (k' := 28) (n' := 3883) (Nat.le_of_ble_eq_true rfl) (Nat.le_of_ble_eq_true rfl) ?_
  have e1 : rws a2 5 = rws (fun i => if i < 1 then b else if i < 6 then a1 (i - 1) else a2 (i - 6)) 11 := by
    funext i
    unfold rws
    by_cases h : i < 9
    · rw [if_pos h, if_pos h]
      simp (disch := omega) only [if_neg, if_pos]
      rw [show 11 + i - 6 = 5 + i by omega]
    · rw [if_neg h, if_neg h]
  have e2 : rws a2 14 = rws (fun i => if i < 1 then b else if i < 6 then a1 (i - 1) else a2 (i - 6)) 20 := by
    funext i
    unfold rws
    by_cases h : i < 9
    · rw [if_pos h, if_pos h]
      simp (disch := omega) only [if_neg, if_pos]
      rw [show 20 + i - 6 = 14 + i by omega]
    · rw [if_neg h, if_neg h]
  rw [e1, e2]
  exact v_vret C (hret _ ⟨fun i => if i < 1 then b else if i < 6 then a1 (i - 1) else a2 (i - 6), rfl, rfl⟩) dX4_init_36
set_option maxRecDepth 100000 in
set_option maxHeartbeats 4000000 in
theorem Ci_L {T : Nat → ClassId} {E : Nat → Nat → Nat} {b : Nat} {D : va_G} : MetA (SFK E) yX9_init cX9_init 1 { frames := 4, cells := 89, slots := 9623, locals := 81 } D T [.ref b] [(b, .inr (7, [.null, .null, .null, .null, .null, .int 0, .int 0]))] (fun w1 => ∃ a, a 0 = b ∧ w1 = wL0 E a T) 89 9623 := by
  refine MetA.of [(0, .ref b)] (by decide) rfl (Nat.le_of_ble_eq_true rfl) rfl ⟨rfl, rfl⟩ (fun X C hcap hini hret => ?_)
  refine v_aload_n 0 C dX9_init_0 rfl rfl ?_
  refine v_objInit wmethodLink_RX9_3_java_lang_Object_init_V C (by decide) dX9_init_1 ?_
  refine v_aload_n 0 C dX9_init_4 rfl rfl ?_
  refine v_mk (ci := 5) (Cn := RX6) (TT := TX6) (NN := 3) (y := yX6_init) (cc' := cX6_init) (nL' := 1) (mc := 7) (ms := 435) (rm := { frames := 2, cells := 7, slots := 435, locals := 40 }) (Wq := fun b w1 => ∃ a, a 0 = b ∧ w1 = wS T a) tyX6 inG6 tyX6_ok wclassLink_RX9_9_LineEchoes_State winstantiable_RX6_3 winitialized_RX6 rfl (by decide) (fun q D => Ci_S) wmethodLink_RX9_11_yX6_init winstanceMethod_yX6_init winitialized_RX6 wcode_yX6_init_cX6_init_1_none rfl (by decide +kernel) (by decide) ⟨rfl, rfl⟩ (Nat.le_of_ble_eq_true rfl) C (hcap.mono (Nat.le_of_ble_eq_true rfl) (Nat.le_of_ble_eq_true rfl)) dX9_init_5 dX9_init_8 dX9_init_9 (fun q9 w9 hw9 => ?_)
  obtain ⟨a1, hq, rfl⟩ := hw9
  subst hq
  refine v_putAny (q0 := 0) (ci := 7) (Cn := RX9) (TT := TX9) (NN := 7) (ws' := ([(b, .inr (7, [.ref (a1 0), .null, .null, .null, .null, .int 0, .int 0]))] ++ wS T a1)) tyX9 inG9 tyX9_ok nmX9 rfl rfl 0 (by decide) wfieldLink_RX9_12_LineEchoes_now_LLineEchoes_State (Or.inr ⟨hini, rfl⟩) (tyX9_ok 0 (by decide)) rfl rfl (Nat.le_of_ble_eq_true rfl) rfl C dX9_init_12 ?_
  refine v_aload_n 0 C dX9_init_15 rfl rfl ?_
  refine v_mk (ci := 2) (Cn := RX3) (TT := TX3) (NN := 2) (y := yX3_init) (cc' := cX3_init) (nL' := 2) (mc := 25) (ms := 1317) (rm := { frames := 3, cells := 25, slots := 1317, locals := 60 }) (Wq := fun b w1 => ∃ a f, (a 0 = b ∧ ∀ j, j < 3 → f j = some (a (2 + 8 * j))) ∧ w1 = wH T a f) tyX3 inG3 tyX3_ok wclassLink_RX9_16_LineEchoes_History winstantiable_RX3_2 winitialized_RX3 rfl (by decide) (fun q D => Ci_H) wmethodLink_RX9_18_yX3_init winstanceMethod_yX3_init winitialized_RX3 wcode_yX3_init_cX3_init_2_none rfl (by decide +kernel) (by decide) ⟨rfl, rfl⟩ (Nat.le_of_ble_eq_true rfl) C (hcap.mono (Nat.le_of_ble_eq_true rfl) (Nat.le_of_ble_eq_true rfl)) dX9_init_16 dX9_init_19 dX9_init_20 (fun q9 w9 hw9 => ?_)
  obtain ⟨a2, f2, ⟨hq, hf2⟩, rfl⟩ := hw9
  subst hq
  refine v_putAny (q0 := 0) (ci := 7) (Cn := RX9) (TT := TX9) (NN := 7) (ws' := (([(b, .inr (7, [.ref (a1 0), .ref (a2 0), .null, .null, .null, .int 0, .int 0]))] ++ wS T a1) ++ wH T a2 f2)) tyX9 inG9 tyX9_ok nmX9 rfl rfl 1 (by decide) wfieldLink_RX9_19_LineEchoes_history_LLineEchoes_History (Or.inr ⟨hini, rfl⟩) (tyX9_ok 1 (by decide)) rfl rfl (Nat.le_of_ble_eq_true rfl) rfl C dX9_init_23 ?_
  refine v_aload_n 0 C dX9_init_26 rfl rfl ?_
  refine v_mk (ci := 4) (Cn := RX5) (TT := TX5) (NN := 6) (y := yX5_init) (cc' := cX5_init) (nL' := 1) (mc := 2) (ms := 123) (rm := { frames := 1, cells := 2, slots := 123, locals := 20 }) (Wq := fun b w1 => ∃ a, a 0 = b ∧ w1 = wC E T a) tyX5 inG5 tyX5_ok wclassLink_RX9_23_LineEchoes_Script winstantiable_RX5_6 winitialized_RX5 rfl (by decide) (fun q D => Ci_C) wmethodLink_RX9_25_yX5_init winstanceMethod_yX5_init winitialized_RX5 wcode_yX5_init_cX5_init_1_none rfl (by decide +kernel) (by decide) ⟨rfl, rfl⟩ (Nat.le_of_ble_eq_true rfl) C (hcap.mono (Nat.le_of_ble_eq_true rfl) (Nat.le_of_ble_eq_true rfl)) dX9_init_27 dX9_init_30 dX9_init_31 (fun q9 w9 hw9 => ?_)
  obtain ⟨a3, hq, rfl⟩ := hw9
  subst hq
  refine v_putAny (q0 := 0) (ci := 7) (Cn := RX9) (TT := TX9) (NN := 7) (ws' := ((([(b, .inr (7, [.ref (a1 0), .ref (a2 0), .ref (a3 0), .null, .null, .int 0, .int 0]))] ++ wS T a1) ++ wH T a2 f2) ++ wC E T a3)) tyX9 inG9 tyX9_ok nmX9 rfl rfl 2 (by decide) wfieldLink_RX9_26_LineEchoes_script_LLineEchoes_Script (Or.inr ⟨hini, rfl⟩) (tyX9_ok 2 (by decide)) rfl rfl (Nat.le_of_ble_eq_true rfl) rfl C dX9_init_34 ?_
  refine v_aload_n 0 C dX9_init_37 rfl rfl ?_
  refine v_mk (ci := 6) (Cn := RX8) (TT := TX8) (NN := 4) (y := yX8_init) (cc' := cX8_init) (nL' := 1) (mc := 22) (ms := 3846) (rm := { frames := 1, cells := 22, slots := 3846, locals := 20 }) (Wq := fun b w1 => ∃ a, a 0 = b ∧ w1 = wW T a (rws a 5) (rws a 14)) tyX8 inG8 tyX8_ok wclassLink_RX9_30_LineEchoes_Wave winstantiable_RX8_4 winitialized_RX8 rfl (by decide) (fun q D => Ci_W) wmethodLink_RX9_32_yX8_init winstanceMethod_yX8_init winitialized_RX8 wcode_yX8_init_cX8_init_1_none rfl (by decide +kernel) (by decide) ⟨rfl, rfl⟩ (Nat.le_of_ble_eq_true rfl) C (hcap.mono (Nat.le_of_ble_eq_true rfl) (Nat.le_of_ble_eq_true rfl)) dX9_init_38 dX9_init_41 dX9_init_42 (fun q9 w9 hw9 => ?_)
  obtain ⟨a4, hq, rfl⟩ := hw9
  subst hq
  refine v_putAny (q0 := 0) (ci := 7) (Cn := RX9) (TT := TX9) (NN := 7) (ws' := (((([(b, .inr (7, [.ref (a1 0), .ref (a2 0), .ref (a3 0), .ref (a4 0), .null, .int 0, .int 0]))] ++ wS T a1) ++ wH T a2 f2) ++ wC E T a3) ++ wW T a4 (rws a4 5) (rws a4 14))) tyX9 inG9 tyX9_ok nmX9 rfl rfl 3 (by decide) wfieldLink_RX9_33_LineEchoes_wave_LLineEchoes_Wave (Or.inr ⟨hini, rfl⟩) (tyX9_ok 3 (by decide)) rfl rfl (Nat.le_of_ble_eq_true rfl) rfl C dX9_init_45 ?_
  refine v_aload_n 0 C dX9_init_48 rfl rfl ?_
  refine v_mk (ci := 3) (Cn := RX4) (TT := TX4) (NN := 4) (y := yX4_init) (cc' := cX4_init) (nL' := 1) (mc := 28) (ms := 3883) (rm := { frames := 2, cells := 28, slots := 3883, locals := 40 }) (Wq := fun b w1 => ∃ a, a 0 = b ∧ w1 = wP T a (rws a 11) (rws a 20)) tyX4 inG4 tyX4_ok wclassLink_RX9_37_LineEchoes_Peeling winstantiable_RX4_4 winitialized_RX4 rfl (by decide) (fun q D => Ci_P) wmethodLink_RX9_39_yX4_init winstanceMethod_yX4_init winitialized_RX4 wcode_yX4_init_cX4_init_1_none rfl (by decide +kernel) (by decide) ⟨rfl, rfl⟩ (Nat.le_of_ble_eq_true rfl) C (hcap.mono (Nat.le_of_ble_eq_true rfl) (Nat.le_of_ble_eq_true rfl)) dX9_init_49 dX9_init_52 dX9_init_53 (fun q9 w9 hw9 => ?_)
  obtain ⟨a5, hq, rfl⟩ := hw9
  subst hq
  refine v_putAny (q0 := 0) (ci := 7) (Cn := RX9) (TT := TX9) (NN := 7) (ws' := ((((([(b, .inr (7, [.ref (a1 0), .ref (a2 0), .ref (a3 0), .ref (a4 0), .ref (a5 0), .int 0, .int 0]))] ++ wS T a1) ++ wH T a2 f2) ++ wC E T a3) ++ wW T a4 (rws a4 5) (rws a4 14)) ++ wP T a5 (rws a5 11) (rws a5 20))) tyX9 inG9 tyX9_ok nmX9 rfl rfl 4 (by decide) wfieldLink_RX9_40_LineEchoes_peeling_LLineEchoes_Peeling (Or.inr ⟨hini, rfl⟩) (tyX9_ok 4 (by decide)) rfl rfl (Nat.le_of_ble_eq_true rfl) rfl C dX9_init_56 ?_
  refine v_aload_n 0 C dX9_init_59 rfl rfl ?_
  refine v_iconst (v := 0) C dX9_init_60 (by decide) ?_
  refine v_putAny (q0 := 0) (ci := 7) (Cn := RX9) (TT := TX9) (NN := 7) (ws' := ((((([(b, .inr (7, [.ref (a1 0), .ref (a2 0), .ref (a3 0), .ref (a4 0), .ref (a5 0), .int 0, .int 0]))] ++ wS T a1) ++ wH T a2 f2) ++ wC E T a3) ++ wW T a4 (rws a4 5) (rws a4 14)) ++ wP T a5 (rws a5 11) (rws a5 20))) tyX9 inG9 tyX9_ok nmX9 rfl rfl 5 (by decide) wfieldLink_RX9_44_LineEchoes_waveIsFresh_Z (Or.inl rfl) (tyX9_ok 5 (by decide)) rfl rfl (Nat.le_of_ble_eq_true rfl) rfl C dX9_init_61 ?_
  refine v_aload_n 0 C dX9_init_64 rfl rfl ?_
  refine v_iconst (v := 0) C dX9_init_65 (by decide) ?_
  refine v_putAny (q0 := 0) (ci := 7) (Cn := RX9) (TT := TX9) (NN := 7) (ws' := ((((([(b, .inr (7, [.ref (a1 0), .ref (a2 0), .ref (a3 0), .ref (a4 0), .ref (a5 0), .int 0, .int 0]))] ++ wS T a1) ++ wH T a2 f2) ++ wC E T a3) ++ wW T a4 (rws a4 5) (rws a4 14)) ++ wP T a5 (rws a5 11) (rws a5 20))) tyX9 inG9 tyX9_ok nmX9 rfl rfl 6 (by decide) wfieldLink_RX9_48_LineEchoes_peelingIsFresh_Z (Or.inl rfl) (tyX9_ok 6 (by decide)) rfl rfl (Nat.le_of_ble_eq_true rfl) rfl C dX9_init_66 ?_
  refine v_widen (k' := 89) (n' := 9623) (Nat.le_of_ble_eq_true rfl) (Nat.le_of_ble_eq_true rfl) ?_
  have e1 : rws a4 5 = rws (fun i => if i < 1 then b else if i < 9 then a1 (i - 1) else if i < 35 then a2 (i - 9) else if i < 38 then a3 (i - 35) else if i < 61 then a4 (i - 38) else a5 (i - 61)) 43 := by
    funext i
    unfold rws
    by_cases h : i < 9
    · rw [if_pos h, if_pos h]
      simp (disch := omega) only [if_neg, if_pos]
      rw [show 43 + i - 38 = 5 + i by omega]
    · rw [if_neg h, if_neg h]
  have e2 : rws a4 14 = rws (fun i => if i < 1 then b else if i < 9 then a1 (i - 1) else if i < 35 then a2 (i - 9) else if i < 38 then a3 (i - 35) else if i < 61 then a4 (i - 38) else a5 (i - 61)) 52 := by
    funext i
    unfold rws
    by_cases h : i < 9
    · rw [if_pos h, if_pos h]
      simp (disch := omega) only [if_neg, if_pos]
      rw [show 52 + i - 38 = 14 + i by omega]
    · rw [if_neg h, if_neg h]
  have e3 : rws a5 11 = rws (fun i => if i < 1 then b else if i < 9 then a1 (i - 1) else if i < 35 then a2 (i - 9) else if i < 38 then a3 (i - 35) else if i < 61 then a4 (i - 38) else a5 (i - 61)) 72 := by
    funext i
    unfold rws
    by_cases h : i < 9
    · rw [if_pos h, if_pos h]
      simp (disch := omega) only [if_neg, if_pos]
      rw [show 72 + i - 61 = 11 + i by omega]
    · rw [if_neg h, if_neg h]
  have e4 : rws a5 20 = rws (fun i => if i < 1 then b else if i < 9 then a1 (i - 1) else if i < 35 then a2 (i - 9) else if i < 38 then a3 (i - 35) else if i < 61 then a4 (i - 38) else a5 (i - 61)) 81 := by
    funext i
    unfold rws
    by_cases h : i < 9
    · rw [if_pos h, if_pos h]
      simp (disch := omega) only [if_neg, if_pos]
      rw [show 81 + i - 61 = 20 + i by omega]
    · rw [if_neg h, if_neg h]
  rw [e1, e2, e3, e4]
  refine v_refN (q := a2 1) (c := T 3) (N := 3) (f := f2) (f' := hst (fun i => if i < 1 then b else if i < 9 then a1 (i - 1) else if i < 35 then a2 (i - 9) else if i < 38 then a3 (i - 35) else if i < 61 then a4 (i - 38) else a5 (i - 61)) (fun j => j)) (ws1 := ([(b, .inr (7, [.ref (a1 0), .ref (a2 0), .ref (a3 0), .ref (a4 0), .ref (a5 0), .int 0, .int 0]))] ++ wS T a1) ++ [(a2 0, .inr (2, [.ref (a2 1), .int 0]))]) (ws2 := (wS T (fun i => a2 (2 + i)) ++ (wS T (fun i => a2 (10 + i)) ++ wS T (fun i => a2 (18 + i)))) ++ wC E T a3 ++ wW T a4 (rws (fun i => if i < 1 then b else if i < 9 then a1 (i - 1) else if i < 35 then a2 (i - 9) else if i < 38 then a3 (i - 35) else if i < 61 then a4 (i - 38) else a5 (i - 61)) 43) (rws (fun i => if i < 1 then b else if i < 9 then a1 (i - 1) else if i < 35 then a2 (i - 9) else if i < 38 then a3 (i - 35) else if i < 61 then a4 (i - 38) else a5 (i - 61)) 52) ++ wP T a5 (rws (fun i => if i < 1 then b else if i < 9 then a1 (i - 1) else if i < 35 then a2 (i - 9) else if i < 38 then a3 (i - 35) else if i < 61 then a4 (i - 38) else a5 (i - 61)) 72) (rws (fun i => if i < 1 then b else if i < 9 then a1 (i - 1) else if i < 35 then a2 (i - 9) else if i < 38 then a3 (i - 35) else if i < 61 then a4 (i - 38) else a5 (i - 61)) 81)) (fun j hj => ?_) ?_
  · rw [hf2 j hj]
    rcases (show j = 0 ∨ j = 1 ∨ j = 2 by omega) with rfl | rfl | rfl <;> rfl
  exact v_vret C (hret _ ⟨fun i => if i < 1 then b else if i < 9 then a1 (i - 1) else if i < 35 then a2 (i - 9) else if i < 38 then a3 (i - 35) else if i < 61 then a4 (i - 38) else a5 (i - 61), rfl, rfl⟩) dX9_init_69
set_option maxRecDepth 100000 in
set_option maxHeartbeats 4000000 in
theorem Ci_R {T : Nat → ClassId} {E : Nat → Nat → Nat} {b : Nat} {D : va_G} : MetA (SFK E) yX10_init cX10_init 1 { frames := 1, cells := 11, slots := 5808, locals := 20 } D T [.ref b] [(b, .inr (8, [.null, .null, .int 0, .null, .int 0, .int 0, .int 0, .null, .null, .int 0, .null, .null, .null, .null, .null, .long 0, .long 0, .int 0, .int 0, .int 0, .long 0, .int 0, .int 0, .int 0, .int 0, .int 0, .null, .long 0]))] (fun w1 => ∃ a, a 0 = b ∧ w1 = wR0 a T) 11 5808 := by
  refine MetA.of [(0, .ref b)] (by decide) rfl (Nat.le_of_ble_eq_true rfl) rfl ⟨rfl, rfl⟩ (fun X C hcap hini hret => ?_)
  refine v_aload_n 0 C dX10_init_0 rfl rfl ?_
  refine v_objInit wmethodLink_RX10_1_java_lang_Object_init_V C (by decide) dX10_init_1 ?_
  refine v_aload_n 0 C dX10_init_4 rfl rfl ?_
  refine v_sipush (v := 431) C dX10_init_5 (by decide) ?_
  refine v_newJ 431 (by decide) (by decide) (by decide) C (hcap.mono (Nat.le_of_ble_eq_true rfl) (Nat.le_of_ble_eq_true rfl)) dX10_init_8 (fun q1 => ?_)
  refine v_putAny (q0 := 0) (ci := 8) (Cn := RX10) (TT := TX10) (NN := 28) (ws' := ([(b, .inr (8, [.ref q1, .null, .int 0, .null, .int 0, .int 0, .int 0, .null, .null, .int 0, .null, .null, .null, .null, .null, .long 0, .long 0, .int 0, .int 0, .int 0, .long 0, .int 0, .int 0, .int 0, .int 0, .int 0, .null, .long 0]))] ++ [(q1, .inl (T 0, 431, .inr (.inl (fun _ => 0))))])) tyX10 inG10 tyX10_ok nmX10 rfl rfl 0 (by decide) wfieldLink_RX10_7_LineEchoesModel_m_J (Or.inr ⟨hini, rfl⟩) (tyX10_ok 0 (by decide)) rfl rfl (Nat.le_of_ble_eq_true rfl) rfl C dX10_init_10 ?_
  refine v_aload_n 0 C dX10_init_13 rfl rfl ?_
  refine v_sipush (v := 1293) C dX10_init_14 (by decide) ?_
  refine v_newJ 1293 (by decide) (by decide) (by decide) C (hcap.mono (Nat.le_of_ble_eq_true rfl) (Nat.le_of_ble_eq_true rfl)) dX10_init_17 (fun q2 => ?_)
  refine v_putAny (q0 := 0) (ci := 8) (Cn := RX10) (TT := TX10) (NN := 28) (ws' := (([(b, .inr (8, [.ref q1, .ref q2, .int 0, .null, .int 0, .int 0, .int 0, .null, .null, .int 0, .null, .null, .null, .null, .null, .long 0, .long 0, .int 0, .int 0, .int 0, .long 0, .int 0, .int 0, .int 0, .int 0, .int 0, .null, .long 0]))] ++ [(q1, .inl (T 0, 431, .inr (.inl (fun _ => 0))))]) ++ [(q2, .inl (T 0, 1293, .inr (.inl (fun _ => 0))))])) tyX10 inG10 tyX10_ok nmX10 rfl rfl 1 (by decide) wfieldLink_RX10_13_LineEchoesModel_saved_J (Or.inr ⟨hini, rfl⟩) (tyX10_ok 1 (by decide)) rfl rfl (Nat.le_of_ble_eq_true rfl) rfl C dX10_init_19 ?_
  refine v_aload_n 0 C dX10_init_22 rfl rfl ?_
  refine v_bipush (v := 120) C dX10_init_23 (by decide) ?_
  refine v_newI 120 (by decide) (by decide) (by decide) C (hcap.mono (Nat.le_of_ble_eq_true rfl) (Nat.le_of_ble_eq_true rfl)) dX10_init_25 (fun q3 => ?_)
  refine v_putAny (q0 := 0) (ci := 8) (Cn := RX10) (TT := TX10) (NN := 28) (ws' := ((([(b, .inr (8, [.ref q1, .ref q2, .int 0, .ref q3, .int 0, .int 0, .int 0, .null, .null, .int 0, .null, .null, .null, .null, .null, .long 0, .long 0, .int 0, .int 0, .int 0, .long 0, .int 0, .int 0, .int 0, .int 0, .int 0, .null, .long 0]))] ++ [(q1, .inl (T 0, 431, .inr (.inl (fun _ => 0))))]) ++ [(q2, .inl (T 0, 1293, .inr (.inl (fun _ => 0))))]) ++ [(q3, .inl (T 1, 120, .inl (fun _ => 0)))])) tyX10 inG10 tyX10_ok nmX10 rfl rfl 3 (by decide) wfieldLink_RX10_16_LineEchoesModel_script_I (Or.inr ⟨hini, rfl⟩) (tyX10_ok 3 (by decide)) rfl rfl (Nat.le_of_ble_eq_true rfl) rfl C dX10_init_27 ?_
  refine v_aload_n 0 C dX10_init_30 rfl rfl ?_
  refine v_bipush (v := 8) C dX10_init_31 (by decide) ?_
  refine v_newI 8 (by decide) (by decide) (by decide) C (hcap.mono (Nat.le_of_ble_eq_true rfl) (Nat.le_of_ble_eq_true rfl)) dX10_init_33 (fun q4 => ?_)
  refine v_putAny (q0 := 0) (ci := 8) (Cn := RX10) (TT := TX10) (NN := 28) (ws' := (((([(b, .inr (8, [.ref q1, .ref q2, .int 0, .ref q3, .int 0, .int 0, .int 0, .ref q4, .null, .int 0, .null, .null, .null, .null, .null, .long 0, .long 0, .int 0, .int 0, .int 0, .long 0, .int 0, .int 0, .int 0, .int 0, .int 0, .null, .long 0]))] ++ [(q1, .inl (T 0, 431, .inr (.inl (fun _ => 0))))]) ++ [(q2, .inl (T 0, 1293, .inr (.inl (fun _ => 0))))]) ++ [(q3, .inl (T 1, 120, .inl (fun _ => 0)))]) ++ [(q4, .inl (T 1, 8, .inl (fun _ => 0)))])) tyX10 inG10 tyX10_ok nmX10 rfl rfl 7 (by decide) wfieldLink_RX10_20_LineEchoesModel_lengths_I (Or.inr ⟨hini, rfl⟩) (tyX10_ok 7 (by decide)) rfl rfl (Nat.le_of_ble_eq_true rfl) rfl C dX10_init_35 ?_
  refine v_aload_n 0 C dX10_init_38 rfl rfl ?_
  refine v_bipush (v := 9) C dX10_init_39 (by decide) ?_
  refine v_newI 9 (by decide) (by decide) (by decide) C (hcap.mono (Nat.le_of_ble_eq_true rfl) (Nat.le_of_ble_eq_true rfl)) dX10_init_41 (fun q5 => ?_)
  refine v_putAny (q0 := 0) (ci := 8) (Cn := RX10) (TT := TX10) (NN := 28) (ws' := ((((([(b, .inr (8, [.ref q1, .ref q2, .int 0, .ref q3, .int 0, .int 0, .int 0, .ref q4, .ref q5, .int 0, .null, .null, .null, .null, .null, .long 0, .long 0, .int 0, .int 0, .int 0, .long 0, .int 0, .int 0, .int 0, .int 0, .int 0, .null, .long 0]))] ++ [(q1, .inl (T 0, 431, .inr (.inl (fun _ => 0))))]) ++ [(q2, .inl (T 0, 1293, .inr (.inl (fun _ => 0))))]) ++ [(q3, .inl (T 1, 120, .inl (fun _ => 0)))]) ++ [(q4, .inl (T 1, 8, .inl (fun _ => 0)))]) ++ [(q5, .inl (T 1, 9, .inl (fun _ => 0)))])) tyX10 inG10 tyX10_ok nmX10 rfl rfl 8 (by decide) wfieldLink_RX10_23_LineEchoesModel_fractions_I (Or.inr ⟨hini, rfl⟩) (tyX10_ok 8 (by decide)) rfl rfl (Nat.le_of_ble_eq_true rfl) rfl C dX10_init_43 ?_
  refine v_aload_n 0 C dX10_init_46 rfl rfl ?_
  refine v_iconst (v := 4) C dX10_init_47 (by decide) ?_
  refine v_newI 4 (by decide) (by decide) (by decide) C (hcap.mono (Nat.le_of_ble_eq_true rfl) (Nat.le_of_ble_eq_true rfl)) dX10_init_48 (fun q6 => ?_)
  refine v_putAny (q0 := 0) (ci := 8) (Cn := RX10) (TT := TX10) (NN := 28) (ws' := (((((([(b, .inr (8, [.ref q1, .ref q2, .int 0, .ref q3, .int 0, .int 0, .int 0, .ref q4, .ref q5, .int 0, .ref q6, .null, .null, .null, .null, .long 0, .long 0, .int 0, .int 0, .int 0, .long 0, .int 0, .int 0, .int 0, .int 0, .int 0, .null, .long 0]))] ++ [(q1, .inl (T 0, 431, .inr (.inl (fun _ => 0))))]) ++ [(q2, .inl (T 0, 1293, .inr (.inl (fun _ => 0))))]) ++ [(q3, .inl (T 1, 120, .inl (fun _ => 0)))]) ++ [(q4, .inl (T 1, 8, .inl (fun _ => 0)))]) ++ [(q5, .inl (T 1, 9, .inl (fun _ => 0)))]) ++ [(q6, .inl (T 1, 4, .inl (fun _ => 0)))])) tyX10 inG10 tyX10_ok nmX10 rfl rfl 10 (by decide) wfieldLink_RX10_26_LineEchoesModel_times_I (Or.inr ⟨hini, rfl⟩) (tyX10_ok 10 (by decide)) rfl rfl (Nat.le_of_ble_eq_true rfl) rfl C dX10_init_50 ?_
  refine v_aload_n 0 C dX10_init_53 rfl rfl ?_
  refine v_iconst (v := 4) C dX10_init_54 (by decide) ?_
  refine v_newJ 4 (by decide) (by decide) (by decide) C (hcap.mono (Nat.le_of_ble_eq_true rfl) (Nat.le_of_ble_eq_true rfl)) dX10_init_55 (fun q7 => ?_)
  refine v_putAny (q0 := 0) (ci := 8) (Cn := RX10) (TT := TX10) (NN := 28) (ws' := ((((((([(b, .inr (8, [.ref q1, .ref q2, .int 0, .ref q3, .int 0, .int 0, .int 0, .ref q4, .ref q5, .int 0, .ref q6, .ref q7, .null, .null, .null, .long 0, .long 0, .int 0, .int 0, .int 0, .long 0, .int 0, .int 0, .int 0, .int 0, .int 0, .null, .long 0]))] ++ [(q1, .inl (T 0, 431, .inr (.inl (fun _ => 0))))]) ++ [(q2, .inl (T 0, 1293, .inr (.inl (fun _ => 0))))]) ++ [(q3, .inl (T 1, 120, .inl (fun _ => 0)))]) ++ [(q4, .inl (T 1, 8, .inl (fun _ => 0)))]) ++ [(q5, .inl (T 1, 9, .inl (fun _ => 0)))]) ++ [(q6, .inl (T 1, 4, .inl (fun _ => 0)))]) ++ [(q7, .inl (T 0, 4, .inr (.inl (fun _ => 0))))])) tyX10 inG10 tyX10_ok nmX10 rfl rfl 11 (by decide) wfieldLink_RX10_29_LineEchoesModel_energies_J (Or.inr ⟨hini, rfl⟩) (tyX10_ok 11 (by decide)) rfl rfl (Nat.le_of_ble_eq_true rfl) rfl C dX10_init_57 ?_
  refine v_aload_n 0 C dX10_init_60 rfl rfl ?_
  refine v_sipush (v := 1809) C dX10_init_61 (by decide) ?_
  refine v_newJ 1809 (by decide) (by decide) (by decide) C (hcap.mono (Nat.le_of_ble_eq_true rfl) (Nat.le_of_ble_eq_true rfl)) dX10_init_64 (fun q8 => ?_)
  refine v_putAny (q0 := 0) (ci := 8) (Cn := RX10) (TT := TX10) (NN := 28) (ws' := (((((((([(b, .inr (8, [.ref q1, .ref q2, .int 0, .ref q3, .int 0, .int 0, .int 0, .ref q4, .ref q5, .int 0, .ref q6, .ref q7, .ref q8, .null, .null, .long 0, .long 0, .int 0, .int 0, .int 0, .long 0, .int 0, .int 0, .int 0, .int 0, .int 0, .null, .long 0]))] ++ [(q1, .inl (T 0, 431, .inr (.inl (fun _ => 0))))]) ++ [(q2, .inl (T 0, 1293, .inr (.inl (fun _ => 0))))]) ++ [(q3, .inl (T 1, 120, .inl (fun _ => 0)))]) ++ [(q4, .inl (T 1, 8, .inl (fun _ => 0)))]) ++ [(q5, .inl (T 1, 9, .inl (fun _ => 0)))]) ++ [(q6, .inl (T 1, 4, .inl (fun _ => 0)))]) ++ [(q7, .inl (T 0, 4, .inr (.inl (fun _ => 0))))]) ++ [(q8, .inl (T 0, 1809, .inr (.inl (fun _ => 0))))])) tyX10 inG10 tyX10_ok nmX10 rfl rfl 12 (by decide) wfieldLink_RX10_32_LineEchoesModel_far_J (Or.inr ⟨hini, rfl⟩) (tyX10_ok 12 (by decide)) rfl rfl (Nat.le_of_ble_eq_true rfl) rfl C dX10_init_66 ?_
  refine v_aload_n 0 C dX10_init_69 rfl rfl ?_
  refine v_sipush (v := 1809) C dX10_init_70 (by decide) ?_
  refine v_newJ 1809 (by decide) (by decide) (by decide) C (hcap.mono (Nat.le_of_ble_eq_true rfl) (Nat.le_of_ble_eq_true rfl)) dX10_init_73 (fun q9 => ?_)
  refine v_putAny (q0 := 0) (ci := 8) (Cn := RX10) (TT := TX10) (NN := 28) (ws' := ((((((((([(b, .inr (8, [.ref q1, .ref q2, .int 0, .ref q3, .int 0, .int 0, .int 0, .ref q4, .ref q5, .int 0, .ref q6, .ref q7, .ref q8, .ref q9, .null, .long 0, .long 0, .int 0, .int 0, .int 0, .long 0, .int 0, .int 0, .int 0, .int 0, .int 0, .null, .long 0]))] ++ [(q1, .inl (T 0, 431, .inr (.inl (fun _ => 0))))]) ++ [(q2, .inl (T 0, 1293, .inr (.inl (fun _ => 0))))]) ++ [(q3, .inl (T 1, 120, .inl (fun _ => 0)))]) ++ [(q4, .inl (T 1, 8, .inl (fun _ => 0)))]) ++ [(q5, .inl (T 1, 9, .inl (fun _ => 0)))]) ++ [(q6, .inl (T 1, 4, .inl (fun _ => 0)))]) ++ [(q7, .inl (T 0, 4, .inr (.inl (fun _ => 0))))]) ++ [(q8, .inl (T 0, 1809, .inr (.inl (fun _ => 0))))]) ++ [(q9, .inl (T 0, 1809, .inr (.inl (fun _ => 0))))])) tyX10 inG10 tyX10_ok nmX10 rfl rfl 13 (by decide) wfieldLink_RX10_35_LineEchoesModel_near_J (Or.inr ⟨hini, rfl⟩) (tyX10_ok 13 (by decide)) rfl rfl (Nat.le_of_ble_eq_true rfl) rfl C dX10_init_75 ?_
  refine v_aload_n 0 C dX10_init_78 rfl rfl ?_
  refine v_sipush (v := 201) C dX10_init_79 (by decide) ?_
  refine v_newJ 201 (by decide) (by decide) (by decide) C (hcap.mono (Nat.le_of_ble_eq_true rfl) (Nat.le_of_ble_eq_true rfl)) dX10_init_82 (fun q10 => ?_)
  refine v_putAny (q0 := 0) (ci := 8) (Cn := RX10) (TT := TX10) (NN := 28) (ws' := (((((((((([(b, .inr (8, [.ref q1, .ref q2, .int 0, .ref q3, .int 0, .int 0, .int 0, .ref q4, .ref q5, .int 0, .ref q6, .ref q7, .ref q8, .ref q9, .ref q10, .long 0, .long 0, .int 0, .int 0, .int 0, .long 0, .int 0, .int 0, .int 0, .int 0, .int 0, .null, .long 0]))] ++ [(q1, .inl (T 0, 431, .inr (.inl (fun _ => 0))))]) ++ [(q2, .inl (T 0, 1293, .inr (.inl (fun _ => 0))))]) ++ [(q3, .inl (T 1, 120, .inl (fun _ => 0)))]) ++ [(q4, .inl (T 1, 8, .inl (fun _ => 0)))]) ++ [(q5, .inl (T 1, 9, .inl (fun _ => 0)))]) ++ [(q6, .inl (T 1, 4, .inl (fun _ => 0)))]) ++ [(q7, .inl (T 0, 4, .inr (.inl (fun _ => 0))))]) ++ [(q8, .inl (T 0, 1809, .inr (.inl (fun _ => 0))))]) ++ [(q9, .inl (T 0, 1809, .inr (.inl (fun _ => 0))))]) ++ [(q10, .inl (T 0, 201, .inr (.inl (fun _ => 0))))])) tyX10 inG10 tyX10_ok nmX10 rfl rfl 14 (by decide) wfieldLink_RX10_38_LineEchoesModel_echoes_J (Or.inr ⟨hini, rfl⟩) (tyX10_ok 14 (by decide)) rfl rfl (Nat.le_of_ble_eq_true rfl) rfl C dX10_init_84 ?_
  refine v_aload_n 0 C dX10_init_87 rfl rfl ?_
  refine v_bipush (v := 120) C dX10_init_88 (by decide) ?_
  refine v_newI 120 (by decide) (by decide) (by decide) C (hcap.mono (Nat.le_of_ble_eq_true rfl) (Nat.le_of_ble_eq_true rfl)) dX10_init_90 (fun q11 => ?_)
  refine v_putAny (q0 := 0) (ci := 8) (Cn := RX10) (TT := TX10) (NN := 28) (ws' := ((((((((((([(b, .inr (8, [.ref q1, .ref q2, .int 0, .ref q3, .int 0, .int 0, .int 0, .ref q4, .ref q5, .int 0, .ref q6, .ref q7, .ref q8, .ref q9, .ref q10, .long 0, .long 0, .int 0, .int 0, .int 0, .long 0, .int 0, .int 0, .int 0, .int 0, .int 0, .ref q11, .long 0]))] ++ [(q1, .inl (T 0, 431, .inr (.inl (fun _ => 0))))]) ++ [(q2, .inl (T 0, 1293, .inr (.inl (fun _ => 0))))]) ++ [(q3, .inl (T 1, 120, .inl (fun _ => 0)))]) ++ [(q4, .inl (T 1, 8, .inl (fun _ => 0)))]) ++ [(q5, .inl (T 1, 9, .inl (fun _ => 0)))]) ++ [(q6, .inl (T 1, 4, .inl (fun _ => 0)))]) ++ [(q7, .inl (T 0, 4, .inr (.inl (fun _ => 0))))]) ++ [(q8, .inl (T 0, 1809, .inr (.inl (fun _ => 0))))]) ++ [(q9, .inl (T 0, 1809, .inr (.inl (fun _ => 0))))]) ++ [(q10, .inl (T 0, 201, .inr (.inl (fun _ => 0))))]) ++ [(q11, .inl (T 1, 120, .inl (fun _ => 0)))])) tyX10 inG10 tyX10_ok nmX10 rfl rfl 26 (by decide) wfieldLink_RX10_41_LineEchoesModel_draft_I (Or.inr ⟨hini, rfl⟩) (tyX10_ok 26 (by decide)) rfl rfl (Nat.le_of_ble_eq_true rfl) rfl C dX10_init_92 ?_
  refine v_aload_n 0 C dX10_init_95 rfl rfl ?_
  refine v_getAny (q0 := 0) (ci := 8) (Cn := RX10) (TT := TX10) (NN := 28) inG10 rfl rfl 0 (by decide) wfieldLink_RX10_7_LineEchoesModel_m_J rfl C dX10_init_96 ?_
  refine v_bipush (v := 18) C dX10_init_99 (by decide) ?_
  refine v_lconst (v := 1) C dX10_init_101 (by decide) ?_
  refine v_lasAny (q0 := 1) (ws' := ((((((((((([(b, .inr (8, [.ref q1, .ref q2, .int 0, .ref q3, .int 0, .int 0, .int 0, .ref q4, .ref q5, .int 0, .ref q6, .ref q7, .ref q8, .ref q9, .ref q10, .long 0, .long 0, .int 0, .int 0, .int 0, .long 0, .int 0, .int 0, .int 0, .int 0, .int 0, .ref q11, .long 0]))] ++ [(q1, .inl (T 0, 431, .inr (.inl (vp_updL (fun _ => 0) 18 1))))]) ++ [(q2, .inl (T 0, 1293, .inr (.inl (fun _ => 0))))]) ++ [(q3, .inl (T 1, 120, .inl (fun _ => 0)))]) ++ [(q4, .inl (T 1, 8, .inl (fun _ => 0)))]) ++ [(q5, .inl (T 1, 9, .inl (fun _ => 0)))]) ++ [(q6, .inl (T 1, 4, .inl (fun _ => 0)))]) ++ [(q7, .inl (T 0, 4, .inr (.inl (fun _ => 0))))]) ++ [(q8, .inl (T 0, 1809, .inr (.inl (fun _ => 0))))]) ++ [(q9, .inl (T 0, 1809, .inr (.inl (fun _ => 0))))]) ++ [(q10, .inl (T 0, 201, .inr (.inl (fun _ => 0))))]) ++ [(q11, .inl (T 1, 120, .inl (fun _ => 0)))])) rfl (vp_in_iff.mpr (by decide)) rfl C dX10_init_102 ?_
  refine v_aload_n 0 C dX10_init_103 rfl rfl ?_
  refine v_getAny (q0 := 0) (ci := 8) (Cn := RX10) (TT := TX10) (NN := 28) inG10 rfl rfl 0 (by decide) wfieldLink_RX10_7_LineEchoesModel_m_J rfl C dX10_init_104 ?_
  refine v_bipush (v := 19) C dX10_init_107 (by decide) ?_
  refine v_ldc2 C wconstantLong_RX10_44_100_ dX10_init_109 ?_
  refine v_lasAny (q0 := 1) (ws' := ((((((((((([(b, .inr (8, [.ref q1, .ref q2, .int 0, .ref q3, .int 0, .int 0, .int 0, .ref q4, .ref q5, .int 0, .ref q6, .ref q7, .ref q8, .ref q9, .ref q10, .long 0, .long 0, .int 0, .int 0, .int 0, .long 0, .int 0, .int 0, .int 0, .int 0, .int 0, .ref q11, .long 0]))] ++ [(q1, .inl (T 0, 431, .inr (.inl (vp_updL (vp_updL (fun _ => 0) 18 1) 19 100))))]) ++ [(q2, .inl (T 0, 1293, .inr (.inl (fun _ => 0))))]) ++ [(q3, .inl (T 1, 120, .inl (fun _ => 0)))]) ++ [(q4, .inl (T 1, 8, .inl (fun _ => 0)))]) ++ [(q5, .inl (T 1, 9, .inl (fun _ => 0)))]) ++ [(q6, .inl (T 1, 4, .inl (fun _ => 0)))]) ++ [(q7, .inl (T 0, 4, .inr (.inl (fun _ => 0))))]) ++ [(q8, .inl (T 0, 1809, .inr (.inl (fun _ => 0))))]) ++ [(q9, .inl (T 0, 1809, .inr (.inl (fun _ => 0))))]) ++ [(q10, .inl (T 0, 201, .inr (.inl (fun _ => 0))))]) ++ [(q11, .inl (T 1, 120, .inl (fun _ => 0)))])) rfl (vp_in_iff.mpr (by decide)) rfl C dX10_init_112 ?_
  refine v_aload_n 0 C dX10_init_113 rfl rfl ?_
  refine v_getAny (q0 := 0) (ci := 8) (Cn := RX10) (TT := TX10) (NN := 28) inG10 rfl rfl 0 (by decide) wfieldLink_RX10_7_LineEchoesModel_m_J rfl C dX10_init_114 ?_
  refine v_bipush (v := 20) C dX10_init_117 (by decide) ?_
  refine v_lconst (v := 1) C dX10_init_119 (by decide) ?_
  refine v_lasAny (q0 := 1) (ws' := ((((((((((([(b, .inr (8, [.ref q1, .ref q2, .int 0, .ref q3, .int 0, .int 0, .int 0, .ref q4, .ref q5, .int 0, .ref q6, .ref q7, .ref q8, .ref q9, .ref q10, .long 0, .long 0, .int 0, .int 0, .int 0, .long 0, .int 0, .int 0, .int 0, .int 0, .int 0, .ref q11, .long 0]))] ++ [(q1, .inl (T 0, 431, .inr (.inl (vp_updL (vp_updL (vp_updL (fun _ => 0) 18 1) 19 100) 20 1))))]) ++ [(q2, .inl (T 0, 1293, .inr (.inl (fun _ => 0))))]) ++ [(q3, .inl (T 1, 120, .inl (fun _ => 0)))]) ++ [(q4, .inl (T 1, 8, .inl (fun _ => 0)))]) ++ [(q5, .inl (T 1, 9, .inl (fun _ => 0)))]) ++ [(q6, .inl (T 1, 4, .inl (fun _ => 0)))]) ++ [(q7, .inl (T 0, 4, .inr (.inl (fun _ => 0))))]) ++ [(q8, .inl (T 0, 1809, .inr (.inl (fun _ => 0))))]) ++ [(q9, .inl (T 0, 1809, .inr (.inl (fun _ => 0))))]) ++ [(q10, .inl (T 0, 201, .inr (.inl (fun _ => 0))))]) ++ [(q11, .inl (T 1, 120, .inl (fun _ => 0)))])) rfl (vp_in_iff.mpr (by decide)) rfl C dX10_init_120 ?_
  refine v_aload_n 0 C dX10_init_121 rfl rfl ?_
  refine v_getAny (q0 := 0) (ci := 8) (Cn := RX10) (TT := TX10) (NN := 28) inG10 rfl rfl 0 (by decide) wfieldLink_RX10_7_LineEchoesModel_m_J rfl C dX10_init_122 ?_
  refine v_bipush (v := 22) C dX10_init_125 (by decide) ?_
  refine v_ldc2 C wconstantLong_RX10_46_100000 dX10_init_127 ?_
  refine v_lasAny (q0 := 1) (ws' := ((((((((((([(b, .inr (8, [.ref q1, .ref q2, .int 0, .ref q3, .int 0, .int 0, .int 0, .ref q4, .ref q5, .int 0, .ref q6, .ref q7, .ref q8, .ref q9, .ref q10, .long 0, .long 0, .int 0, .int 0, .int 0, .long 0, .int 0, .int 0, .int 0, .int 0, .int 0, .ref q11, .long 0]))] ++ [(q1, .inl (T 0, 431, .inr (.inl (vp_updL (vp_updL (vp_updL (vp_updL (fun _ => 0) 18 1) 19 100) 20 1) 22 100000))))]) ++ [(q2, .inl (T 0, 1293, .inr (.inl (fun _ => 0))))]) ++ [(q3, .inl (T 1, 120, .inl (fun _ => 0)))]) ++ [(q4, .inl (T 1, 8, .inl (fun _ => 0)))]) ++ [(q5, .inl (T 1, 9, .inl (fun _ => 0)))]) ++ [(q6, .inl (T 1, 4, .inl (fun _ => 0)))]) ++ [(q7, .inl (T 0, 4, .inr (.inl (fun _ => 0))))]) ++ [(q8, .inl (T 0, 1809, .inr (.inl (fun _ => 0))))]) ++ [(q9, .inl (T 0, 1809, .inr (.inl (fun _ => 0))))]) ++ [(q10, .inl (T 0, 201, .inr (.inl (fun _ => 0))))]) ++ [(q11, .inl (T 1, 120, .inl (fun _ => 0)))])) rfl (vp_in_iff.mpr (by decide)) rfl C dX10_init_130 ?_
  refine v_widen (k' := 11) (n' := 5808) (Nat.le_of_ble_eq_true rfl) (Nat.le_of_ble_eq_true rfl) ?_
  exact v_vret C (hret _ ⟨fun i => if i < 1 then b else if i < 2 then q1 else if i < 3 then q2 else if i < 4 then q3 else if i < 5 then q4 else if i < 6 then q5 else if i < 7 then q6 else if i < 8 then q7 else if i < 9 then q8 else if i < 10 then q9 else if i < 11 then q10 else q11, rfl, rfl⟩) dX10_init_131
