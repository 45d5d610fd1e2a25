theorem wmethodLink_RL_7_yX9_addPart : Cond.methodLink RL 7 yX9_addPart ∈ wsG := mG (seg3 (List.mem_of_getElem? (i := 235) rfl)) rfl
theorem winstanceMethod_yX9_addPart : Cond.instanceMethod yX9_addPart ∈ wsG := mG (seg3 (List.mem_of_getElem? (i := 236) rfl)) rfl
theorem wselects_RX9_yX9_addPart_yX9_addPart : Cond.selects RX9 yX9_addPart yX9_addPart ∈ wsG := mG (seg3 (List.mem_of_getElem? (i := 237) rfl)) rfl
theorem wcode_yX9_addPart_cX9_addPart_3_some_int : Cond.code yX9_addPart cX9_addPart 3 (some .int) ∈ wsG := mG (seg3 (List.mem_of_getElem? (i := 238) rfl)) rfl
theorem wclassLink_RL_13_java_lang_IllegalArgumentException : Cond.classLink RL 13 "java/lang/IllegalArgumentException" ∈ wsG := mG (seg3 (List.mem_of_getElem? (i := 233) rfl)) rfl
theorem wclassLink_RL_15_java_lang_IllegalStateException : Cond.classLink RL 15 "java/lang/IllegalStateException" ∈ wsG := mG (seg3 (List.mem_of_getElem? (i := 234) rfl)) rfl
theorem wmethodLink_RL_17_yX9_setPart : Cond.methodLink RL 17 yX9_setPart ∈ wsG := mG (seg4 (List.mem_of_getElem? (i := 46) rfl)) rfl
theorem winstanceMethod_yX9_setPart : Cond.instanceMethod yX9_setPart ∈ wsG := mG (seg4 (List.mem_of_getElem? (i := 47) rfl)) rfl
theorem wselects_RX9_yX9_setPart_yX9_setPart : Cond.selects RX9 yX9_setPart yX9_setPart ∈ wsG := mG (seg4 (List.mem_of_getElem? (i := 48) rfl)) rfl
theorem wcode_yX9_setPart_cX9_setPart_4_some_int : Cond.code yX9_setPart cX9_setPart 4 (some .int) ∈ wsG := mG (seg4 (List.mem_of_getElem? (i := 49) rfl)) rfl
theorem wclassLink_RL_21_java_lang_IndexOutOfBoundsException : Cond.classLink RL 21 "java/lang/IndexOutOfBoundsException" ∈ wsG := mG (seg4 (List.mem_of_getElem? (i := 45) rfl)) rfl
theorem wmethodLink_RL_23_yX9_removePart : Cond.methodLink RL 23 yX9_removePart ∈ wsG := mG (seg4 (List.mem_of_getElem? (i := 55) rfl)) rfl
theorem winstanceMethod_yX9_removePart : Cond.instanceMethod yX9_removePart ∈ wsG := mG (seg4 (List.mem_of_getElem? (i := 56) rfl)) rfl
theorem wselects_RX9_yX9_removePart_yX9_removePart : Cond.selects RX9 yX9_removePart yX9_removePart ∈ wsG := mG (seg4 (List.mem_of_getElem? (i := 57) rfl)) rfl
theorem wcode_yX9_removePart_cX9_removePart_2_some_int : Cond.code yX9_removePart cX9_removePart 2 (some .int) ∈ wsG := mG (seg4 (List.mem_of_getElem? (i := 58) rfl)) rfl
theorem wmethodLink_RL_27_yX9_splitPart : Cond.methodLink RL 27 yX9_splitPart ∈ wsG := mG (seg4 (List.mem_of_getElem? (i := 64) rfl)) rfl
theorem winstanceMethod_yX9_splitPart : Cond.instanceMethod yX9_splitPart ∈ wsG := mG (seg4 (List.mem_of_getElem? (i := 65) rfl)) rfl
theorem wselects_RX9_yX9_splitPart_yX9_splitPart : Cond.selects RX9 yX9_splitPart yX9_splitPart ∈ wsG := mG (seg4 (List.mem_of_getElem? (i := 66) rfl)) rfl
theorem wcode_yX9_splitPart_cX9_splitPart_4_some_int : Cond.code yX9_splitPart cX9_splitPart 4 (some .int) ∈ wsG := mG (seg4 (List.mem_of_getElem? (i := 67) rfl)) rfl
theorem wmethodLink_RL_30_yX9_setBench : Cond.methodLink RL 30 yX9_setBench ∈ wsG := mG (seg4 (List.mem_of_getElem? (i := 73) rfl)) rfl
theorem winstanceMethod_yX9_setBench : Cond.instanceMethod yX9_setBench ∈ wsG := mG (seg4 (List.mem_of_getElem? (i := 74) rfl)) rfl
theorem wselects_RX9_yX9_setBench_yX9_setBench : Cond.selects RX9 yX9_setBench yX9_setBench ∈ wsG := mG (seg4 (List.mem_of_getElem? (i := 75) rfl)) rfl
theorem wcode_yX9_setBench_cX9_setBench_5_some_int : Cond.code yX9_setBench cX9_setBench 5 (some .int) ∈ wsG := mG (seg4 (List.mem_of_getElem? (i := 76) rfl)) rfl
theorem wmethodLink_RL_33_yX9_addPulse : Cond.methodLink RL 33 yX9_addPulse ∈ wsG := mG (seg4 (List.mem_of_getElem? (i := 82) rfl)) rfl
theorem winstanceMethod_yX9_addPulse : Cond.instanceMethod yX9_addPulse ∈ wsG := mG (seg4 (List.mem_of_getElem? (i := 83) rfl)) rfl
theorem wselects_RX9_yX9_addPulse_yX9_addPulse : Cond.selects RX9 yX9_addPulse yX9_addPulse ∈ wsG := mG (seg4 (List.mem_of_getElem? (i := 84) rfl)) rfl
theorem wcode_yX9_addPulse_cX9_addPulse_3_some_int : Cond.code yX9_addPulse cX9_addPulse 3 (some .int) ∈ wsG := mG (seg4 (List.mem_of_getElem? (i := 85) rfl)) rfl
theorem wmethodLink_RL_36_yX9_removePulse : Cond.methodLink RL 36 yX9_removePulse ∈ wsG := mG (seg4 (List.mem_of_getElem? (i := 91) rfl)) rfl
theorem winstanceMethod_yX9_removePulse : Cond.instanceMethod yX9_removePulse ∈ wsG := mG (seg4 (List.mem_of_getElem? (i := 92) rfl)) rfl
theorem wselects_RX9_yX9_removePulse_yX9_removePulse : Cond.selects RX9 yX9_removePulse yX9_removePulse ∈ wsG := mG (seg4 (List.mem_of_getElem? (i := 93) rfl)) rfl
theorem wcode_yX9_removePulse_cX9_removePulse_2_some_int : Cond.code yX9_removePulse cX9_removePulse 2 (some .int) ∈ wsG := mG (seg4 (List.mem_of_getElem? (i := 94) rfl)) rfl
theorem wmethodLink_RL_39_yX9_part : Cond.methodLink RL 39 yX9_part ∈ wsG := mG (seg4 (List.mem_of_getElem? (i := 106) rfl)) rfl
theorem winstanceMethod_yX9_part : Cond.instanceMethod yX9_part ∈ wsG := mG (seg4 (List.mem_of_getElem? (i := 107) rfl)) rfl
theorem wselects_RX9_yX9_part_yX9_part : Cond.selects RX9 yX9_part yX9_part ∈ wsG := mG (seg4 (List.mem_of_getElem? (i := 108) rfl)) rfl
theorem wcode_yX9_part_cX9_part_3_some_int : Cond.code yX9_part cX9_part 3 (some .int) ∈ wsG := mG (seg4 (List.mem_of_getElem? (i := 109) rfl)) rfl
theorem wmethodLink_RL_42_yX9_bench : Cond.methodLink RL 42 yX9_bench ∈ wsG := mG (seg4 (List.mem_of_getElem? (i := 114) rfl)) rfl
theorem wmethodLink_RL_45_yX9_echo : Cond.methodLink RL 45 yX9_echo ∈ wsG := mG (seg4 (List.mem_of_getElem? (i := 118) rfl)) rfl
theorem wmethodLink_RL_49_yX9_echoTime : Cond.methodLink RL 49 yX9_echoTime ∈ wsG := mG (seg4 (List.mem_of_getElem? (i := 122) rfl)) rfl
theorem winstanceMethod_yX9_echoTime : Cond.instanceMethod yX9_echoTime ∈ wsG := mG (seg4 (List.mem_of_getElem? (i := 123) rfl)) rfl
theorem wselects_RX9_yX9_echoTime_yX9_echoTime : Cond.selects RX9 yX9_echoTime yX9_echoTime ∈ wsG := mG (seg4 (List.mem_of_getElem? (i := 124) rfl)) rfl
theorem wcode_yX9_echoTime_cX9_echoTime_5_some_int : Cond.code yX9_echoTime cX9_echoTime 5 (some .int) ∈ wsG := mG (seg4 (List.mem_of_getElem? (i := 125) rfl)) rfl
theorem wmethodLink_RL_52_yX9_total : Cond.methodLink RL 52 yX9_total ∈ wsG := mG (seg4 (List.mem_of_getElem? (i := 133) rfl)) rfl
theorem wmethodLink_RL_55_yX9_arrival : Cond.methodLink RL 55 yX9_arrival ∈ wsG := mG (seg4 (List.mem_of_getElem? (i := 137) rfl)) rfl
theorem winstanceMethod_yX9_arrival : Cond.instanceMethod yX9_arrival ∈ wsG := mG (seg4 (List.mem_of_getElem? (i := 138) rfl)) rfl
theorem wselects_RX9_yX9_arrival_yX9_arrival : Cond.selects RX9 yX9_arrival yX9_arrival ∈ wsG := mG (seg4 (List.mem_of_getElem? (i := 139) rfl)) rfl
theorem wcode_yX9_arrival_cX9_arrival_5_some_long : Cond.code yX9_arrival cX9_arrival 5 (some .long) ∈ wsG := mG (seg4 (List.mem_of_getElem? (i := 140) rfl)) rfl
theorem wmethodLink_RL_59_yX9_echoByte : Cond.methodLink RL 59 yX9_echoByte ∈ wsG := mG (seg4 (List.mem_of_getElem? (i := 144) rfl)) rfl
theorem winstanceMethod_yX9_echoByte : Cond.instanceMethod yX9_echoByte ∈ wsG := mG (seg4 (List.mem_of_getElem? (i := 145) rfl)) rfl
theorem wselects_RX9_yX9_echoByte_yX9_echoByte : Cond.selects RX9 yX9_echoByte yX9_echoByte ∈ wsG := mG (seg4 (List.mem_of_getElem? (i := 146) rfl)) rfl
theorem wcode_yX9_echoByte_cX9_echoByte_6_some_int : Cond.code yX9_echoByte cX9_echoByte 6 (some .int) ∈ wsG := mG (seg4 (List.mem_of_getElem? (i := 147) rfl)) rfl
theorem wmethodLink_RL_62_yX9_fault : Cond.methodLink RL 62 yX9_fault ∈ wsG := mG (seg4 (List.mem_of_getElem? (i := 161) rfl)) rfl
theorem wmethodLink_RL_65_yX9_setObserved : Cond.methodLink RL 65 yX9_setObserved ∈ wsG := mG (seg4 (List.mem_of_getElem? (i := 165) rfl)) rfl
theorem winstanceMethod_yX9_setObserved : Cond.instanceMethod yX9_setObserved ∈ wsG := mG (seg4 (List.mem_of_getElem? (i := 166) rfl)) rfl
theorem wselects_RX9_yX9_setObserved_yX9_setObserved : Cond.selects RX9 yX9_setObserved yX9_setObserved ∈ wsG := mG (seg4 (List.mem_of_getElem? (i := 167) rfl)) rfl
theorem wcode_yX9_setObserved_cX9_setObserved_6_some_long : Cond.code yX9_setObserved cX9_setObserved 6 (some .long) ∈ wsG := mG (seg4 (List.mem_of_getElem? (i := 168) rfl)) rfl
theorem wmethodLink_RL_69_yX9_observed : Cond.methodLink RL 69 yX9_observed ∈ wsG := mG (seg4 (List.mem_of_getElem? (i := 173) rfl)) rfl
theorem winstanceMethod_yX9_observed : Cond.instanceMethod yX9_observed ∈ wsG := mG (seg4 (List.mem_of_getElem? (i := 174) rfl)) rfl
theorem wselects_RX9_yX9_observed_yX9_observed : Cond.selects RX9 yX9_observed yX9_observed ∈ wsG := mG (seg4 (List.mem_of_getElem? (i := 175) rfl)) rfl
theorem wcode_yX9_observed_cX9_observed_2_some_long : Cond.code yX9_observed cX9_observed 2 (some .long) ∈ wsG := mG (seg4 (List.mem_of_getElem? (i := 176) rfl)) rfl
theorem wmethodLink_RL_72_yX9_peel : Cond.methodLink RL 72 yX9_peel ∈ wsG := mG (seg4 (List.mem_of_getElem? (i := 180) rfl)) rfl
theorem wmethodLink_RL_75_yX9_found : Cond.methodLink RL 75 yX9_found ∈ wsG := mG (seg4 (List.mem_of_getElem? (i := 184) rfl)) rfl
theorem winstanceMethod_yX9_found : Cond.instanceMethod yX9_found ∈ wsG := mG (seg4 (List.mem_of_getElem? (i := 185) rfl)) rfl
theorem wselects_RX9_yX9_found_yX9_found : Cond.selects RX9 yX9_found yX9_found ∈ wsG := mG (seg4 (List.mem_of_getElem? (i := 186) rfl)) rfl
theorem wcode_yX9_found_cX9_found_4_some_int : Cond.code yX9_found cX9_found 4 (some .int) ∈ wsG := mG (seg4 (List.mem_of_getElem? (i := 187) rfl)) rfl
theorem wmethodLink_RL_78_yX9_type : Cond.methodLink RL 78 yX9_type ∈ wsG := mG (seg4 (List.mem_of_getElem? (i := 191) rfl)) rfl
theorem winstanceMethod_yX9_type : Cond.instanceMethod yX9_type ∈ wsG := mG (seg4 (List.mem_of_getElem? (i := 192) rfl)) rfl
theorem wselects_RX9_yX9_type_yX9_type : Cond.selects RX9 yX9_type yX9_type ∈ wsG := mG (seg4 (List.mem_of_getElem? (i := 193) rfl)) rfl
theorem wcode_yX9_type_cX9_type_2_some_int : Cond.code yX9_type cX9_type 2 (some .int) ∈ wsG := mG (seg4 (List.mem_of_getElem? (i := 194) rfl)) rfl
theorem wmethodLink_RL_81_yX9_undo : Cond.methodLink RL 81 yX9_undo ∈ wsG := mG (seg4 (List.mem_of_getElem? (i := 204) rfl)) rfl
theorem winstanceMethod_yX9_undo : Cond.instanceMethod yX9_undo ∈ wsG := mG (seg4 (List.mem_of_getElem? (i := 205) rfl)) rfl
theorem wselects_RX9_yX9_undo_yX9_undo : Cond.selects RX9 yX9_undo yX9_undo ∈ wsG := mG (seg4 (List.mem_of_getElem? (i := 206) rfl)) rfl
theorem wcode_yX9_undo_cX9_undo_1_some_int : Cond.code yX9_undo cX9_undo 1 (some .int) ∈ wsG := mG (seg4 (List.mem_of_getElem? (i := 207) rfl)) rfl
/-! METHODS THAT CATCH -/
def TabIs (X : CxT) (hh : List (Nat × Nat × Nat × Nat)) : Prop := match X with
  | (p, l, e, R, s, m, args, below, meth, c, D, A, H0, nL, Q) => c.exceptionTable.toList = tableOf hh
/-- the contract of a static method with a table of its own, that returns; it may make one cell of six slots -/
def MetW (G : SG) (y : MethodName) (cc : ByteArray) (nL : Nat) (ret : Option FieldType) (hh : List (Nat × Nat × Nat × Nat)) (rm : Room) (D : va_G) (T : Nat → ClassId) (as : List Value) (w : va_W) (r : Option Value) (w' : va_W) : Prop :=
  Stat G → ∀ (l : Launch), l.stackTraces = false → ∀ sz : Nat, Met l y (Cond.codeWith y cc nL ret hh :: wsG) rm (va_Pc as (fun U => U.heap.size = sz ∧ va_P D vwCl w U.heap ∧ va_K D vwCl (tysT T) U ∧ va_D (fun _ => True) w ∧ G (va_A w sz) U U.heap)) (fun _ st oc t => oc = .returned r ∧ va_P D vwCl w' t.heap ∧ va_D (va_A w sz) w' ∧ va_F (va_A w sz) st t) 1 6 (va_A w sz)
theorem MetW.of {G : SG} {y : MethodName} {cc : ByteArray} {nL : Nat} {ret : Option FieldType} {hh : List (Nat × Nat × Nat × Nat)} {rm : Room} {D : va_G} {T : Nat → ClassId} {as : List Value} {w w' : va_W} {r : Option Value} (lv0 : List (Nat × Value)) (hy : plainName y.cls = true) (hlen : (lg_sl as).length ≤ nL) (hlv : lv_args 0 as = lv0) (hrm : rm.cells = 1 ∧ rm.slots = 6)
    (body : ∀ X : CxT, Cx X G T cc y.cls ret nL rm.frames rm.locals → CapOK X 1 6 → TabIs X hh → RetOK X 1 6 r w' → V X 0 0 w lv0 0 []) : MetW G y cc nL ret hh rm D T as w r w' := by
  intro hG l htr sz
  have h : vx_Met l y (Cond.codeWith y cc nL ret hh :: wsG) rm (va_Pc as (fun U => U.heap.size = sz ∧ va_P D vwCl w U.heap ∧ va_K D vwCl (tysT T) U ∧ va_D (fun _ => True) w ∧ G (va_A w sz) U U.heap)) (fun _ st oc t => oc = .returned r ∧ va_P D vwCl w' t.heap ∧ va_D (va_A w sz) w' ∧ va_F (va_A w sz) st t) (fun _ _ _ => False) 1 6 (va_A w sz) := by
    refine vx_ofWH (cc := cc) (maxL := nL) (ret := ret) (hh := hh) hy rfl ?_
    intro p e s m args below meth c s₁ B hml hv
    obtain ⟨rfl, hsz, hP, hK, hD0, hGs⟩ := hv
    subst hsz
    have hts := atoms_spec (ws := Cond.codeWith y cc nL ret hh :: wsG) B.pre
    have htab := vx_table (x := y) B (hts _ List.mem_cons_self)
    have hl := lv_entry as (n := nL) hlen
    rw [hlv] at hl
    rw [lg_entry_eq]
    refine vx_ret ?_
    exact body (p, l, e, rm, s, m, as.toArray, below, meth, c, D, va_A w s.heap.size, s.heap, nL, MQ below (fun _ st oc t => oc = .returned r ∧ va_P D vwCl w' t.heap ∧ va_D (va_A w s.heap.size) w' ∧ va_F (va_A w s.heap.size) st t) as.toArray s 1 6 (va_A w s.heap.size))
      ⟨B.exec, B.bytes, hml, findClass_of_methodNamed B.named, fun v h => hts v (List.mem_cons_of_mem _ h), hK, B.notSynchronized, B.returns, fun q h => Or.inr h, rfl, Nat.le_refl _, Nat.le_refl _, htr, hG, hGs, rfl⟩
      ⟨Nat.le_of_eq hrm.1.symm, Nat.le_of_eq hrm.2.symm⟩ htab
      (fun H locs hP hD hS => ⟨_, _, rfl, fun t ht hW => ⟨rfl, by rw [ht]; exact hP, hD, hS.F ht⟩, hS.2.2⟩)
      s.heap [] _ hP hD0.self va_S.rf hl
  exact met_mono h (fun _ _ hp => hp) (fun a s o t _ hq => by
    rcases hq with hq | ⟨q, -, E, ce, L, hf, -⟩
    · exact hq
    · exact hf.elim)
theorem MetW.frame {G : SG} {y : MethodName} {cc : ByteArray} {nL : Nat} {ret : Option FieldType} {hh : List (Nat × Nat × Nat × Nat)} {rm : Room} {D : va_G} {T : Nat → ClassId} {as : List Value} {w w' : va_W} {r : Option Value} (f : va_W) (h : MetW G y cc nL ret hh rm D T as w r w') : MetW G y cc nL ret hh rm D T as (w ++ f) r (w' ++ f) := by
  intro hG l htr sz
  refine met_mono (h hG l htr sz) (fun a s hp => pre_frame hG hp) (fun a s o t hp hq => ?_)
  obtain ⟨⟨h1, h2, h3, h4⟩, L, h5, h6⟩ := hq
  obtain ⟨p0, p1, p2, p3, p4, p5⟩ := hp
  obtain ⟨q1, q2⟩ := frame_post p2 p4 p1 h2 h3 h4.2
  exact ⟨⟨h1, q1, q2, h4.1, fun q hq hA => h4.2 q hq (fun z => hA (va_A_app z))⟩, L, h5, fun q hq => va_A_app (h6 q hq)⟩
section LAWR
variable {X : CxT} {T : Nat → ClassId} {E : Nat → Nat → Nat} {w w' : va_W} {cc : ByteArray} {own : String} {ret : Option FieldType} {nl fr lo k n ix : Nat} {lv : List (Nat × Value)} {pc : Nat} {rest As : List Value} {y : MethodName} {cc' : ByteArray} {nL' : Nat} {ret' : Option FieldType} {rm : Room} {r : Option Value} {hh : List (Nat × Nat × Nat × Nat)}
/-- a call that throws, and the row of the table that catches it -/
theorem v_catchV {e9 : String} {b q0 ci : Nat} {fs : List Value} {TT : u_T} {NN : Nat} {Cn : String} (np : Nat) (pre suf : List ExceptionTableEntry) (x9 : ExceptionTableEntry) (C : Cx X (SFG E) T cc own ret nl fr lo) (hcap : CapOK X 1 6) (htab : TabIs X hh) (hM : ∀ D, MetX (SFG E) y cc' nL' ret' rm D T (.ref b :: As) w e9 w') (gw : GoodIn wsG (wsV own ix Cn y (Cond.code y cc' nL' ret' :: wsG)))
    (hd : y.cls = Cn ∧ y.cls ≠ "java/lang/invoke/MethodHandle" ∧ y.cls ≠ "java/lang/invoke/VarHandle" ∧ (parseMethodDescriptor y.desc).map (fun d => d.parameters.length) = some np) (hR : rm.frames + 1 ≤ fr ∧ 8 + (nL' + 11) + rm.locals ≤ lo) (hrm : rm.cells = 1 ∧ rm.slots = 6)
    (hq : w[q0]? = some (b, .inr (ci, fs))) (hc : vwCl[ci]? = some (Cn, TT, NN)) (hnp : As.length = np) (hst : (rest.map fun v => v.category).sum ≤ 8) (hdg : decode cc pc = .ok (.invokevirtual ix, 3))
    (hsplit : tableOf hh = pre ++ x9 :: suf) (hpass : ∀ z ∈ pre, z.catchType ≠ 0 ∧ ∃ nm : String, Cond.classLink own z.catchType nm ∈ wsG ∧ ∀ (A : Nat → Prop) (U : State) (H : Heap), SFG E A U H → va_Nc e9 nm U) (hcov : covers x9 pc = true) (h0 : x9.catchType ≠ 0) (hlk : Cond.classLink own x9.catchType e9 ∈ wsG) (hcast : ∀ (A : Nat → Prop) (U : State) (H : Heap), SFG E A U H → va_Nw (.castable e9 e9) U)
    (kk : ∀ q : Nat, V X 1 6 w' lv x9.handlerPc [.ref q]) : V X 0 0 w lv pc (As.reverse ++ .ref b :: rest) := by
  obtain ⟨p, l, e, R, s, m, args, below, meth, c, D, A, H0, nL, Q⟩ := X
  obtain ⟨hx, hb, hml, hown, hts, hK, hlocks, hr, hA, hnl, hfr, hlo, htr, hG, hGs, hH0⟩ := C
  intro H locs ls hP hD hS hl
  have hFr : ∀ q, va_A w H.size q → A q := fun q h => by
    rcases h with ⟨j, x, h⟩ | h
    · exact hD.2 j _ h
    · exact hA q (Nat.le_trans hS.1 h)
  have run := vx_runV (As := As) (rest := rest) (nL := nL) (p := p) (l := l) (e := e) (R := R) (s := s) (m := m) (args := args) (below := below) (meth := meth) (c := c) (H := H) (locs := locs) (cells := 0) (slots := 0) (g := F0 m pc ls (As.reverse ++ .ref b :: rest)) ⟨hx, hb, hml, hown, hts⟩ (hM D hG l htr H.size) (cwV np hts gw rfl hrm.1 hrm.2 hd ⟨Nat.le_trans hR.1 hfr, Nat.le_trans hR.2 hlo⟩) ⟨MetM.blind hG, va_recv hK hP hc hq, fun U hU hW => ⟨rfl, by rw [hU], by rw [hU]; exact hP, va_K.moved hW.alike hK, hD.weaken (fun _ _ _ _ => trivial), by rw [hU]; exact hG.1 _ s U _ hW (hG.2.2 _ _ _ _ (hG.2.1 _ _ _ _ hGs hS.2.1) (fun q h => hFr q h))⟩⟩ rfl hnp hl.1 rfl (lv_room hst) hdg ⟨by rw [Nat.zero_add]; exact hcap.1, by rw [Nat.zero_add]; exact hcap.2⟩
  intro T0 hT0 Xs
  rcases run T0 hT0 Xs with ⟨v, st₀, t, T', L, h0, X', hL, e1, e2, hq9, st⟩ | ⟨q, st₀, t, T', L, E9, ce, hh0, X', hL, e1, e2, ⟨rfl, hP1, hD1, hF1⟩, hce, hcv, hcl, st⟩
  · exact hq9.elim
  · obtain ⟨k1, k2, k3⟩ := vx_keep hh0 e1 hS (fun q _ z => hFr q z) hFr hL hF1
    obtain ⟨t2, a1, b1⟩ := vx_catch (p := p) (l := l) (e := e) (R := R) (s := s) (m := m) (args := args) (below := below) (meth := meth) (c := c) (H := T'.heap) (locs := locs ++ L) (cells := 0 + 1) (slots := 0 + 6) (rest := rest) (ls := ls) (pc := pc) (q := q) hown pre x9 suf (htab.trans hsplit) (fun z hz => Or.inr ⟨(hpass z hz).1, by obtain ⟨nm, h1, h2⟩ := (hpass z hz).2; exact ⟨nm, hts _ h1, h2 _ _ _ hGs⟩⟩) hcov h0 (hts _ hlk) ((hcast _ _ _ hGs).use rfl) (by rw [e1]; exact hce) hcv hcl (kk q T'.heap (locs ++ L) ls (by rw [e1]; exact hP1) (hD1.weaken (fun _ _ _ h => hFr _ h)) k3 hl) T' rfl X'
    exact ⟨t2, st.trans a1, b1⟩
theorem castE (e : Nat) : ∀ (A : Nat → Prop) (U : State) (H : Heap), SFG E A U H → va_Nw (.castable (exN e) (exN e)) U := fun A U H h => by
  have h1 := h.1.2.2.2.2.2.2.2.1.2.2.2
  match e with
  | 0 => exact h1.1
  | 1 => exact h1.2.1
  | (e + 2) => exact h1.2.2
/-- a call of such a method -/
theorem v_callW (np : Nat) (C : Cx X (SFG E) T cc own ret nl fr lo) (hcap : CapOK X (k + 1) (n + 6)) (hM : ∀ D, MetW (SFG E) y cc' nL' ret' hh rm D T As w r w') (hl9 : Cond.methodLink own ix y ∈ wsG) (hcode : Cond.codeWith y cc' nL' ret' hh ∈ wsG) (hstat : Cond.static y ∈ wsG) (hini : Cond.initialized y.cls ∈ wsG)
    (hd : y.cls ≠ "java/lang/invoke/MethodHandle" ∧ y.cls ≠ "java/lang/invoke/VarHandle" ∧ (parseMethodDescriptor y.desc).map (fun d => d.parameters.length) = some np) (hR : rm.frames + 1 ≤ fr ∧ 8 + (nL' + 11) + rm.locals ≤ lo) (hrm : rm.cells = 1 ∧ rm.slots = 6)
    (hnp : As.length = np) (hst : (rest.map fun v => v.category).sum ≤ 8) (hdg : decode cc pc = .ok (.invokestatic ix, 3)) (kk : V X (k + 1) (n + 6) w' lv (pc + 3) (r.toList ++ rest)) : V X k n w lv pc (As.reverse ++ rest) := by
  obtain ⟨p, l, e, R, s, m, args, below, meth, c, D, A, H0, nL, Q⟩ := X
  obtain ⟨hx, hb, hml, hown, hts, hK, hlocks, hr, hA, hnl, hfr, hlo, htr, hG, hGs, hH0⟩ := C
  intro H locs ls hP hD hS hl
  have hFr : ∀ q, va_A w H.size q → A q := fun q h => by
    rcases h with ⟨j, x, h⟩ | h
    · exact hD.2 j _ h
    · exact hA q (Nat.le_trans hS.1 h)
  have hgw : GoodIn wsG (va_wsS own ix y (Cond.codeWith y cc' nL' ret' hh :: wsG)) := fun v hv => by
    refine goodG v ?_
    simp only [va_wsS, List.mem_append, List.mem_cons, List.not_mem_nil, or_false] at hv
    rcases hv with (rfl | rfl | rfl) | rfl | h <;> assumption
  have run := vx_runSW (As := As) (rest := rest) (nL := nL) (p := p) (l := l) (e := e) (R := R) (s := s) (m := m) (args := args) (below := below) (meth := meth) (c := c) (H := H) (locs := locs) (cells := k) (slots := n) (g := F0 m pc ls (As.reverse ++ rest)) ⟨hx, hb, hml, hown, hts⟩ (hM D hG l htr H.size) (vx_cwSW np hts hgw rfl hrm.1 hrm.2 hd ⟨Nat.le_trans hR.1 hfr, Nat.le_trans hR.2 hlo⟩) ⟨MetM.blind hG, fun U hU hW => ⟨rfl, by rw [hU], by rw [hU]; exact hP, va_K.moved hW.alike hK, hD.weaken (fun _ _ _ _ => trivial), by rw [hU]; exact hG.1 _ s U _ hW (hG.2.2 _ _ _ _ (hG.2.1 _ _ _ _ hGs hS.2.1) (fun q h => hFr q h))⟩⟩ rfl hnp hl.1 rfl (lv_room hst) hdg hcap
  intro T0 hT0 Xs
  obtain ⟨v, st₀, t, T', L, h0, X', hL, e1, e2, ⟨hv, hP1, hD1, hF1⟩, st⟩ := run T0 hT0 Xs
  cases hv
  obtain ⟨k1, k2, k3⟩ := vx_keep h0 e1 hS (fun q _ z => hFr q z) hFr hL hF1
  obtain ⟨t2, a1, b1⟩ := kk T'.heap (locs ++ L) ls (by rw [e1]; exact hP1) (hD1.weaken (fun _ _ _ h => hFr _ h)) k3 hl T' rfl X'
  exact ⟨t2, st t2 a1, b1⟩
end LAWR
