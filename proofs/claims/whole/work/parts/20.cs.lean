/-! THE WORDS OF THE COMMANDS: the JDK's own methods over these texts -/
section CSTR
variable {X : CxT} {G : SG} {T : Nat → ClassId} {E : Nat → Nat → Nat} {ws w w' : va_W} {cc : ByteArray} {own : String} {ret : Option FieldType} {nl fr lo k n ix : Nat} {lv : List (Nat × Value)} {pc : Nat} {rest As : List Value} {y : MethodName} {cc' : ByteArray} {nL' : Nat} {ret' : Option FieldType} {rm : Room} {r : Option Value} {D : va_G}
theorem v_nret {v : Int32} {ty : FieldType} (hn : narrow ty (.int v) = .int v) (C : Cx X G T cc own (some ty) nl fr lo) (hret : RetOK X k n (some (.int v)) ws) (hdg : decode cc pc = .ok (.ireturn, 1)) : V X k n ws lv pc [.int v] := by
  obtain ⟨p, l, e, R, s, m, args, below, meth, c, D, A, H0, nL, Q⟩ := X
  obtain ⟨hx, hb, hml, hown, hts, hK, hlocks, hr, hA, hnl, hfr, hlo, htr, hG, hGs, hH0⟩ := C
  intro H locs ls hP hD hS hl
  obtain ⟨Qc, free, hQ, hq, hf⟩ := hret H locs hP hD hS
  subst hQ
  exact W.zret hx hb hr hn hq hf hdg hlocks
theorem v_ishr {x y : Int32} (C : Cx X G T cc own ret nl fr lo) (hdg : decode cc pc = .ok (.ishr, 1)) (kk : V X k n ws lv (pc + 1) (.int (x >>> (y &&& 31)) :: rest)) : V X k n ws lv pc (.int y :: .int x :: rest) := by
  obtain ⟨p, l, e, R, s, m, args, below, meth, c, D, A, H0, nL, Q⟩ := X
  obtain ⟨hx, hb, hml, hown, hts, hK, hlocks, hr, hA, hnl, hfr, hlo, htr, hG, hGs, hH0⟩ := C
  intro H locs ls hP hD hS hl
  exact lv_ishr hx hb hdg (kk H locs ls hP hD hS hl)
theorem v_i2c {x v : Int32} (C : Cx X G T cc own ret nl fr lo) (hdg : decode cc pc = .ok (.i2c, 1)) (hv : (x.toUInt32 % 65536).toInt32 = v) (kk : V X k n ws lv (pc + 1) (.int v :: rest)) : V X k n ws lv pc (.int x :: rest) := by
  obtain ⟨p, l, e, R, s, m, args, below, meth, c, D, A, H0, nL, Q⟩ := X
  obtain ⟨hx, hb, hml, hown, hts, hK, hlocks, hr, hA, hnl, hfr, hlo, htr, hG, hGs, hH0⟩ := C
  intro H locs ls hP hD hS hl
  exact lv_i2c hx hb hdg hv (kk H locs ls hP hD hS hl)
theorem v_null (C : Cx X G T cc own ret nl fr lo) (hdg : decode cc pc = .ok (.aconst_null, 1)) (kk : V X k n ws lv (pc + 1) (.null :: rest)) : V X k n ws lv pc rest := by
  obtain ⟨p, l, e, R, s, m, args, below, meth, c, D, A, H0, nL, Q⟩ := X
  obtain ⟨hx, hb, hml, hown, hts, hK, hlocks, hr, hA, hnl, hfr, hlo, htr, hG, hGs, hH0⟩ := C
  intro H locs ls hP hD hS hl
  exact lv_null hx hb hdg (kk H locs ls hP hD hS hl)
theorem v_aloadN_n {i : Fin 4} {i2 : Nat} (j : Nat) (C : Cx X G T cc own ret nl fr lo) (hdg : decode cc pc = .ok (.aload_n i, 1)) (hi : (i : Nat) = i2) (hj : lv[j]? = some (i2, .null)) (kk : V X k n ws lv (pc + 1) (.null :: rest)) : V X k n ws lv pc rest := by
  obtain ⟨p, l, e, R, s, m, args, below, meth, c, D, A, H0, nL, Q⟩ := X
  obtain ⟨hx, hb, hml, hown, hts, hK, hlocks, hr, hA, hnl, hfr, hlo, htr, hG, hGs, hH0⟩ := C
  intro H locs ls hP hD hS hl
  exact lv_aload_nN hx hb hdg hi (lv_at hl j hj) (kk H locs ls hP hD hS hl)
theorem v_astoreN_n {i : Fin 4} {i2 : Nat} (lv' : List (Nat × Value)) (ks : List Nat) (C : Cx X G T cc own ret nl fr lo) (hdg : decode cc pc = .ok (.astore_n i, 1)) (hi : (i : Nat) = i2) (hn : i2 < nl) (hk : lv_pick ((i2, Value.null) :: lv.filter (fun q => !(q.1 == i2) && !(q.1 + 1 == i2 && q.2.category == 2))) ks = lv') (kk : V X k n ws lv' (pc + 1) rest) : V X k n ws lv pc (.null :: rest) := by
  obtain ⟨p, l, e, R, s, m, args, below, meth, c, D, A, H0, nL, Q⟩ := X
  obtain ⟨hx, hb, hml, hown, hts, hK, hlocks, hr, hA, hnl, hfr, hlo, htr, hG, hGs, hH0⟩ := C
  intro H locs ls hP hD hS hl
  subst hnl
  exact lv_astore_nN hx hb hdg hi hl hn rfl (fun ls2 hl2 => kk H locs ls2 hP hD hS (lv_sub hl2 ks hk))
theorem v_ifnonnullN {off : Int} (C : Cx X G T cc own ret nl fr lo) (hdg : decode cc pc = .ok (.ifnonnull off, 3)) (kk : V X k n ws lv (pc + 3) rest) : V X k n ws lv pc (.null :: rest) := by
  obtain ⟨p, l, e, R, s, m, args, below, meth, c, D, A, H0, nL, Q⟩ := X
  obtain ⟨hx, hb, hml, hown, hts, hK, hlocks, hr, hA, hnl, hfr, hlo, htr, hG, hGs, hH0⟩ := C
  intro H locs ls hP hD hS hl
  exact lv_ifnonnullN hx hb hdg (kk H locs ls hP hD hS hl)
theorem v_ifnonnull {x : Nat} {off : Int} (tgt : Nat) (C : Cx X G T cc own ret nl fr lo) (hdg : decode cc pc = .ok (.ifnonnull off, 3)) (ht : (pc : Int) + off = (tgt : Int)) (kk : V X k n ws lv tgt rest) : V X k n ws lv pc (.ref x :: rest) := by
  obtain ⟨p, l, e, R, s, m, args, below, meth, c, D, A, H0, nL, Q⟩ := X
  obtain ⟨hx, hb, hml, hown, hts, hK, hlocks, hr, hA, hnl, hfr, hlo, htr, hG, hGs, hH0⟩ := C
  intro H locs ls hP hD hS hl
  exact lv_ifnonnull hx hb hdg ht (kk H locs ls hP hD hS hl)
theorem v_aretV {v : Value} {cn : String} (hv : v = .null ∨ ∃ a, v = .ref a) (C : Cx X G T cc own (some (.object cn)) nl fr lo) (hret : RetOK X k n (some v) ws) (hdg : decode cc pc = .ok (.areturn, 1)) : V X k n ws lv pc [v] := by
  obtain ⟨p, l, e, R, s, m, args, below, meth, c, D, A, H0, nL, Q⟩ := X
  obtain ⟨hx, hb, hml, hown, hts, hK, hlocks, hr, hA, hnl, hfr, hlo, htr, hG, hGs, hH0⟩ := C
  intro H locs ls hP hD hS hl
  obtain ⟨Qc, free, hQ, hq, hf⟩ := hret H locs hP hD hS
  subst hQ
  exact W.aret hx hb hr (Or.inl ⟨_, rfl⟩) hv hq hf hdg hlocks
/-- a call on an object that stands from the start -/
theorem v_callVE {b : Nat} {Cn : String} (np : Nat) (C : Cx X G T cc own ret nl fr lo) (hcap : CapOK X k n) (hM : ∀ D, MetM G y cc' nL' ret' rm D T (.ref b :: As) w r w') (gw : GoodIn wsG (wsV own ix Cn y (Cond.code y cc' nL' ret' :: wsG)))
    (hd : y.cls = Cn ∧ y.cls ≠ "java/lang/invoke/MethodHandle" ∧ y.cls ≠ "java/lang/invoke/VarHandle" ∧ (parseMethodDescriptor y.desc).map (fun d => d.parameters.length) = some np) (hR : rm.frames + 1 ≤ fr ∧ 8 + (nL' + 11) + rm.locals ≤ lo) (hrm : rm.cells = 0 ∧ rm.slots = 0)
    (hrv : ∀ (A : Nat → Prop) (U : State) (H : Heap), G A U H → ∃ cell : Cell, H[b]? = some cell ∧ cell.vm.isStatics = false ∧ U.vm.findClass Cn = some cell.cls) (hnp : As.length = np) (hst : (rest.map fun v => v.category).sum ≤ 8) (hdg : decode cc pc = .ok (.invokevirtual ix, 3)) (kk : V X k n w' lv (pc + 3) (r.toList ++ rest)) : V X k n w lv pc (As.reverse ++ .ref b :: rest) := by
  obtain ⟨p, l, e, R, s, m, args, below, meth, c, D, A, H0, nL, Q⟩ := X
  obtain ⟨hx, hb, hml, hown, hts, hK, hlocks, hr, hA, hnl, hfr, hlo, htr, hG, hGs, hH0⟩ := C
  intro H locs ls hP hD hS hl
  have hFr : ∀ q, va_A w H.size q → A q := fun q h => by
    rcases h with ⟨j, x, h⟩ | h
    · exact hD.2 j _ h
    · exact hA q (Nat.le_trans hS.1 h)
  exact v_after (va_runV (As := As) (rest := rest) (nL := nL) ⟨hx, hb, hml, hown, hts⟩ (hM D hG l htr H.size) (cwV np hts gw rfl hrm.1 hrm.2 hd ⟨Nat.le_trans hR.1 hfr, Nat.le_trans hR.2 hlo⟩) ⟨MetM.blind hG, hrv _ _ _ (hG.2.1 _ _ _ _ hGs hS.2.1), fun U hU hW => ⟨rfl, by rw [hU], by rw [hU]; exact hP, va_K.moved hW.alike hK, hD.weaken (fun _ _ _ _ => trivial), by rw [hU]; exact hG.1 _ s U _ hW (hG.2.2 _ _ _ _ (hG.2.1 _ _ _ _ hGs hS.2.1) (fun q h => hFr q h))⟩⟩ rfl hnp hl.1 rfl (lv_room hst) hdg hcap) hD hS hA hl kk
theorem rvC {i : Nat} (hi : i < 8) : ∀ (A : Nat → Prop) (U : State) (H : Heap), SFG E A U H → ∃ cell : Cell, H[E 0 i]? = some cell ∧ cell.vm.isStatics = false ∧ U.vm.findClass RX2 = some cell.cls := fun A U H h => by
  obtain ⟨cell, h1, h2, h3, -⟩ := (h.1.1.1 i hi).2.1
  exact ⟨cell, h1, h2, h3⟩
theorem rvS {i : Nat} (hi : i < 8) : ∀ (A : Nat → Prop) (U : State) (H : Heap), SFG E A U H → ∃ cell : Cell, H[E 4 i]? = some cell ∧ cell.vm.isStatics = false ∧ U.vm.findClass RJ0 = some cell.cls := fun A U H h => by
  obtain ⟨cell, h1, h2, h3, -⟩ := (h.2.1.1 i hi).1
  exact ⟨cell, h1, h2, h3⟩
theorem v_compact (hlk : Cond.fieldLink own ix "java/lang/String" "COMPACT_STRINGS" "Z" ∈ wsG) (C : Cx X (SFG E) T cc own ret nl fr lo) (hdg : decode cc pc = .ok (.getstatic ix, 3)) (kk : V X k n ws lv (pc + 3) (.int 1 :: rest)) : V X k n ws lv pc rest := by
  obtain ⟨p, l, e, R, s, m, args, below, meth, c, D, A, H0, nL, Q⟩ := X
  obtain ⟨hx, hb, hml, hown, hts, hK, hlocks, hr, hA, hnl, hfr, hlo, htr, hG, hGs, hH0⟩ := C
  intro H locs ls hP hD hS hl
  subst hH0
  exact va_gets hx hb hGs.2.2.2.1 hS hown (hts _ hlk) (fun _ h => h) hdg (kk H locs ls hP hD hS hl)
theorem v_coderf {i : Nat} (hi : i < 8) (hlk : Cond.fieldLink own ix "java/lang/String" "coder" "B" ∈ wsG) (C : Cx X (SFG E) T cc own ret nl fr lo) (hdg : decode cc pc = .ok (.getfield ix, 3)) (kk : V X k n ws lv (pc + 3) (.int 0 :: rest)) : V X k n ws lv pc (.ref (E 4 i) :: rest) := by
  obtain ⟨p, l, e, R, s, m, args, below, meth, c, D, A, H0, nL, Q⟩ := X
  obtain ⟨hx, hb, hml, hown, hts, hK, hlocks, hr, hA, hnl, hfr, hlo, htr, hG, hGs, hH0⟩ := C
  intro H locs ls hP hD hS hl
  subst hH0
  exact vk_getf hx hb (hGs.2.1.1 i hi).2.1 hS hown (hts _ hlk) (fun _ h => h) hdg (kk H locs ls hP hD hS hl)
theorem v_valuef {i : Nat} (hi : i < 8) (hlk : Cond.fieldLink own ix "java/lang/String" "value" "[B" ∈ wsG) (C : Cx X (SFG E) T cc own ret nl fr lo) (hdg : decode cc pc = .ok (.getfield ix, 3)) (kk : V X k n ws lv (pc + 3) (.ref (E 5 i) :: rest)) : V X k n ws lv pc (.ref (E 4 i) :: rest) := by
  obtain ⟨p, l, e, R, s, m, args, below, meth, c, D, A, H0, nL, Q⟩ := X
  obtain ⟨hx, hb, hml, hown, hts, hK, hlocks, hr, hA, hnl, hfr, hlo, htr, hG, hGs, hH0⟩ := C
  intro H locs ls hP hD hS hl
  subst hH0
  exact vk_getf hx hb (hGs.2.1.1 i hi).2.2.1 hS hown (hts _ hlk) (fun _ h => h) hdg (kk H locs ls hP hD hS hl)
theorem v_wordf {i : Nat} (hi : i < 8) (hlk : Cond.fieldLink own ix "LineEchoes$Command" "word" "Ljava/lang/String;" ∈ wsG) (C : Cx X (SFG E) T cc own ret nl fr lo) (hdg : decode cc pc = .ok (.getfield ix, 3)) (kk : V X k n ws lv (pc + 3) (.ref (E 4 i) :: rest)) : V X k n ws lv pc (.ref (E 0 i) :: rest) := by
  obtain ⟨p, l, e, R, s, m, args, below, meth, c, D, A, H0, nL, Q⟩ := X
  obtain ⟨hx, hb, hml, hown, hts, hK, hlocks, hr, hA, hnl, hfr, hlo, htr, hG, hGs, hH0⟩ := C
  intro H locs ls hP hD hS hl
  subst hH0
  exact vk_getf hx hb (hGs.2.2.1 i hi) hS hown (hts _ hlk) (fun _ h => h) hdg (kk H locs ls hP hD hS hl)
theorem v_bytlen {i : Nat} (hi : i < 8) (C : Cx X (SFG E) T cc own ret nl fr lo) (hdg : decode cc pc = .ok (.arraylength, 1)) (kk : V X k n ws lv (pc + 1) (.int (nI (wlen.getD i 0)) :: rest)) : V X k n ws lv pc (.ref (E 5 i) :: rest) := by
  obtain ⟨p, l, e, R, s, m, args, below, meth, c, D, A, H0, nL, Q⟩ := X
  obtain ⟨hx, hb, hml, hown, hts, hK, hlocks, hr, hA, hnl, hfr, hlo, htr, hG, hGs, hH0⟩ := C
  intro H locs ls hP hD hS hl
  subst hH0
  exact va_tlen hx hb (hGs.2.1.1 i hi).2.2.2 hS rfl hdg (kk H locs ls hP hD hS hl)
theorem v_bytld {i : Nat} {j : Int32} (hi : i < 8) (hj : vp_in j (wlen.getD i 0)) (C : Cx X (SFG E) T cc own ret nl fr lo) (hdg : decode cc pc = .ok (.baload, 1)) (kk : V X k n ws lv (pc + 1) (.int ((wbyt.getD i []).getD j.toNatClampNeg 0) :: rest)) : V X k n ws lv pc (.int j :: .ref (E 5 i) :: rest) := by
  obtain ⟨p, l, e, R, s, m, args, below, meth, c, D, A, H0, nL, Q⟩ := X
  obtain ⟨hx, hb, hml, hown, hts, hK, hlocks, hr, hA, hnl, hfr, hlo, htr, hG, hGs, hH0⟩ := C
  intro H locs ls hP hD hS hl
  subst hH0
  exact va_tb hx hb (hGs.2.1.1 i hi).2.2.2 hS hj rfl hdg (kk H locs ls hP hD hS hl)
theorem v_all (hlk : Cond.fieldLink own ix "LineEchoes$Command" "ALL" "[LLineEchoes$Command;" ∈ wsG) (C : Cx X (SFG E) T cc own ret nl fr lo) (hdg : decode cc pc = .ok (.getstatic ix, 3)) (kk : V X k n ws lv (pc + 3) (.ref (E 2 1) :: rest)) : V X k n ws lv pc rest := by
  obtain ⟨p, l, e, R, s, m, args, below, meth, c, D, A, H0, nL, Q⟩ := X
  obtain ⟨hx, hb, hml, hown, hts, hK, hlocks, hr, hA, hnl, hfr, hlo, htr, hG, hGs, hH0⟩ := C
  intro H locs ls hP hD hS hl
  subst hH0
  exact va_gets hx hb hGs.2.2.2.2.2.1 hS hown (hts _ hlk) (fun _ h => h) hdg (kk H locs ls hP hD hS hl)
theorem v_alllen (C : Cx X (SFG E) T cc own ret nl fr lo) (hdg : decode cc pc = .ok (.arraylength, 1)) (kk : V X k n ws lv (pc + 1) (.int 8 :: rest)) : V X k n ws lv pc (.ref (E 2 1) :: rest) := by
  obtain ⟨p, l, e, R, s, m, args, below, meth, c, D, A, H0, nL, Q⟩ := X
  obtain ⟨hx, hb, hml, hown, hts, hK, hlocks, hr, hA, hnl, hfr, hlo, htr, hG, hGs, hH0⟩ := C
  intro H locs ls hP hD hS hl
  subst hH0
  exact va_tlen (v := 8) hx hb hGs.2.2.2.2.2.2.1 hS rfl hdg (kk H locs ls hP hD hS hl)
theorem v_allget {i : Int32} {β : Type} {K : Nat → Option β} {o : β} (C : Cx X (SFG E) T cc own ret nl fr lo) (hdg : decode cc pc = .ok (.aaload, 1)) (hf : chk (inb i 8) (nm i.toNatClampNeg K) = some o) (kk : ∀ z, K z = some o → V X k n ws lv (pc + 1) (.ref (E 0 z) :: rest)) : V X k n ws lv pc (.int i :: .ref (E 2 1) :: rest) := by
  obtain ⟨hin, hf⟩ := chk_some hf
  replace kk := kk _ hf
  obtain ⟨p, l, e, R, s, m, args, below, meth, c, D, A, H0, nL, Q⟩ := X
  obtain ⟨hx, hb, hml, hown, hts, hK, hlocks, hr, hA, hnl, hfr, hlo, htr, hG, hGs, hH0⟩ := C
  intro H locs ls hP hD hS hl
  subst hH0
  exact vb_tq hx hb hGs.2.2.2.2.2.2.1 hS (vp_in_iff.mpr hin) rfl hdg (kk H locs ls hP hD hS hl)
abbrev rmZ (f l : Nat) : Room := { frames := f, cells := 0, slots := 0, locals := l }
theorem Cm_coder {i : Nat} (hi : i < 8) : MetM (SFG E) yJ0_coder_7d493 cJ0_coder_7d493 1 (some .byte) (rmZ 0 0) D T [.ref (E 4 i)] w (some (.int 0)) w :=
  MetM.of [(0, .ref (E 4 i))] (by decide) (Nat.le_of_ble_eq_true rfl) rfl (fun X C hret => by
    refine v_compact wfieldLink_RJ0_38_java_lang_String_COMPACT_STRINGS_Z C dJ0_coder_7d493_0 ?_
    refine v_if_eq (e1 := (0 : Nat)) (e2 := 1) (o := 1) 13 C dJ0_coder_7d493_3 (by decide) (by decide) (fun c _ => absurd c (by decide)) (fun c _ => ?_)
    refine v_aload_n 0 C dJ0_coder_7d493_6 rfl rfl ?_
    refine v_coderf hi wfieldLink_RJ0_15_java_lang_String_coder_B C dJ0_coder_7d493_7 ?_
    refine v_goto 14 C dJ0_coder_7d493_10 (by decide) ?_
    exact v_nret rfl C hret dJ0_coder_7d493_14)
theorem Cm_isLatin1 {i : Nat} (hi : i < 8) : MetM (SFG E) yJ0_isLatin1_aae02 cJ0_isLatin1_aae02 1 (some .boolean) (rmZ 0 0) D T [.ref (E 4 i)] w (some (.int 1)) w :=
  MetM.of [(0, .ref (E 4 i))] (by decide) (Nat.le_of_ble_eq_true rfl) rfl (fun X C hret => by
    refine v_compact wfieldLink_RJ0_38_java_lang_String_COMPACT_STRINGS_Z C dJ0_isLatin1_aae02_0 ?_
    refine v_if_eq (e1 := (0 : Nat)) (e2 := 1) (o := 1) 17 C dJ0_isLatin1_aae02_3 (by decide) (by decide) (fun c _ => absurd c (by decide)) (fun c _ => ?_)
    refine v_aload_n 0 C dJ0_isLatin1_aae02_6 rfl rfl ?_
    refine v_coderf hi wfieldLink_RJ0_15_java_lang_String_coder_B C dJ0_isLatin1_aae02_7 ?_
    refine v_if_ne (e1 := (0 : Nat)) (e2 := 1) (o := 0) 17 C dJ0_isLatin1_aae02_10 (by decide) (by decide) (fun c _ => ?_) (fun c _ => absurd rfl c)
    refine v_iconst (v := 1) C dJ0_isLatin1_aae02_13 (by decide) ?_
    refine v_goto 18 C dJ0_isLatin1_aae02_14 (by decide) ?_
    exact v_zret (Or.inr rfl) C hret dJ0_isLatin1_aae02_18)
theorem shr0 {i : Nat} (hi : i < 8) : nI (wlen.getD i 0) >>> ((0 : Int32) &&& 31) = nI (wlen.getD i 0) := by
  rcases (show i = 0 ∨ i = 1 ∨ i = 2 ∨ i = 3 ∨ i = 4 ∨ i = 5 ∨ i = 6 ∨ i = 7 by omega) with rfl | rfl | rfl | rfl | rfl | rfl | rfl | rfl <;> rfl
theorem Cm_length {i : Nat} (hi : i < 8) : MetM (SFG E) yJ0_length_8abf5 cJ0_length_8abf5 1 (some .int) (rmZ 1 20) D T [.ref (E 4 i)] w (some (.int (nI (wlen.getD i 0)))) w :=
  MetM.of [(0, .ref (E 4 i))] (by decide) (Nat.le_of_ble_eq_true rfl) rfl (fun X C hret => by
    refine v_aload_n 0 C dJ0_length_8abf5_0 rfl rfl ?_
    refine v_valuef hi wfieldLink_RJ0_9_java_lang_String_value_B C dJ0_length_8abf5_1 ?_
    refine v_bytlen hi C dJ0_length_8abf5_4 ?_
    refine v_aload_n 0 C dJ0_length_8abf5_5 rfl rfl ?_
    refine v_callVE (As := []) (rest := [.int (nI (wlen.getD i 0))]) 0 C (CapOK.z X) (fun D => Cm_coder hi) (goodV wmethodLink_RJ0_335_yJ0_coder_7d493 winstanceMethod_yJ0_coder_7d493 wselects_RJ0_yJ0_coder_7d493_yJ0_coder_7d493 winitialized_RJ0 wcode_yJ0_coder_7d493_cJ0_coder_7d493_1_some_byte) (by decide +kernel) (by decide) ⟨rfl, rfl⟩ (rvS hi) rfl (Nat.le_of_ble_eq_true rfl) dJ0_length_8abf5_6 ?_
    refine v_ishr C dJ0_length_8abf5_9 ?_
    rw [shr0 hi]
    exact v_iret C hret dJ0_length_8abf5_10)
theorem Cm_checkIndex3 {i n : Int32} {v : Value} (hv : v = .null ∨ ∃ a, v = .ref a) (h0 : ¬ i < 0) (h1 : i < n) : MetM (SFG E) yJ3_checkIndex_8e157 cJ3_checkIndex_8e157 3 (some .int) (rmZ 0 0) D T [.int i, .int n, v] w (some (.int i)) w := by
  have hc : v.category = 1 := by rcases hv with rfl | ⟨a, rfl⟩ <;> rfl
  refine MetM.of [(0, .int i), (1, .int n), (2, v)] (by decide) ?_ ?_ (fun X C hret => ?_)
  · rcases hv with rfl | ⟨a, rfl⟩ <;> exact Nat.le_of_ble_eq_true rfl
  · rcases hv with rfl | ⟨a, rfl⟩ <;> rfl
  · refine v_iload_n 0 C dJ3_checkIndex_8e157_0 rfl rfl ?_
    refine v_if_lt (e1 := (0 : Nat)) (e2 := 1) (o := 1) 9 C dJ3_checkIndex_8e157_1 (by decide) (if_neg h0) (fun c _ => absurd c h0) (fun c _ => ?_)
    refine v_iload_n 0 C dJ3_checkIndex_8e157_4 rfl rfl ?_
    refine v_iload_n 1 C dJ3_checkIndex_8e157_5 rfl rfl ?_
    refine v_icmp_lt (e1 := (0 : Nat)) (e2 := 1) (o := 0) 16 C dJ3_checkIndex_8e157_6 (by decide) (if_pos h1) (fun c _ => ?_) (fun c _ => absurd h1 c)
    refine v_iload_n 0 C dJ3_checkIndex_8e157_16 rfl rfl ?_
    exact v_iret C hret dJ3_checkIndex_8e157_17
theorem Cm_checkIndex0 {i n : Int32} (h0 : ¬ i < 0) (h1 : i < n) : MetM (SFG E) yJ0_checkIndex_df160 cJ0_checkIndex_df160 2 none (rmZ 1 22) D T [.int i, .int n] w none w :=
  MetM.of [(0, .int i), (1, .int n)] (by decide) (Nat.le_of_ble_eq_true rfl) rfl (fun X C hret => by
    refine v_iload_n 0 C dJ0_checkIndex_df160_0 rfl rfl ?_
    refine v_iload_n 1 C dJ0_checkIndex_df160_1 rfl rfl ?_
    have hk : ∀ v : Value, (v = .null ∨ ∃ a, v = .ref a) → V X 0 0 w [(0, .int i), (1, .int n)] (0 + 1 + 1 + 3) [v, .int n, .int i] := fun v hv => by
      refine v_callS2 (As := [.int i, .int n, v]) (rest := []) 3 C (CapOK.z X) (fun D => Cm_checkIndex3 hv h0 h1) wmethodLink_RJ0_1059_yJ3_checkIndex_8e157 wcode_yJ3_checkIndex_8e157_cJ3_checkIndex_8e157_3_some_int wstatic_yJ3_checkIndex_8e157 winitialized_RJ3 (by decide +kernel) (by decide) ⟨rfl, rfl⟩ rfl (Nat.le_of_ble_eq_true rfl) dJ0_checkIndex_df160_5 ?_
      refine v_pop C dJ0_checkIndex_df160_8 rfl ?_
      exact v_vret C hret dJ0_checkIndex_df160_9
    clear hret
    obtain ⟨p, l, e, R, s, m, args, below, meth, c, D, A, H0, nL, Q⟩ := X
    obtain ⟨hx, hb, hml, hown, hts, hK, hlocks, hr, hA, hnl, hfr, hlo, htr, hG, hGs, hH0⟩ := C
    intro H locs ls hP hD hS hl
    subst hH0
    rcases hGs.2.2.2.2.1 with h | ⟨t, h⟩
    · exact va_gets hx hb h hS hown (hts _ wfieldLink_RJ0_1053_jdk_internal_util_Preconditions_SIOOBE_FORMATTER_Ljava_util_function_BiFunction) (fun _ h => h) dJ0_checkIndex_df160_2 (hk _ (Or.inl rfl) H locs ls hP hD hS hl)
    · exact va_gets hx hb h hS hown (hts _ wfieldLink_RJ0_1053_jdk_internal_util_Preconditions_SIOOBE_FORMATTER_Ljava_util_function_BiFunction) (fun _ h => h) dJ0_checkIndex_df160_2 (hk _ (Or.inr ⟨t, rfl⟩) H locs ls hP hD hS hl))
/-- the char at k of the word i -/
def wch (i k : Nat) : Int32 := (wbyt.getD i []).getD k 0
theorem wch_c {i k : Nat} (hi : i < 8) (hk : k < wlen.getD i 0) : (((wbyt.getD i []).getD k 0 &&& 255).toUInt32 % 65536).toInt32 = wch i k ∧ narrow .char (.int (wch i k)) = .int (wch i k) := by
  have h : ∀ i, i < 8 → ∀ k, k < wlen.getD i 0 → (((wbyt.getD i []).getD k 0 &&& 255).toUInt32 % 65536).toInt32 = wch i k ∧ narrow .char (.int (wch i k)) = .int (wch i k) := by decide +kernel
  exact h i hi k hk
theorem wlen_lt {i : Nat} (hi : i < 8) : wlen.getD i 0 < 6 := by
  have h : ∀ i, i < 8 → wlen.getD i 0 < 6 := by decide
  exact h i hi
theorem Cm_charAt1 {i : Nat} {j : Int32} (hi : i < 8) (hj : inb j (wlen.getD i 0)) : MetM (SFG E) yJ1_charAt_3b067 cJ1_charAt_3b067 2 (some .char) (rmZ 2 43) D T [.ref (E 5 i), .int j] w (some (.int (wch i j.toNatClampNeg))) w := by
  have hl := wlen_lt hi
  have hin := vp_in_iff.mpr hj
  obtain ⟨q, hq1, hq2⟩ := vp_in_of hin (by omega)
  have h0 : ¬ j < 0 := by rw [hq2]; exact nI_pos (by omega)
  have h1 : j < nI (wlen.getD i 0) := by rw [hq2]; exact nI_lt hq1 (by omega)
  have hw := wch_c hi (show j.toNatClampNeg < wlen.getD i 0 by rw [hq2, nI_clamp (by omega)]; exact hq1)
  refine MetM.of [(0, .ref (E 5 i)), (1, .int j)] (by decide) (Nat.le_of_ble_eq_true rfl) rfl (fun X C hret => ?_)
  refine v_iload_n 1 C dJ1_charAt_3b067_0 rfl rfl ?_
  refine v_aload_n 0 C dJ1_charAt_3b067_1 rfl rfl ?_
  refine v_bytlen hi C dJ1_charAt_3b067_2 ?_
  refine v_callS2 (As := [.int j, .int (nI (wlen.getD i 0))]) (rest := []) 2 C (CapOK.z X) (fun D => Cm_checkIndex0 h0 h1) wmethodLink_RJ1_9_yJ0_checkIndex_df160 wcode_yJ0_checkIndex_df160_cJ0_checkIndex_df160_2_none wstatic_yJ0_checkIndex_df160 winitialized_RJ0 (by decide +kernel) (by decide) ⟨rfl, rfl⟩ rfl (Nat.le_of_ble_eq_true rfl) dJ1_charAt_3b067_3 ?_
  refine v_aload_n 0 C dJ1_charAt_3b067_6 rfl rfl ?_
  refine v_iload_n 1 C dJ1_charAt_3b067_7 rfl rfl ?_
  refine v_bytld hi hin C dJ1_charAt_3b067_8 ?_
  refine v_sipush (v := 255) C dJ1_charAt_3b067_9 (by decide) ?_
  refine v_iand (K := fun z => z) (o := (wbyt.getD i []).getD j.toNatClampNeg 0 &&& 255) C dJ1_charAt_3b067_12 rfl (fun z hz => ?_)
  subst hz
  refine v_i2c C dJ1_charAt_3b067_13 hw.1 ?_
  exact v_nret hw.2 C hret dJ1_charAt_3b067_14
theorem Cm_charAt0 {i : Nat} {j : Int32} (hi : i < 8) (hj : inb j (wlen.getD i 0)) : MetM (SFG E) yJ0_charAt_5068e cJ0_charAt_5068e 2 (some .char) (rmZ 3 64) D T [.ref (E 4 i), .int j] w (some (.int (wch i j.toNatClampNeg))) w := by
  have hl := wlen_lt hi
  obtain ⟨q, hq1, hq2⟩ := vp_in_of (vp_in_iff.mpr hj) (by omega)
  have hw := wch_c hi (show j.toNatClampNeg < wlen.getD i 0 by rw [hq2, nI_clamp (by omega)]; exact hq1)
  refine MetM.of [(0, .ref (E 4 i)), (1, .int j)] (by decide) (Nat.le_of_ble_eq_true rfl) rfl (fun X C hret => ?_)
  refine v_aload_n 0 C dJ0_charAt_5068e_0 rfl rfl ?_
  refine v_callVE (As := []) (rest := []) 0 C (CapOK.z X) (fun D => Cm_isLatin1 hi) (goodV wmethodLink_RJ0_492_yJ0_isLatin1_aae02 winstanceMethod_yJ0_isLatin1_aae02 wselects_RJ0_yJ0_isLatin1_aae02_yJ0_isLatin1_aae02 winitialized_RJ0 wcode_yJ0_isLatin1_aae02_cJ0_isLatin1_aae02_1_some_boolean) (by decide +kernel) (by decide) ⟨rfl, rfl⟩ (rvS hi) rfl (Nat.le_of_ble_eq_true rfl) dJ0_charAt_5068e_1 ?_
  refine v_if_eq (e1 := (0 : Nat)) (e2 := 1) (o := 1) 16 C dJ0_charAt_5068e_4 (by decide) (by decide) (fun c _ => absurd c (by decide)) (fun c _ => ?_)
  refine v_aload_n 0 C dJ0_charAt_5068e_7 rfl rfl ?_
  refine v_valuef hi wfieldLink_RJ0_9_java_lang_String_value_B C dJ0_charAt_5068e_8 ?_
  refine v_iload_n 1 C dJ0_charAt_5068e_11 rfl rfl ?_
  refine v_callS2 (As := [.ref (E 5 i), .int j]) (rest := []) 2 C (CapOK.z X) (fun D => Cm_charAt1 hi hj) wmethodLink_RJ0_495_yJ1_charAt_3b067 wcode_yJ1_charAt_3b067_cJ1_charAt_3b067_2_some_char wstatic_yJ1_charAt_3b067 winitialized_RJ1 (by decide +kernel) (by decide) ⟨rfl, rfl⟩ rfl (Nat.le_of_ble_eq_true rfl) dJ0_charAt_5068e_12 ?_
  exact v_nret hw.2 C hret dJ0_charAt_5068e_15
/-- word.length(), word.charAt(j) -/
theorem Ce_strlen {i : Nat} {β : Type} {K : Int32 → Option β} {o : β} (hlk : Cond.methodLink own ix yJ0_length_8abf5 ∈ wsG) (C : Cx X (SFG E) T cc own ret nl fr lo) (hdg : decode cc pc = .ok (.invokevirtual ix, 3)) (hroom : 2 ≤ fr ∧ 40 ≤ lo) (hst : (rest.map fun v => v.category).sum ≤ 8) (hf : chk (i < 8) (nm (nI (wlen.getD i 0)) K) = some o) (kk : ∀ z, K z = some o → V X 0 0 ws lv (pc + 3) (.int z :: rest)) : V X 0 0 ws lv pc (.ref (E 4 i) :: rest) := by
  obtain ⟨hi, hf⟩ := chk_some hf
  exact v_callVE (As := []) (rest := rest) 0 C (CapOK.z X) (fun D => Cm_length hi) (goodV hlk winstanceMethod_yJ0_length_8abf5 wselects_RJ0_yJ0_length_8abf5_yJ0_length_8abf5 winitialized_RJ0 wcode_yJ0_length_8abf5_cJ0_length_8abf5_1_some_int) (by decide +kernel) ⟨hroom.1, Nat.le_trans (by decide) hroom.2⟩ ⟨rfl, rfl⟩ (rvS hi) rfl hst hdg (kk _ hf)
theorem Ce_charAt {i : Nat} {j : Int32} {β : Type} {K : Int32 → Option β} {o : β} (hlk : Cond.methodLink own ix yJ0_charAt_5068e ∈ wsG) (C : Cx X (SFG E) T cc own ret nl fr lo) (hdg : decode cc pc = .ok (.invokevirtual ix, 3)) (hroom : 4 ≤ fr ∧ 85 ≤ lo) (hst : (rest.map fun v => v.category).sum ≤ 8) (hf : chk (i < 8 ∧ inb j (wlen.getD i 0)) (nm (wch i j.toNatClampNeg) K) = some o) (kk : ∀ z, K z = some o → V X 0 0 ws lv (pc + 3) (.int z :: rest)) : V X 0 0 ws lv pc (.int j :: .ref (E 4 i) :: rest) := by
  obtain ⟨⟨hi, hj⟩, hf⟩ := chk_some hf
  exact v_callVE (As := [.int j]) (rest := rest) 1 C (CapOK.z X) (fun D => Cm_charAt0 hi hj) (goodV hlk winstanceMethod_yJ0_charAt_5068e wselects_RJ0_yJ0_charAt_5068e_yJ0_charAt_5068e winitialized_RJ0 wcode_yJ0_charAt_5068e_cJ0_charAt_5068e_2_some_char) (by decide +kernel) ⟨hroom.1, Nat.le_trans (by decide) hroom.2⟩ ⟨rfl, rfl⟩ (rvS hi) rfl hst hdg (kk _ hf)
theorem Ce_word {i : Nat} {β : Type} {K : Option β} {o : β} (hlk : Cond.fieldLink own ix "LineEchoes$Command" "word" "Ljava/lang/String;" ∈ wsG) (C : Cx X (SFG E) T cc own ret nl fr lo) (hdg : decode cc pc = .ok (.getfield ix, 3)) (hf : chk (i < 8) K = some o) (kk : K = some o → V X k n ws lv (pc + 3) (.ref (E 4 i) :: rest)) : V X k n ws lv pc (.ref (E 0 i) :: rest) := by
  obtain ⟨hi, hf⟩ := chk_some hf
  exact v_wordf hi hlk C hdg (kk hf)
end CSTR
