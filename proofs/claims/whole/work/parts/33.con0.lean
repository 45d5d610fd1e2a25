theorem winstanceMethod_java_lang_Object_init_V : Cond.instanceMethod ⟨"java/lang/Object", "<init>", "()V"⟩ ∈ wsG := mG (seg1 (List.mem_of_getElem? (i := 32) rfl)) rfl
theorem warrayClass_long : Cond.arrayClass .long ∈ wsG := mG (seg1 (List.mem_of_getElem? (i := 118) rfl)) rfl
theorem warrayClass_int : Cond.arrayClass .int ∈ wsG := mG (seg1 (List.mem_of_getElem? (i := 102) rfl)) rfl
theorem warrayClass_byte : Cond.arrayClass .byte ∈ wsG := mG (seg1 (List.mem_of_getElem? (i := 166) rfl)) rfl
theorem wObjCode : Cond.code Lib.objectInit ⟨#[0xb1]⟩ 1 none ∈ wsG := mG (seg1 (List.mem_of_getElem? (i := 33) rfl)) rfl
/-! CONSTRUCTORS: contracts of methods that make cells -/
def MetA (G : SG) (y : MethodName) (cc : ByteArray) (nL : Nat) (rm : Room) (D : va_G) (T : Nat → ClassId) (as : List Value) (w : va_W) (Wp : va_W → Prop) (mc ms : Nat) : Prop :=
  Stat G → ∀ (l : Launch), l.stackTraces = false → ∀ sz : Nat, Met l y (Cond.code y cc nL none :: wsG) rm (va_Pc as (fun U => U.heap.size = sz ∧ va_P D vwCl w U.heap ∧ va_K D vwCl (tysT T) U ∧ va_D (fun _ => True) w ∧ G (va_A w sz) U U.heap)) (fun _ st oc t => oc = .returned none ∧ ∃ w', Wp w' ∧ va_P D vwCl w' t.heap ∧ va_D (va_A w sz) w' ∧ va_F (va_A w sz) st t) mc ms (va_A w sz)
def IniOK (X : CxT) : Prop := match X with
  | (p, l, e, R, s, m, args, below, meth, c, D, A, H0, nL, Q) => meth.name = "<init>"
theorem MetA.of {G : SG} {y : MethodName} {cc : ByteArray} {nL : Nat} {rm : Room} {D : va_G} {T : Nat → ClassId} {as : List Value} {w : va_W} {Wp : va_W → Prop} {mc ms : Nat} (lv0 : List (Nat × Value)) (hy : plainName y.cls = true) (hy1 : y.name = "<init>") (hlen : (lg_sl as).length ≤ nL) (hlv : lv_args 0 as = lv0) (hrm : rm.cells = mc ∧ rm.slots = ms)
    (body : ∀ X : CxT, Cx X G T cc y.cls none nL rm.frames rm.locals → CapOK X mc ms → IniOK X → (∀ w', Wp w' → RetOK X mc ms none w') → V X 0 0 w lv0 0 []) : MetA G y cc nL rm D T as w Wp mc ms := by
  intro hG l htr sz
  refine Met.ofW (cc := cc) (maxL := nL) (ret := none) hy rfl ?_
  intro p e s m args below meth c s₁ B hml hv
  obtain ⟨rfl, hsz, hP, hK, hD0, hGs⟩ := hv
  subst hsz
  have hts := atoms_spec (ws := Cond.code y cc nL none :: wsG) B.pre
  have hl := lv_entry as (n := nL) hlen
  rw [hlv] at hl
  rw [lg_entry_eq]
  exact body (p, l, e, rm, s, m, as.toArray, below, meth, c, D, va_A w s.heap.size, s.heap, nL, MQ below (fun _ st oc t => oc = .returned none ∧ ∃ w', Wp w' ∧ va_P D vwCl w' t.heap ∧ va_D (va_A w s.heap.size) w' ∧ va_F (va_A w s.heap.size) st t) as.toArray s mc ms (va_A w s.heap.size))
    ⟨B.exec, B.bytes, hml, findClass_of_methodNamed B.named, fun v h => hts v (List.mem_cons_of_mem _ h), hK, B.notSynchronized, B.returns, fun q h => Or.inr h, rfl, Nat.le_refl _, Nat.le_refl _, htr, hG, hGs, rfl⟩
    ⟨Nat.le_of_eq hrm.1.symm, Nat.le_of_eq hrm.2.symm⟩ ((name_of_methodNamed B.named B.method).1.trans hy1)
    (fun w' hw H locs hP hD hS => ⟨_, _, rfl, fun t ht hW => ⟨rfl, w', hw, by rw [ht]; exact hP, hD, hS.F ht⟩, hS.2.2⟩)
    s.heap [] _ hP hD0.self va_S.rf hl
theorem MetA.frame {G : SG} {y : MethodName} {cc : ByteArray} {nL : Nat} {rm : Room} {D : va_G} {T : Nat → ClassId} {as : List Value} {w : va_W} {Wp : va_W → Prop} {mc ms : Nat} (f : va_W) (h : MetA G y cc nL rm D T as w Wp mc ms) : MetA G y cc nL rm D T as (w ++ f) (fun w' => ∃ w1, Wp w1 ∧ w' = w1 ++ f) mc ms := by
  intro hG l htr sz
  refine met_mono (h hG l htr sz) (fun a s hp => pre_frame hG hp) (fun a s o t hp hq => ?_)
  obtain ⟨⟨h1, w1, hw, h2, h3, h4⟩, L, h5, h6⟩ := hq
  obtain ⟨p0, p1, p2, p3, p4, p5⟩ := hp
  obtain ⟨q1, q2⟩ := frame_post p2 p4 p1 h2 h3 h4.2
  exact ⟨⟨h1, w1 ++ f, ⟨w1, hw, rfl⟩, q1, q2, h4.1, fun q hq hA => h4.2 q hq (fun z => hA (va_A_app z))⟩, L, h5, fun q hq => va_A_app (h6 q hq)⟩
theorem CapOK.mono {X : CxT} {k n k' n' : Nat} (h : CapOK X k' n') (h1 : k ≤ k') (h2 : n ≤ n') : CapOK X k n := by
  obtain ⟨p, l, e, R, s, m, args, below, meth, c, D, A, H0, nL, Q⟩ := X
  exact ⟨Nat.le_trans h1 h.1, Nat.le_trans h2 h.2⟩
section CONS
variable {X : CxT} {G : SG} {T : Nat → ClassId} {E : Nat → Nat → Nat} {ws ws' w : va_W} {cc : ByteArray} {own : String} {ret : Option FieldType} {nl fr lo k n ix mc ms : Nat} {lv : List (Nat × Value)} {pc : Nat} {rest : List Value} {y : MethodName} {cc' : ByteArray} {nL' : Nat} {rm : Room} {Wp : va_W → Prop}
theorem v_callI {b : Nat} (C : Cx X G T cc own ret nl fr lo) (hcap : CapOK X (k + mc) (n + ms)) (hM : ∀ D, MetA G y cc' nL' rm D T [.ref b] w Wp mc ms) (hl9 : Cond.methodLink own ix y ∈ wsG) (hin : Cond.instanceMethod y ∈ wsG) (hini : Cond.initialized y.cls ∈ wsG) (hcode : Cond.code y cc' nL' none ∈ wsG) (hy1 : y.name = "<init>")
    (hd : y.cls ≠ "java/lang/invoke/MethodHandle" ∧ y.cls ≠ "java/lang/invoke/VarHandle" ∧ (parseMethodDescriptor y.desc).map (fun d => d.parameters.length) = some 0) (hR : rm.frames + 1 ≤ fr ∧ 8 + (nL' + 11) + rm.locals ≤ lo) (hrm : rm.cells = mc ∧ rm.slots = ms) (hst : (rest.map fun v => v.category).sum ≤ 8) (hdg : decode cc pc = .ok (.invokespecial ix, 3))
    (kk : ∀ w', Wp w' → V X (k + mc) (n + ms) w' lv (pc + 3) rest) : V X k n w lv pc (.ref b :: rest) := by
  obtain ⟨p, l, e, R, s, m, args, below, meth, c, D, A, H0, nL, Q⟩ := X
  obtain ⟨hx, hb, hml, hown, hts, hK, hlocks, hr, hA, hnl, hfr, hlo, htr, hG, hGs, hH0⟩ := C
  intro H locs ls hP hD hS hl
  have hFr : ∀ q, va_A w H.size q → A q := fun q h => by
    rcases h with ⟨j, x, h⟩ | h
    · exact hD.2 j _ h
    · exact hA q (Nat.le_trans hS.1 h)
  have hgw : GoodIn wsG (Cond.code y cc' nL' none :: wsG) := fun v hv => by
    rcases List.mem_cons.mp hv with rfl | h
    · exact goodG _ hcode
    · exact goodG _ h
  have run := va_runI (As := []) (rest := rest) (nL := nL) (p := p) (l := l) (e := e) (R := R) (s := s) (m := m) (args := args) (below := below) (meth := meth) (c := c) (H := H) (locs := locs) (cells := k) (slots := n) (b := b) (g := F0 m pc ls (.ref b :: rest)) ⟨hx, hb, hml, hown, hts⟩ (hM D hG l htr H.size) (cwI 0 hts hgw rfl hrm.1 hrm.2 (hts _ hini) (hts _ hl9) (hts _ hin) hy1 hd ⟨Nat.le_trans hR.1 hfr, Nat.le_trans hR.2 hlo⟩) ⟨MetM.blind hG, fun U hU hW => ⟨rfl, by rw [hU], by rw [hU]; exact hP, va_K.moved hW.alike hK, hD.weaken (fun _ _ _ _ => trivial), by rw [hU]; exact hG.1 _ s U _ hW (hG.2.2 _ _ _ _ (hG.2.1 _ _ _ _ hGs hS.2.1) (fun q h => hFr q h))⟩⟩ rfl rfl hl.1 rfl (lv_room hst) hdg hcap
  intro T0 hT0 Xs
  obtain ⟨v, st₀, t, T', L, h0, X', hL, e1, e2, ⟨hv, w', hw, hP1, hD1, hF1⟩, st⟩ := run T0 hT0 Xs
  cases hv
  obtain ⟨k1, k2, k3⟩ := vx_keep h0 e1 hS (fun q _ z => hFr q z) hFr hL hF1
  obtain ⟨t2, a1, b1⟩ := kk w' hw T'.heap (locs ++ L) ls (by rw [e1]; exact hP1) (hD1.weaken (fun _ _ _ h => hFr _ h)) k3 hl T' rfl X'
  exact ⟨t2, st t2 a1, b1⟩
theorem v_objInit {b : Nat} (hlk : Cond.methodLink own ix Lib.objectInit ∈ wsG) (C : Cx X G T cc own ret nl fr lo) (hR : 1 ≤ fr ∧ 20 ≤ lo) (hdg : decode cc pc = .ok (.invokespecial ix, 3)) (kk : V X k n ws lv (pc + 3) []) : V X k n ws lv pc [.ref b] := by
  obtain ⟨p, l, e, R, s, m, args, below, meth, c, D, A, H0, nL, Q⟩ := X
  obtain ⟨hx, hb, hml, hown, hts, hK, hlocks, hr, hA, hnl, hfr, hlo, htr, hG, hGs, hH0⟩ := C
  intro H locs ls hP hD hS hl
  exact W.objInit hx hb hown (hts _ hlk) (hts _ winstanceMethod_java_lang_Object_init_V) (hts _ wObjCode) rfl (by rw [hml]; exact hl.1) rfl hdg (Nat.le_trans hR.1 hfr) (Nat.le_trans (Nat.le_trans (Nat.le_of_ble_eq_true rfl) hR.2) hlo) (kk H locs ls hP hD hS hl)
theorem v_newobj {Cn : String} {TT : u_T} {NN ci : Nat} {fs : List Value} (tyF : Nat → FieldType) (hinT : ∀ w ∈ u_ws Cn TT NN, w ∈ wsG) (hty : ∀ k, k < NN → parseFieldDescriptor (TT k).2.2.1 = some (tyF k)) (hcl : Cond.classLink own ix Cn ∈ wsG) (hinst : Cond.instantiable Cn NN ∈ wsG) (hini : Cond.initialized Cn ∈ wsG) (hc : vwCl[ci]? = some (Cn, TT, NN)) (hfs : ∀ j, j < NN → defaultValue (tyF j) = vp_V fs j)
    (C : Cx X G T cc own ret nl fr lo) (hcap : CapOK X (k + 1) (n + NN)) (hdg : decode cc pc = .ok (.new ix, 3)) (kk : ∀ q, V X (k + 1) (n + NN) (ws ++ [(q, .inr (ci, fs))]) lv (pc + 3) (.ref q :: rest)) : V X k n ws lv pc rest := by
  obtain ⟨p, l, e, R, s, m, args, below, meth, c, D, A, H0, nL, Q⟩ := X
  obtain ⟨hx, hb, hml, hown, hts, hK, hlocks, hr, hA, hnl, hfr, hlo, htr, hG, hGs, hH0⟩ := C
  intro H locs ls hP hD hS hl
  exact va_new hx hb hts hinT tyF hty hown (hts _ hcl) (hts _ hinst) (hts _ hini) hK hP hD hS hA hc hfs hcap.1 hcap.2 hdg (fun q H1 hP1 hD1 hS1 => kk q H1 locs ls hP1 hD1 hS1 hl)
theorem K_last {D : va_G} {s : State} {cA : ClassId} {ty : FieldType} (h : va_K D vwCl (tysT T ++ [(cA, ty)]) s) : va_RA s cA ty := (h.2 5 (cA, ty) rfl).2
theorem v_newJ {N : Int32} (M : Nat) (hN : N.toNatClampNeg = M) (h0 : ¬ N < 0) (hM : M ≤ 2048) (C : Cx X G T cc own ret nl fr lo) (hcap : CapOK X (k + 1) (n + M)) (hdg : decode cc pc = .ok (.newarray .long, 2)) (kk : ∀ q, V X (k + 1) (n + M) (ws ++ [(q, .inl (T 0, M, .inr (.inl (fun _ => 0))))]) lv (pc + 2) (.ref q :: rest)) : V X k n ws lv pc (.int N :: rest) := by
  obtain ⟨p, l, e, R, s, m, args, below, meth, c, D, A, H0, nL, Q⟩ := X
  obtain ⟨hx, hb, hml, hown, hts, hK, hlocks, hr, hA, hnl, hfr, hlo, htr, hG, hGs, hH0⟩ := C
  intro H locs ls hP hD hS hl
  refine va_newa (atype := .long) (ty := .long) (a0 := (M, .inr (.inl (fun _ => 0)))) hx hb (hts _ warrayClass_long) rfl hK hP hD hS hA (fun _ => rfl) h0 hN (by show M * 8 ≤ _; omega) hcap.1 hcap.2 hdg (fun q cA H1 hK1 hP1 hD1 hS1 => ?_)
  have e9 : cA = T 0 := Option.some.inj ((K_last hK1).symm.trans (hK.2 0 _ rfl).2)
  subst e9
  exact kk q H1 locs ls hP1 hD1 hS1 hl
theorem v_newI {N : Int32} (M : Nat) (hN : N.toNatClampNeg = M) (h0 : ¬ N < 0) (hM : M ≤ 2048) (C : Cx X G T cc own ret nl fr lo) (hcap : CapOK X (k + 1) (n + M)) (hdg : decode cc pc = .ok (.newarray .int, 2)) (kk : ∀ q, V X (k + 1) (n + M) (ws ++ [(q, .inl (T 1, M, .inl (fun _ => 0)))]) lv (pc + 2) (.ref q :: rest)) : V X k n ws lv pc (.int N :: rest) := by
  obtain ⟨p, l, e, R, s, m, args, below, meth, c, D, A, H0, nL, Q⟩ := X
  obtain ⟨hx, hb, hml, hown, hts, hK, hlocks, hr, hA, hnl, hfr, hlo, htr, hG, hGs, hH0⟩ := C
  intro H locs ls hP hD hS hl
  refine va_newa (atype := .int) (ty := .int) (a0 := (M, .inl (fun _ => 0))) hx hb (hts _ warrayClass_int) rfl hK hP hD hS hA (fun _ => rfl) h0 hN (by show M * 4 ≤ _; omega) hcap.1 hcap.2 hdg (fun q cA H1 hK1 hP1 hD1 hS1 => ?_)
  have e9 : cA = T 1 := Option.some.inj ((K_last hK1).symm.trans (hK.2 1 _ rfl).2)
  subst e9
  exact kk q H1 locs ls hP1 hD1 hS1 hl
theorem v_newB {N : Int32} (M : Nat) (hN : N.toNatClampNeg = M) (h0 : ¬ N < 0) (hM : M ≤ 2048) (C : Cx X G T cc own ret nl fr lo) (hcap : CapOK X (k + 1) (n + M)) (hdg : decode cc pc = .ok (.newarray .byte, 2)) (kk : ∀ q, V X (k + 1) (n + M) (ws ++ [(q, .inl (T 2, M, .inl (fun _ => 0)))]) lv (pc + 2) (.ref q :: rest)) : V X k n ws lv pc (.int N :: rest) := by
  obtain ⟨p, l, e, R, s, m, args, below, meth, c, D, A, H0, nL, Q⟩ := X
  obtain ⟨hx, hb, hml, hown, hts, hK, hlocks, hr, hA, hnl, hfr, hlo, htr, hG, hGs, hH0⟩ := C
  intro H locs ls hP hD hS hl
  refine va_newa (atype := .byte) (ty := .byte) (a0 := (M, .inl (fun _ => 0))) hx hb (hts _ warrayClass_byte) rfl hK hP hD hS hA (fun _ => rfl) h0 hN (by show M * 1 ≤ _; omega) hcap.1 hcap.2 hdg (fun q cA H1 hK1 hP1 hD1 hS1 => ?_)
  have e9 : cA = T 2 := Option.some.inj ((K_last hK1).symm.trans (hK.2 2 _ rfl).2)
  subst e9
  exact kk q H1 locs ls hP1 hD1 hS1 hl
theorem v_putAny {Cn : String} {TT : u_T} {NN ci q0 b : Nat} {fs : List Value} {v : Value} {ty : FieldType} (tyF : Nat → FieldType) (hinT : ∀ w ∈ u_ws Cn TT NN, w ∈ wsG) (hty : ∀ k, k < NN → parseFieldDescriptor (TT k).2.2.1 = some (tyF k)) (hnm : ∀ a, a < NN → ∀ b, b < NN → a ≠ b → (TT a).2.1 ≠ (TT b).2.1) (hq : ws[q0]? = some (b, .inr (ci, fs))) (hc : vwCl[ci]? = some (Cn, TT, NN)) (j : Nat) (hj : j < NN) (hlk : Cond.fieldLink own ix (TT j).1 (TT j).2.1 (TT j).2.2.1 ∈ wsG)
    (hfin : (TT j).2.2.2 = false ∨ IniOK X ∧ (TT j).1 = own) (hd : parseFieldDescriptor (TT j).2.2.1 = some ty) (hn : narrow ty v = v) (hfit : fits ty v = true) (hlen : j < fs.length) (hset : ws.set q0 (b, .inr (ci, fs.set j v)) = ws') (C : Cx X G T cc own ret nl fr lo) (hdg : decode cc pc = .ok (.putfield ix, 3)) (kk : V X k n ws' lv (pc + 3) rest) : V X k n ws lv pc (v :: .ref b :: rest) := by
  subst hset
  obtain ⟨p, l, e, R, s, m, args, below, meth, c, D, A, H0, nL, Q⟩ := X
  obtain ⟨hx, hb, hml, hown, hts, hK, hlocks, hr, hA, hnl, hfr, hlo, htr, hG, hGs, hH0⟩ := C
  intro H locs ls hP hD hS hl
  cases hb9 : (TT j).2.2.2 with
  | false => exact va_put hx hb hts hinT tyF hty hnm hown hK hP hD hS q0 hq hc j hj (hts _ hlk) (fun _ h9 => h9) hb9 hd hn hfit hlen hdg (fun H2 locs2 hP2 hD2 hS2 => kk H2 locs2 ls hP2 hD2 hS2 hl)
  | true =>
    rcases hfin with h | ⟨h1, h2⟩
    · rw [hb9] at h
      cases h
    · exact va_putF hx hb hts hinT tyF hty hnm hown hK hP hD hS q0 hq hc j hj (hts _ hlk) (fun _ h9 => h9) hb9 h1 h2 hd hn hfit hlen hdg (fun H2 locs2 hP2 hD2 hS2 => kk H2 locs2 ls hP2 hD2 hS2 hl)
theorem v_getAny {Cn : String} {TT : u_T} {NN ci q0 b : Nat} {fs : List Value} {v : Value} (hinT : ∀ w ∈ u_ws Cn TT NN, w ∈ wsG) (hq : ws[q0]? = some (b, .inr (ci, fs))) (hc : vwCl[ci]? = some (Cn, TT, NN)) (j : Nat) (hj : j < NN) (hlk : Cond.fieldLink own ix (TT j).1 (TT j).2.1 (TT j).2.2.1 ∈ wsG) (hv : fs[j]? = some v) (C : Cx X G T cc own ret nl fr lo) (hdg : decode cc pc = .ok (.getfield ix, 3)) (kk : V X k n ws lv (pc + 3) (v :: rest)) : V X k n ws lv pc (.ref b :: rest) := by
  obtain ⟨p, l, e, R, s, m, args, below, meth, c, D, A, H0, nL, Q⟩ := X
  obtain ⟨hx, hb, hml, hown, hts, hK, hlocks, hr, hA, hnl, hfr, hlo, htr, hG, hGs, hH0⟩ := C
  intro H locs ls hP hD hS hl
  exact va_get hx hb hts hinT hown hK hP q0 hq hc j hj (hts _ hlk) (fun _ h9 => h9) hv hdg (kk H locs ls hP hD hS hl)
theorem v_iasAny {q0 q N : Nat} {f : Nat → Int32} {i x : Int32} (hq : ws[q0]? = some (q, .inl (T 1, N, .inl f))) (hin : vp_in i N) (hset : ws.set q0 (q, .inl (T 1, N, .inl (upd f i.toNatClampNeg x))) = ws') (C : Cx X G T cc own ret nl fr lo) (hdg : decode cc pc = .ok (.iastore, 1)) (kk : V X k n ws' lv (pc + 1) rest) : V X k n ws lv pc (.int x :: .int i :: .ref q :: rest) := by
  subst hset
  obtain ⟨p, l, e, R, s, m, args, below, meth, c, D, A, H0, nL, Q⟩ := X
  obtain ⟨hx, hb, hml, hown, hts, hK, hlocks, hr, hA, hnl, hfr, hlo, htr, hG, hGs, hH0⟩ := C
  intro H locs ls hP hD hS hl
  exact va_iast hx hb hK hP hD hS q0 1 hq rfl hin hdg (fun H2 locs2 hP2 hD2 hS2 => kk H2 locs2 ls hP2 hD2 hS2 hl)
theorem v_lasAny {q0 q N : Nat} {f : Nat → Int64} {i : Int32} {x : Int64} (hq : ws[q0]? = some (q, .inl (T 0, N, .inr (.inl f)))) (hin : vp_in i N) (hset : ws.set q0 (q, .inl (T 0, N, .inr (.inl (vp_updL f i.toNatClampNeg x)))) = ws') (C : Cx X G T cc own ret nl fr lo) (hdg : decode cc pc = .ok (.lastore, 1)) (kk : V X k n ws' lv (pc + 1) rest) : V X k n ws lv pc (.long x :: .int i :: .ref q :: rest) := by
  subst hset
  obtain ⟨p, l, e, R, s, m, args, below, meth, c, D, A, H0, nL, Q⟩ := X
  obtain ⟨hx, hb, hml, hown, hts, hK, hlocks, hr, hA, hnl, hfr, hlo, htr, hG, hGs, hH0⟩ := C
  intro H locs ls hP hD hS hl
  exact va_last hx hb hK hP hD hS q0 0 hq rfl hin hdg (fun H2 locs2 hP2 hD2 hS2 => kk H2 locs2 ls hP2 hD2 hS2 hl)
theorem v_ldcI {v : Int32} (hlk : Cond.constant own ix v ∈ wsG) (C : Cx X G T cc own ret nl fr lo) (hdg : decode cc pc = .ok (.ldc ix, 2)) (kk : V X k n ws lv (pc + 2) (.int v :: rest)) : V X k n ws lv pc rest := by
  obtain ⟨p, l, e, R, s, m, args, below, meth, c, D, A, H0, nL, Q⟩ := X
  obtain ⟨hx, hb, hml, hown, hts, hK, hlocks, hr, hA, hnl, hfr, hlo, htr, hG, hGs, hH0⟩ := C
  intro H locs ls hP hD hS hl
  exact lv_ldc hx hb hown (hts _ hlk) hdg (kk H locs ls hP hD hS hl)
theorem v_newS {N : Int32} (M : Nat) (hN : N.toNatClampNeg = M) (h0 : ¬ N < 0) (hM : M ≤ 2048) (hlk : Cond.classLink own ix "LineEchoes$State" ∈ wsG) (hov : ∀ (A : Nat → Prop) (U : State) (H : Heap), G A U H → va_AO "LineEchoes$State" U) (C : Cx X G T cc own ret nl fr lo) (hcap : CapOK X (k + 1) (n + M)) (hdg : decode cc pc = .ok (.anewarray ix, 3)) (kk : ∀ q, V X (k + 1) (n + M) (ws ++ [(q, .inl (T 3, M, .inr (.inr (.inr (.inr (fun _ => none))))))]) lv (pc + 3) (.ref q :: rest)) : V X k n ws lv pc (.int N :: rest) := by
  obtain ⟨p, l, e, R, s, m, args, below, meth, c, D, A, H0, nL, Q⟩ := X
  obtain ⟨hx, hb, hml, hown, hts, hK, hlocks, hr, hA, hnl, hfr, hlo, htr, hG, hGs, hH0⟩ := C
  intro H locs ls hP hD hS hl
  refine va_newq hx hb hown (hts _ hlk) (hov _ _ _ hGs) hK hP hD hS hA h0 hN (by omega) hcap.1 hcap.2 hdg (fun q cA H1 hK1 hP1 hD1 hS1 => ?_)
  have e9 : cA = T 3 := by
    obtain ⟨_, _, _, _, _, h1⟩ := K_last hK1
    obtain ⟨_, _, _, _, _, h2⟩ := (hK.2 3 _ rfl).2
    exact Option.some.inj (h1.symm.trans h2)
  subst e9
  exact kk q H1 locs ls hP1 hD1 hS1 hl
set_option maxRecDepth 20000 in
theorem v_newJJ (hlk : Cond.classLink own ix "[[J" ∈ wsG) (hov : ∀ (A : Nat → Prop) (U : State) (H : Heap), G A U H → va_AOA .long U) (C : Cx X G T cc own ret nl fr lo) (hcap : CapOK X (k + 10) (n + 1818)) (hdg : decode cc pc = .ok (.multianewarray ix 2, 4)) (kk : ∀ (q : Nat) (r : Nat → Nat), V X (k + 10) (n + 1818) ((ws ++ [(q, .inl (T 4, 9, .inr (.inr (.inr (.inr (fun i => if i < 9 then some (r i) else none))))))]) ++ (List.range 9).map (fun i => (r i, .inl (T 0, 201, .inr (.inl (fun _ => 0)))))) lv (pc + 4) (.ref q :: rest)) : V X k n ws lv pc (.int 201 :: .int 9 :: rest) := by
  obtain ⟨p, l, e, R, s, m, args, below, meth, c, D, A, H0, nL, Q⟩ := X
  obtain ⟨hx, hb, hml, hown, hts, hK, hlocks, hr, hA, hnl, hfr, hlo, htr, hG, hGs, hH0⟩ := C
  intro H locs ls hP hD hS hl
  have hJ : s.vm.findClass (FieldType.array .long).toString = some (T 0) := (hK.2 0 _ rfl).2
  refine va_mna (X := ws) (L := []) (f := fun _ => .inr (0, [])) (ty := .long) (cy := T 0) (z := (201, .inr (.inl (fun _ => 0)))) (N' := 9) (K' := 201) (cells := k) (slots := n) hx hb hown (hts _ hlk) (hov _ _ _ hGs) (hts _ warrayClass_long) hJ hK (by simpa [va_pl] using hP) (by simpa [va_pl] using hD) hS hA (by decide) (by decide) (by decide) (by decide) (by decide) (Nat.le_of_ble_eq_true rfl) (Nat.le_of_ble_eq_true rfl) rfl rfl (by have := hcap.1; omega) (by have := hcap.2; omega) (fun _ => rfl) hdg (fun q r cA H1 hr1 hr2 hK1 hP1 hD1 hS1 => ?_)
  have e9 : cA = T 4 := Option.some.inj ((K_last hK1).symm.trans (hK.2 4 _ rfl).2)
  subst e9
  have hz : va_pl ([] ++ (List.range 9).map r) (vr_up (fun _ => .inr (0, [])) ((List.range 9).map r) (.inl (T 0, 201, .inr (.inl (fun _ => 0))))) = (List.range 9).map (fun i => (r i, .inl (T 0, 201, .inr (.inl (fun _ => 0))))) := by
    rw [List.nil_append]
    unfold va_pl
    rw [List.map_map]
    refine List.map_congr_left fun i hi => ?_
    show (r i, vr_up _ _ _ (r i)) = _
    rw [vr_up_in (List.mem_map_of_mem hi)]
  rw [hz] at hP1 hD1
  exact kk q r H1 locs ls hP1 hD1 hS1 hl
end CONS
