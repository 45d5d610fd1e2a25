theorem wclassLink_RL_8_LineEchoes : Cond.classLink RL 8 "LineEchoes" ∈ wsG := mG (seg1 (List.mem_of_getElem? (i := 26) rfl)) rfl
theorem winstantiable_RX9_7 : Cond.instantiable RX9 7 ∈ wsG := mG (seg1 (List.mem_of_getElem? (i := 27) rfl)) rfl
theorem wmethodLink_RL_85_yX9_init : Cond.methodLink RL 85 yX9_init ∈ wsG := mG (seg1 (List.mem_of_getElem? (i := 28) rfl)) rfl
theorem winstanceMethod_yX9_init : Cond.instanceMethod yX9_init ∈ wsG := mG (seg1 (List.mem_of_getElem? (i := 29) rfl)) rfl
theorem wcode_yX9_init_cX9_init_1_none : Cond.code yX9_init cX9_init 1 none ∈ wsG := mG (seg1 (List.mem_of_getElem? (i := 30) rfl)) rfl
theorem wclassLink_RL_86_LineEchoesModel : Cond.classLink RL 86 "LineEchoesModel" ∈ wsG := mG (seg4 (List.mem_of_getElem? (i := 213) rfl)) rfl
theorem winstantiable_RX10_28 : Cond.instantiable RX10 28 ∈ wsG := mG (seg4 (List.mem_of_getElem? (i := 214) rfl)) rfl
theorem wmethodLink_RL_88_yX10_init : Cond.methodLink RL 88 yX10_init ∈ wsG := mG (seg4 (List.mem_of_getElem? (i := 215) rfl)) rfl
theorem winstanceMethod_yX10_init : Cond.instanceMethod yX10_init ∈ wsG := mG (seg4 (List.mem_of_getElem? (i := 216) rfl)) rfl
theorem wcode_yX10_init_cX10_init_1_none : Cond.code yX10_init cX10_init 1 none ∈ wsG := mG (seg4 (List.mem_of_getElem? (i := 217) rfl)) rfl
/-! THE CLAIM OUT OF ONE WALK OF THE LAW'S BODY. Your part is whole_start (and what it stands on); all else here is the same for every law, but numbers. -/
def R_law : String := "LineEchoesLaw"
def lw_P (b : Addr) (xs : List Int32) (args : Array Value) (s : State) : Prop := args = #[.ref b] ∧ s.IntsAt b xs ∧ xs.length ≤ 2048 ∧ (Jvm.Cond.and given_1 narrow_1).before args s = true
def lw_Q (_ : Array Value) (s : State) (o : Outcome) (t : State) : Prop := o = .returned (some (.int 1)) ∧ Framed s o t [] 601024 7293034
def lw_Z (below : List Frame) (a : Array Value) (s : State) : State → Prop := fun t => ∃ o, t.status = .running ∧ Ended t below o ∧ lw_Q a s o t
/-- the law's own end, with 1 on the stack, nothing written that was there before, its room as the claim has it -/
theorem lw_ret {p : Program} {l : Launch} {e : Env} {s : State} {m : MethodId} {below : List Frame} {meth : Method} {c : Code} {b : Nat} (hx : p.tables.exec = Jvm.exec) (hb : c.code = code) (hr : meth.sig.returnType = ret) (hlocks : meth.locks = false) {pc : Nat} {H : Heap} {ls : Array Slot} (hdg : decode code pc = .ok (.ireturn, 1)) : W p l e room_1 s m #[Value.ref b] below meth c H [] 601024 7293034 (lw_Z below #[Value.ref b] s) (F0 m pc ls [.int 1]) := by
  intro T hT X
  obtain ⟨fs, hret, hrun, hended, hW, hframe⟩ := X.leave (v := some (.int 1)) (hlocks := hlocks) (fun h => by rw [hr] at h; cases h)
  have hmeth' : T.vm.method? m = some meth := X.method'
  refine ⟨T.setFrames fs, ?_, .returned (some (.int 1)), hrun, hended, rfl, ⟨_, rfl⟩, hW, hframe⟩
  jvm_step X.here [X.here.top, hx, hb, hdg, hmeth', hr, ret, narrow_b1]
  (try refine ⟨rfl, ?_⟩); (try refine ⟨rfl, ?_⟩)
  first | (intro acts; rw [hret _ acts rfl rfl rfl]) | rw [hret _ _ rfl rfl rfl]
  exact Steps.refl _
/-- what holds at the law's entry: the machine, the code, the tables' words (any of lw_tbl by 'hts w (by decide +kernel)'), the script of L ints xs at the cell b, what the Statement gives of the start (any of its parts by flat_of_before) -/
def lw_At (p : Program) (s : State) (m : MethodId) (meth : Method) (c : Code) (b L : Nat) (xs : Nat → Int32) : Prop :=
  p.tables.exec = Jvm.exec ∧ c.code = code ∧ meth.sig.returnType = ret ∧ c.maxLocals = 8 ∧ s.vm.findClass R_law = some m.cls ∧ (∀ w ∈ lw_tbl, w.before #[Value.ref b] s = true) ∧ va_X b L xs s s.heap ∧ b < s.heap.size ∧ meth.locks = false ∧ (Jvm.Cond.and given_1 narrow_1).before #[Value.ref b] s = true
def Provider : Prop := ∀ (E : Nat → Nat → Nat) (T : Nat → ClassId) (a a' : Nat → Nat) (o9 : Nat), ∃ I : va_W → va_W → Prop, FirstOK (a 0) (a' 0) I ∧ I (wL0 E a T) (wR0 a' T) ∧ AllSt E T (a 0) (a' 0) o9 I
theorem perm_out {α : Type} (A B : List α) (o : α) : ((A ++ B) ++ [o]).Perm ((A ++ [o]) ++ B) := by
  classical
  refine List.perm_iff_count.mpr fun x => ?_
  simp only [List.count_append, List.count_cons, List.count_nil]
  omega
theorem st_types {args : Array Value} {s : State} (hts : ∀ w ∈ lw_tbl, w.before args s = true) : ∃ T : Nat → ClassId, ∀ (k : Nat) (q : ClassId × FieldType), (tysT T)[k]? = some q → ArrOfT s q.1 q.2 ∧ va_RA s q.1 q.2 := by
  obtain ⟨c0, k0, m0, h01, h02, h03⟩ := Cond.arrayClass_spec (show (Cond.arrayClass .long).before args s = true from (hts _ (seg1 (List.mem_of_getElem? (i := 118) rfl))))
  obtain ⟨c1, k1, m1, h11, h12, h13⟩ := Cond.arrayClass_spec (show (Cond.arrayClass .int).before args s = true from (hts _ (seg1 (List.mem_of_getElem? (i := 102) rfl))))
  obtain ⟨c2, k2, m2, h21, h22, h23⟩ := Cond.arrayClass_spec (show (Cond.arrayClass .byte).before args s = true from (hts _ (seg1 (List.mem_of_getElem? (i := 166) rfl))))
  obtain ⟨m3, c3, k3, h31, h32, h33, h34, h35⟩ := Cond.arrayOver_spec (show (Cond.arrayOver (.object "LineEchoes$State")).before args s = true from (hts _ (seg1 (List.mem_of_getElem? (i := 126) rfl))))
  obtain ⟨m4, c4, k4, h41, h42, h43, h44, h45⟩ := arrayOverA_spec (show (Cond.arrayOver (.array .long)).before args s = true from (hts _ (seg1 (List.mem_of_getElem? (i := 174) rfl))))
  refine ⟨fun k => if k = 0 then c0 else if k = 1 then c1 else if k = 2 then c2 else if k = 3 then c3 else c4, fun k q hq => ?_⟩
  match k, hq with
  | 0, hq => cases hq; exact ⟨fun n z => ⟨fun k h => (by cases h), k0, h02, m0, h03⟩, h01⟩
  | 1, hq => cases hq; exact ⟨fun n z => ⟨fun k h => (by cases h), k1, h12, m1, h13⟩, h11⟩
  | 2, hq => cases hq; exact ⟨fun n z => ⟨fun k h => (by cases h), k2, h22, m2, h23⟩, h21⟩
  | 3, hq => cases hq; exact ⟨fun n z => ⟨fun k h => (by cases h), k3, h33, m3, h34⟩, k3, m3, h33, h34, h31, h35⟩
  | 4, hq => cases hq; exact ⟨fun n z => ⟨fun k h => (by cases h), k4, h43, m4, h44⟩, h45⟩
  | k + 5, hq => simp [tysT] at hq
theorem st_classes {args : Array Value} {s : State} (hts : ∀ w ∈ lw_tbl, w.before args s = true) : ∃ D : va_G, ∀ (k : Nat) (q : vw_C), vwCl[k]? = some q → u_Kn s q.1 q.2.1 q.2.2 (D.1 k) (D.2 k) := by
  obtain ⟨c0, i0, h0⟩ := u_known (C := RX1) (T := TX1) (N := 9) (n := 9) hts (fun w h => (List.mem_filter.mp (inG1 w h)).1) (show (Cond.instantiable RX1 9).before args s = true from (hts _ (seg1 (List.mem_of_getElem? (i := 41) rfl))))
  obtain ⟨c1, i1, h1⟩ := u_known (C := RX2) (T := TX2) (N := 0) (n := 5) hts (fun w h => by simp [u_ws] at h) (show (Cond.instantiable RX2 5).before args s = true from (hts _ (seg3 (List.mem_of_getElem? (i := 3) rfl))))
  obtain ⟨c2, i2, h2⟩ := u_known (C := RX3) (T := TX3) (N := 2) (n := 2) hts (fun w h => (List.mem_filter.mp (inG3 w h)).1) (show (Cond.instantiable RX3 2).before args s = true from (hts _ (seg1 (List.mem_of_getElem? (i := 120) rfl))))
  obtain ⟨c3, i3, h3⟩ := u_known (C := RX4) (T := TX4) (N := 4) (n := 4) hts (fun w h => (List.mem_filter.mp (inG4 w h)).1) (show (Cond.instantiable RX4 4).before args s = true from (hts _ (seg1 (List.mem_of_getElem? (i := 195) rfl))))
  obtain ⟨c4, i4, h4⟩ := u_known (C := RX5) (T := TX5) (N := 6) (n := 6) hts (fun w h => (List.mem_filter.mp (inG5 w h)).1) (show (Cond.instantiable RX5 6).before args s = true from (hts _ (seg1 (List.mem_of_getElem? (i := 137) rfl))))
  obtain ⟨c5, i5, h5⟩ := u_known (C := RX6) (T := TX6) (N := 3) (n := 3) hts (fun w h => (List.mem_filter.mp (inG6 w h)).1) (show (Cond.instantiable RX6 3).before args s = true from (hts _ (seg1 (List.mem_of_getElem? (i := 35) rfl))))
  obtain ⟨c6, i6, h6⟩ := u_known (C := RX8) (T := TX8) (N := 4) (n := 4) hts (fun w h => (List.mem_filter.mp (inG8 w h)).1) (show (Cond.instantiable RX8 4).before args s = true from (hts _ (seg1 (List.mem_of_getElem? (i := 168) rfl))))
  obtain ⟨c7, i7, h7⟩ := u_known (C := RX9) (T := TX9) (N := 7) (n := 7) hts (fun w h => (List.mem_filter.mp (inG9 w h)).1) (show (Cond.instantiable RX9 7).before args s = true from (hts _ (seg1 (List.mem_of_getElem? (i := 27) rfl))))
  obtain ⟨c8, i8, h8⟩ := u_known (C := RX10) (T := TX10) (N := 28) (n := 28) hts (fun w h => (List.mem_filter.mp (inG10 w h)).1) (show (Cond.instantiable RX10 28).before args s = true from (hts _ (seg4 (List.mem_of_getElem? (i := 214) rfl))))
  refine ⟨(fun k => if k = 0 then c0 else if k = 1 then c1 else if k = 2 then c2 else if k = 3 then c3 else if k = 4 then c4 else if k = 5 then c5 else if k = 6 then c6 else if k = 7 then c7 else c8, fun k => if k = 0 then i0 else if k = 1 then i1 else if k = 2 then i2 else if k = 3 then i3 else if k = 4 then i4 else if k = 5 then i5 else if k = 6 then i6 else if k = 7 then i7 else i8), fun k q hq => ?_⟩
  match k, hq with
  | 0, hq => cases hq; exact h0
  | 1, hq => cases hq; exact h1
  | 2, hq => cases hq; exact h2
  | 3, hq => cases hq; exact h3
  | 4, hq => cases hq; exact h4
  | 5, hq => cases hq; exact h5
  | 6, hq => cases hq; exact h6
  | 7, hq => cases hq; exact h7
  | 8, hq => cases hq; exact h8
  | k + 9, hq => simp [vwCl] at hq
set_option maxRecDepth 100000 in
set_option maxHeartbeats 4000000 in
theorem law_body {X : CxT} {T : Nat → ClassId} {E : Nat → Nat → Nat} {b L : Nat} {xs : Nat → Int32} (hp : Provider) (C : Cx X (SFK E) T cL_law RL (some .boolean) 8 12 460) (hs : ScrOK X b L xs) (hcap : CapOK X 601024 7293034) (hL : L ≤ 2048) (hend : ∀ k n ws lv, k ≤ 601024 → n ≤ 7293034 → V X k n ws lv 1642 []) : V X 0 0 [] [(0, .ref b)] 0 [] := by
  refine v_mk (ci := 7) (Cn := RX9) (TT := TX9) (NN := 7) (y := yX9_init) (cc' := cX9_init) (nL' := 1) (mc := 89) (ms := 9623) (rm := { frames := 4, cells := 89, slots := 9623, locals := 81 }) (Wq := fun b w1 => ∃ a, a 0 = b ∧ w1 = wL0 E a T) tyX9 inG9 tyX9_ok wclassLink_RL_8_LineEchoes winstantiable_RX9_7 winitialized_RX9 rfl (by decide) (fun q D => Ci_L) wmethodLink_RL_85_yX9_init winstanceMethod_yX9_init winitialized_RX9 wcode_yX9_init_cX9_init_1_none rfl (by decide +kernel) (by decide) ⟨rfl, rfl⟩ (Nat.le_of_ble_eq_true rfl) C (hcap.mono (Nat.le_of_ble_eq_true rfl) (Nat.le_of_ble_eq_true rfl)) dL_law_0 dL_law_3 dL_law_4 (fun q9 w9 hw9 => ?_)
  obtain ⟨a, hq, rfl⟩ := hw9
  subst hq
  refine v_astore_n [(0, .ref b), (1, .ref (a 0))] [1, 0] C dL_law_7 rfl (by decide) rfl ?_
  refine v_mk (ci := 8) (Cn := RX10) (TT := TX10) (NN := 28) (y := yX10_init) (cc' := cX10_init) (nL' := 1) (mc := 11) (ms := 5808) (rm := { frames := 1, cells := 11, slots := 5808, locals := 20 }) (Wq := fun b w1 => ∃ a, a 0 = b ∧ w1 = wR0 a T) tyX10 inG10 tyX10_ok wclassLink_RL_86_LineEchoesModel winstantiable_RX10_28 winitialized_RX10 rfl (by decide) (fun q D => Ci_R) wmethodLink_RL_88_yX10_init winstanceMethod_yX10_init winitialized_RX10 wcode_yX10_init_cX10_init_1_none rfl (by decide +kernel) (by decide) ⟨rfl, rfl⟩ (Nat.le_of_ble_eq_true rfl) C (hcap.mono (Nat.le_of_ble_eq_true rfl) (Nat.le_of_ble_eq_true rfl)) dL_law_8 dL_law_11 dL_law_12 (fun q9 w9 hw9 => ?_)
  obtain ⟨a9, hq, rfl⟩ := hw9
  subst hq
  refine v_astore_n [(0, .ref b), (1, .ref (a 0)), (2, .ref (a9 0))] [1, 2, 0] C dL_law_15 rfl (by decide) rfl ?_
  refine v_iconst (v := 1) C dL_law_16 (by decide) ?_
  refine v_newJ 1 (by decide) (by decide) (by decide) C (hcap.mono (Nat.le_of_ble_eq_true rfl) (Nat.le_of_ble_eq_true rfl)) dL_law_17 (fun o9 => ?_)
  refine v_astore_n [(0, .ref b), (1, .ref (a 0)), (2, .ref (a9 0)), (3, .ref o9)] [1, 2, 3, 0] C dL_law_19 rfl (by decide) rfl ?_
  refine v_iconst (v := 0) C dL_law_20 (by decide) ?_
  refine v_istore [(0, .ref b), (1, .ref (a 0)), (2, .ref (a9 0)), (3, .ref o9), (4, .int 0)] [1, 2, 3, 4, 0] C dL_law_21 (by decide) rfl ?_
  refine v_perm (perm_out _ _ _) ?_
  refine v_widen (k' := 200 + 0) (n' := 20000 + 6 * 0) (Nat.le_of_ble_eq_true rfl) (Nat.le_of_ble_eq_true rfl) ?_
  obtain ⟨I, h1, h2, h3⟩ := hp E T a a9 o9
  exact law_loop C.sfg hs hcap hL h1 h3 hend 513 0 0 (wL0 E a T) (wR0 a9 T) (fun _ => 0) (by decide) rfl h2
theorem no_traces {l : Launch} (h : l.flags = flags0) : l.stackTraces = false := by
  unfold Launch.stackTraces
  rw [h]
  decide +kernel
theorem whole_start_of (hp : Provider) {p : Program} {e : Env} {s : State} {m : MethodId} {below : List Frame} {meth : Method} {c : Code} (l : Launch) (hflags : l.flags = flags0) {b L : Nat} {xs : Nat → Int32} (hL : L ≤ 2048) (C0 : lw_At p s m meth c b L xs) : W p l e room_1 s m #[Value.ref b] below meth c s.heap [] 0 0 (lw_Z below #[Value.ref b] s) (entryFrame m ([Value.ref b] : List Value).toArray 8) := by
  obtain ⟨hx, hb, hr, hml, hown, hts, hX, hbl, hlocks, hgv⟩ := C0
  obtain ⟨D, hD⟩ := st_classes hts
  obtain ⟨T, hT⟩ := st_types hts
  have hA : ∀ a : Nat, a < s.heap.size → ¬ s.heap.size ≤ a := fun a h => Nat.not_le.mpr h
  obtain ⟨E, hE⟩ := st_sfk (A := fun q => s.heap.size ≤ q) hts (flat_of_before _ hgv) hA
  have C : Cx (p, l, e, room_1, s, m, #[Value.ref b], below, meth, c, D, (fun q => s.heap.size ≤ q), s.heap, 8, lw_Z below #[Value.ref b] s) (SFK E) T cL_law RL (some .boolean) 8 12 460 := ⟨hx, hb, hml, hown, fun w h => hts w (List.mem_filter.mp h).1, ⟨hD, hT⟩, hlocks, hr, fun q h => h, rfl, Nat.le_refl _, Nat.le_refl _, no_traces hflags, SFK.stat E, hE, rfl⟩
  have hl := lv_entry ([.ref b]) (n := 8) (Nat.le_of_ble_eq_true rfl)
  rw [lg_entry_eq]
  generalize (lg_sl ([.ref b]) ++ List.replicate (8 - (lg_sl ([.ref b])).length) Slot.unset).toArray = ls at hl ⊢
  have hl : lv_has ls 8 [(0, .ref b)] := hl
  refine law_body hp C ⟨hX, hbl, Nat.not_le.mpr hbl⟩ ⟨Nat.le_refl _, Nat.le_refl _⟩ hL (fun k n ws lv hk hn => ?_) s.heap [] ls (fun k q h => by simp at h) ⟨fun i j p q h => by simp at h, fun k q h => by simp at h⟩ va_S.rf hl
  intro H locs ls hP hD hS hl
  refine lv_iconst (v := 1) hx hb dL_law_1642 (by decide) ?_
  exact va_forget (fun q h => hS.2.2 q h) (W.widen hk hn (lw_ret hx hb hr hlocks dL_law_1643))
