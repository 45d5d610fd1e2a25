/-! THE JUDGEMENT V: the machine stands at pc with the world ws, the locals lv, the stack st; it comes to the method's end. X holds all that does not move. -/
abbrev CxT : Type := Program × Launch × Env × Room × State × MethodId × Array Value × List Frame × Method × Code × va_G × (Nat → Prop) × Heap × Nat × (State → Prop)
-- the array kinds: 0 long, 1 int, 2 byte, 3 State, 4 rows of longs
/-- facts about what stands in the heap from the start and is never written: they survive -/
abbrev SG : Type := (Nat → Prop) → State → Heap → Prop
def Stat (G : SG) : Prop := (∀ (A : Nat → Prop) (u U : State) (H : Heap), u.WarmedH U.vm → G A u H → G A U H) ∧ (∀ (A : Nat → Prop) (U : State) (H H1 : Heap), G A U H → (∀ a : Nat, a < H.size → ¬ A a → H1[a]? = H[a]?) → G A U H1) ∧ ∀ (A B : Nat → Prop) (U : State) (H : Heap), G A U H → (∀ q, B q → A q) → G B U H
def tysT (T : Nat → ClassId) : List (ClassId × FieldType) := [(T 0, .long), (T 1, .int), (T 2, .byte), (T 3, .object "LineEchoes$State"), (T 4, .array .long)]
/-- ALL WORDS of the tables that stay true: the one word list of every contract -/
def wsG : List Cond := lw_tbl.filter goodWord
theorem mG {w : Cond} (h : w ∈ lw_tbl) (g : goodWord w = true) : w ∈ wsG := List.mem_filter.mpr ⟨h, g⟩
theorem goodG : GoodIn wsG wsG := fun w h => ⟨h, good_of_word (List.mem_filter.mp h).2⟩
theorem seg0 {w : Cond} (h : w ∈ k2_sels lw_privs) : w ∈ lw_tbl := List.mem_append_left _ h
theorem seg1 {w : Cond} (h : w ∈ tables_1_1) : w ∈ lw_tbl := List.mem_append_right _ (List.mem_append_left _ h)
theorem seg2 {w : Cond} (h : w ∈ tables_1_2) : w ∈ lw_tbl := List.mem_append_right _ (List.mem_append_right _ (List.mem_append_left _ h))
theorem seg3 {w : Cond} (h : w ∈ tables_1_3) : w ∈ lw_tbl := List.mem_append_right _ (List.mem_append_right _ (List.mem_append_right _ (List.mem_append_left _ h)))
theorem seg4 {w : Cond} (h : w ∈ tables_1_4) : w ∈ lw_tbl := List.mem_append_right _ (List.mem_append_right _ (List.mem_append_right _ (List.mem_append_right _ (List.mem_append_left _ h))))
theorem seg5 {w : Cond} (h : w ∈ tables_1_5) : w ∈ lw_tbl := List.mem_append_right _ (List.mem_append_right _ (List.mem_append_right _ (List.mem_append_right _ (List.mem_append_right _ (List.mem_append_left _ h)))))
theorem seg6 {w : Cond} (h : w ∈ tables_1_6) : w ∈ lw_tbl := List.mem_append_right _ (List.mem_append_right _ (List.mem_append_right _ (List.mem_append_right _ (List.mem_append_right _ (List.mem_append_right _ h)))))
def V (X : CxT) (k n : Nat) (ws : va_W) (lv : List (Nat × Value)) (pc : Nat) (st : List Value) : Prop := match X with
  | (p, l, e, R, s, m, args, below, meth, c, D, A, H0, nL, Q) => ∀ (H : Heap) (locs : List Loc) (ls : Array Slot), va_P D vwCl ws H → va_D A ws → va_S A H0 H locs → lv_has ls nL lv → W p l e R s m args below meth c H locs k n Q (F0 m pc ls st)
/-- what every row needs of X -/
def Cx (X : CxT) (G : SG) (T : Nat → ClassId) (cc : ByteArray) (own : String) (ret : Option FieldType) (nl fr lo : Nat) : Prop := match X with
  | (p, l, e, R, s, m, args, below, meth, c, D, A, H0, nL, Q) => p.tables.exec = Jvm.exec ∧ c.code = cc ∧ c.maxLocals = nL ∧ s.vm.findClass own = some m.cls ∧ (∀ w ∈ wsG, w.before args s = true) ∧ va_K D vwCl (tysT T) s ∧ meth.locks = false ∧ meth.sig.returnType = ret ∧ (∀ q, H0.size ≤ q → A q) ∧ nL = nl ∧ fr ≤ R.frames ∧ lo ≤ R.locals ∧ l.stackTraces = false ∧ Stat G ∧ G A s H0 ∧ H0 = s.heap
/-- k cells and n slots fit -/
def CapOK (X : CxT) (k n : Nat) : Prop := match X with
  | (p, l, e, R, s, m, args, below, meth, c, D, A, H0, nL, Q) => k ≤ R.cells ∧ n ≤ R.slots
theorem CapOK.z (X : CxT) : CapOK X 0 0 := ⟨Nat.zero_le _, Nat.zero_le _⟩
/-- the answer r with the world w' is what X's end asks for -/
def RetOK (X : CxT) (k n : Nat) (r : Option Value) (w' : va_W) : Prop := match X with
  | (p, l, e, R, s, m, args, below, meth, c, D, A, H0, nL, Q) => ∀ (H : Heap) (locs : List Loc), va_P D vwCl w' H → va_D A w' → va_S A H0 H locs → ∃ (Qc : Array Value → State → Outcome → State → Prop) (free : Addr → Prop), Q = MQ below Qc args s k n free ∧ (∀ t : State, t.heap = H → s.WarmedH t.vm → Qc args s (.returned r) t) ∧ ∀ q ∈ locs, free q.base
/-- what is named, tested, or asked of a callee in the pure texts -/
def nm {α β : Type} (e : α) (k : α → β) : β := k e
theorem nm_some {α β : Type} {e : α} {k : α → β} {y : β} (h : nm e k = y) : ∃ x, x = e ∧ k x = y := ⟨e, rfl, h⟩
def chk {α : Type} (c : Prop) [Decidable c] (x : Option α) : Option α := if c then x else none
theorem chk_some {α : Type} {c : Prop} [Decidable c] {x : Option α} {y : α} (h : chk c x = some y) : c ∧ x = some y := by
  unfold chk at h
  split at h
  · exact ⟨by assumption, h⟩
  · cases h
abbrev inb (i : Int32) (n : Nat) : Prop := 0 ≤ i.toInt ∧ i.toInt < n
def bd {α β : Type} (a : Option α) (k : α → Option β) : Option β := a.bind k
theorem bd_some {α β : Type} {a : Option α} {k : α → Option β} {y : β} (h : bd a k = some y) : ∃ x, a = some x ∧ k x = some y := Option.bind_eq_some_iff.mp h
theorem ite_t {α : Type} {c : Prop} [Decidable c] {a b y : α} (hc : c) (h : (if c then a else b) = y) : a = y := by rw [if_pos hc] at h; exact h
theorem ite_f {α : Type} {c : Prop} [Decidable c] {a b y : α} (hc : ¬ c) (h : (if c then a else b) = y) : b = y := by rw [if_neg hc] at h; exact h
section VROWS
variable {X : CxT} {G : SG} {T : Nat → ClassId} {cc : ByteArray} {own : String} {ret : Option FieldType} {nl fr lo k n : Nat} {ws : va_W} {lv : List (Nat × Value)} {pc : Nat} {rest : List Value}

theorem v_iconst {i : Int} {v : Int32} (C : Cx X G T cc own ret nl fr lo) (hdg : decode cc pc = .ok (.iconst i, 1)) (hv : Int32.ofInt i = v) (kk : V X k n ws lv (pc + 1) (.int v :: rest)) : V X k n ws lv pc rest := by
  obtain ⟨p, l, e, R, s, m, args, below, meth, c, D, A, H0, nL, Q⟩ := X
  obtain ⟨hx, hb, hml, hown, hts, hK, hlocks, hr, hA, hnl, hfr, hlo, htr, hG, hGs, hH0⟩ := C
  intro H locs ls hP hD hS hl
  exact lv_iconst hx hb hdg hv (kk H locs ls hP hD hS hl)
theorem v_bipush {i : Int} {v : Int32} (C : Cx X G T cc own ret nl fr lo) (hdg : decode cc pc = .ok (.bipush i, 2)) (hv : (Int8.ofInt i).toInt32 = v) (kk : V X k n ws lv (pc + 2) (.int v :: rest)) : V X k n ws lv pc rest := by
  obtain ⟨p, l, e, R, s, m, args, below, meth, c, D, A, H0, nL, Q⟩ := X
  obtain ⟨hx, hb, hml, hown, hts, hK, hlocks, hr, hA, hnl, hfr, hlo, htr, hG, hGs, hH0⟩ := C
  intro H locs ls hP hD hS hl
  exact lv_bipush hx hb hdg hv (kk H locs ls hP hD hS hl)
theorem v_sipush {i : Int} {v : Int32} (C : Cx X G T cc own ret nl fr lo) (hdg : decode cc pc = .ok (.sipush i, 3)) (hv : (Int16.ofInt i).toInt32 = v) (kk : V X k n ws lv (pc + 3) (.int v :: rest)) : V X k n ws lv pc rest := by
  obtain ⟨p, l, e, R, s, m, args, below, meth, c, D, A, H0, nL, Q⟩ := X
  obtain ⟨hx, hb, hml, hown, hts, hK, hlocks, hr, hA, hnl, hfr, hlo, htr, hG, hGs, hH0⟩ := C
  intro H locs ls hP hD hS hl
  exact lv_sipush hx hb hdg hv (kk H locs ls hP hD hS hl)
theorem v_lconst {i : Fin 2} {v : Int64} (C : Cx X G T cc own ret nl fr lo) (hdg : decode cc pc = .ok (.lconst i, 1)) (hv : Int64.ofNat (i : Nat) = v) (kk : V X k n ws lv (pc + 1) (.long v :: rest)) : V X k n ws lv pc rest := by
  obtain ⟨p, l, e, R, s, m, args, below, meth, c, D, A, H0, nL, Q⟩ := X
  obtain ⟨hx, hb, hml, hown, hts, hK, hlocks, hr, hA, hnl, hfr, hlo, htr, hG, hGs, hH0⟩ := C
  intro H locs ls hP hD hS hl
  exact lv_lconst hx hb hdg hv (kk H locs ls hP hD hS hl)
theorem v_ldc2 {i : Nat} {v : Int64} (C : Cx X G T cc own ret nl fr lo) (hm : Cond.constantLong own i v ∈ wsG) (hdg : decode cc pc = .ok (.ldc2_w i, 3)) (kk : V X k n ws lv (pc + 3) (.long v :: rest)) : V X k n ws lv pc rest := by
  obtain ⟨p, l, e, R, s, m, args, below, meth, c, D, A, H0, nL, Q⟩ := X
  obtain ⟨hx, hb, hml, hown, hts, hK, hlocks, hr, hA, hnl, hfr, hlo, htr, hG, hGs, hH0⟩ := C
  intro H locs ls hP hD hS hl
  exact lv_ldc2 hx hb hown (hts _ hm) hdg (kk H locs ls hP hD hS hl)
theorem v_iload_n {i : Fin 4} {i2 : Nat} {x : Int32} (j : Nat) (C : Cx X G T cc own ret nl fr lo) (hdg : decode cc pc = .ok (.iload_n i, 1)) (hi : (i : Nat) = i2) (hj : lv[j]? = some (i2, .int x)) (kk : V X k n ws lv (pc + 1) (.int x :: rest)) : V X k n ws lv pc rest := by
  obtain ⟨p, l, e, R, s, m, args, below, meth, c, D, A, H0, nL, Q⟩ := X
  obtain ⟨hx, hb, hml, hown, hts, hK, hlocks, hr, hA, hnl, hfr, hlo, htr, hG, hGs, hH0⟩ := C
  intro H locs ls hP hD hS hl
  exact lv_iload_n hx hb hdg hi (lv_at hl j hj) (kk H locs ls hP hD hS hl)
theorem v_iload {i : Nat} {x : Int32} (j : Nat) (C : Cx X G T cc own ret nl fr lo) (hdg : decode cc pc = .ok (.iload i, 2)) (hj : lv[j]? = some (i, .int x)) (kk : V X k n ws lv (pc + 2) (.int x :: rest)) : V X k n ws lv pc rest := by
  obtain ⟨p, l, e, R, s, m, args, below, meth, c, D, A, H0, nL, Q⟩ := X
  obtain ⟨hx, hb, hml, hown, hts, hK, hlocks, hr, hA, hnl, hfr, hlo, htr, hG, hGs, hH0⟩ := C
  intro H locs ls hP hD hS hl
  exact lv_iload hx hb hdg (lv_at hl j hj) (kk H locs ls hP hD hS hl)
theorem v_lload_n {i : Fin 4} {i2 : Nat} {x : Int64} (j : Nat) (C : Cx X G T cc own ret nl fr lo) (hdg : decode cc pc = .ok (.lload_n i, 1)) (hi : (i : Nat) = i2) (hj : lv[j]? = some (i2, .long x)) (kk : V X k n ws lv (pc + 1) (.long x :: rest)) : V X k n ws lv pc rest := by
  obtain ⟨p, l, e, R, s, m, args, below, meth, c, D, A, H0, nL, Q⟩ := X
  obtain ⟨hx, hb, hml, hown, hts, hK, hlocks, hr, hA, hnl, hfr, hlo, htr, hG, hGs, hH0⟩ := C
  intro H locs ls hP hD hS hl
  exact lv_lload_n hx hb hdg hi (lv_at hl j hj) (kk H locs ls hP hD hS hl)
theorem v_lload {i : Nat} {x : Int64} (j : Nat) (C : Cx X G T cc own ret nl fr lo) (hdg : decode cc pc = .ok (.lload i, 2)) (hj : lv[j]? = some (i, .long x)) (kk : V X k n ws lv (pc + 2) (.long x :: rest)) : V X k n ws lv pc rest := by
  obtain ⟨p, l, e, R, s, m, args, below, meth, c, D, A, H0, nL, Q⟩ := X
  obtain ⟨hx, hb, hml, hown, hts, hK, hlocks, hr, hA, hnl, hfr, hlo, htr, hG, hGs, hH0⟩ := C
  intro H locs ls hP hD hS hl
  exact lv_lload hx hb hdg (lv_at hl j hj) (kk H locs ls hP hD hS hl)
theorem v_aload_n {i : Fin 4} {i2 : Nat} {x : Nat} (j : Nat) (C : Cx X G T cc own ret nl fr lo) (hdg : decode cc pc = .ok (.aload_n i, 1)) (hi : (i : Nat) = i2) (hj : lv[j]? = some (i2, .ref x)) (kk : V X k n ws lv (pc + 1) (.ref x :: rest)) : V X k n ws lv pc rest := by
  obtain ⟨p, l, e, R, s, m, args, below, meth, c, D, A, H0, nL, Q⟩ := X
  obtain ⟨hx, hb, hml, hown, hts, hK, hlocks, hr, hA, hnl, hfr, hlo, htr, hG, hGs, hH0⟩ := C
  intro H locs ls hP hD hS hl
  exact lv_aload_n hx hb hdg hi (lv_at hl j hj) (kk H locs ls hP hD hS hl)
theorem v_aload {i : Nat} {x : Nat} (j : Nat) (C : Cx X G T cc own ret nl fr lo) (hdg : decode cc pc = .ok (.aload i, 2)) (hj : lv[j]? = some (i, .ref x)) (kk : V X k n ws lv (pc + 2) (.ref x :: rest)) : V X k n ws lv pc rest := by
  obtain ⟨p, l, e, R, s, m, args, below, meth, c, D, A, H0, nL, Q⟩ := X
  obtain ⟨hx, hb, hml, hown, hts, hK, hlocks, hr, hA, hnl, hfr, hlo, htr, hG, hGs, hH0⟩ := C
  intro H locs ls hP hD hS hl
  exact lv_aload hx hb hdg (lv_at hl j hj) (kk H locs ls hP hD hS hl)
theorem v_iadd {x y : Int32} {β : Type} {K : Int32 → β} {o : β} (C : Cx X G T cc own ret nl fr lo) (hdg : decode cc pc = .ok (.iadd, 1)) (hf : nm (x + y) K = o) (kk : ∀ z, K z = o → V X k n ws lv (pc + 1) (.int z :: rest)) : V X k n ws lv pc (.int y :: .int x :: rest) := by
  have kk := kk _ hf
  obtain ⟨p, l, e, R, s, m, args, below, meth, c, D, A, H0, nL, Q⟩ := X
  obtain ⟨hx, hb, hml, hown, hts, hK, hlocks, hr, hA, hnl, hfr, hlo, htr, hG, hGs, hH0⟩ := C
  intro H locs ls hP hD hS hl
  exact lv_iadd hx hb hdg (kk H locs ls hP hD hS hl)
theorem v_isub {x y : Int32} {β : Type} {K : Int32 → β} {o : β} (C : Cx X G T cc own ret nl fr lo) (hdg : decode cc pc = .ok (.isub, 1)) (hf : nm (x - y) K = o) (kk : ∀ z, K z = o → V X k n ws lv (pc + 1) (.int z :: rest)) : V X k n ws lv pc (.int y :: .int x :: rest) := by
  have kk := kk _ hf
  obtain ⟨p, l, e, R, s, m, args, below, meth, c, D, A, H0, nL, Q⟩ := X
  obtain ⟨hx, hb, hml, hown, hts, hK, hlocks, hr, hA, hnl, hfr, hlo, htr, hG, hGs, hH0⟩ := C
  intro H locs ls hP hD hS hl
  exact lv_isub hx hb hdg (kk H locs ls hP hD hS hl)
theorem v_imul {x y : Int32} {β : Type} {K : Int32 → β} {o : β} (C : Cx X G T cc own ret nl fr lo) (hdg : decode cc pc = .ok (.imul, 1)) (hf : nm (x * y) K = o) (kk : ∀ z, K z = o → V X k n ws lv (pc + 1) (.int z :: rest)) : V X k n ws lv pc (.int y :: .int x :: rest) := by
  have kk := kk _ hf
  obtain ⟨p, l, e, R, s, m, args, below, meth, c, D, A, H0, nL, Q⟩ := X
  obtain ⟨hx, hb, hml, hown, hts, hK, hlocks, hr, hA, hnl, hfr, hlo, htr, hG, hGs, hH0⟩ := C
  intro H locs ls hP hD hS hl
  exact lv_imul hx hb hdg (kk H locs ls hP hD hS hl)
theorem v_iand {x y : Int32} {β : Type} {K : Int32 → β} {o : β} (C : Cx X G T cc own ret nl fr lo) (hdg : decode cc pc = .ok (.iand, 1)) (hf : nm (x &&& y) K = o) (kk : ∀ z, K z = o → V X k n ws lv (pc + 1) (.int z :: rest)) : V X k n ws lv pc (.int y :: .int x :: rest) := by
  have kk := kk _ hf
  obtain ⟨p, l, e, R, s, m, args, below, meth, c, D, A, H0, nL, Q⟩ := X
  obtain ⟨hx, hb, hml, hown, hts, hK, hlocks, hr, hA, hnl, hfr, hlo, htr, hG, hGs, hH0⟩ := C
  intro H locs ls hP hD hS hl
  exact lv_iand hx hb hdg (kk H locs ls hP hD hS hl)
theorem v_ladd {x y : Int64} {β : Type} {K : Int64 → β} {o : β} (C : Cx X G T cc own ret nl fr lo) (hdg : decode cc pc = .ok (.ladd, 1)) (hf : nm (x + y) K = o) (kk : ∀ z, K z = o → V X k n ws lv (pc + 1) (.long z :: rest)) : V X k n ws lv pc (.long y :: .long x :: rest) := by
  have kk := kk _ hf
  obtain ⟨p, l, e, R, s, m, args, below, meth, c, D, A, H0, nL, Q⟩ := X
  obtain ⟨hx, hb, hml, hown, hts, hK, hlocks, hr, hA, hnl, hfr, hlo, htr, hG, hGs, hH0⟩ := C
  intro H locs ls hP hD hS hl
  exact lv_ladd hx hb hdg (kk H locs ls hP hD hS hl)
theorem v_lsub {x y : Int64} {β : Type} {K : Int64 → β} {o : β} (C : Cx X G T cc own ret nl fr lo) (hdg : decode cc pc = .ok (.lsub, 1)) (hf : nm (x - y) K = o) (kk : ∀ z, K z = o → V X k n ws lv (pc + 1) (.long z :: rest)) : V X k n ws lv pc (.long y :: .long x :: rest) := by
  have kk := kk _ hf
  obtain ⟨p, l, e, R, s, m, args, below, meth, c, D, A, H0, nL, Q⟩ := X
  obtain ⟨hx, hb, hml, hown, hts, hK, hlocks, hr, hA, hnl, hfr, hlo, htr, hG, hGs, hH0⟩ := C
  intro H locs ls hP hD hS hl
  exact lv_lsub hx hb hdg (kk H locs ls hP hD hS hl)
theorem v_lmul {x y : Int64} {β : Type} {K : Int64 → β} {o : β} (C : Cx X G T cc own ret nl fr lo) (hdg : decode cc pc = .ok (.lmul, 1)) (hf : nm (x * y) K = o) (kk : ∀ z, K z = o → V X k n ws lv (pc + 1) (.long z :: rest)) : V X k n ws lv pc (.long y :: .long x :: rest) := by
  have kk := kk _ hf
  obtain ⟨p, l, e, R, s, m, args, below, meth, c, D, A, H0, nL, Q⟩ := X
  obtain ⟨hx, hb, hml, hown, hts, hK, hlocks, hr, hA, hnl, hfr, hlo, htr, hG, hGs, hH0⟩ := C
  intro H locs ls hP hD hS hl
  exact lv_lmul hx hb hdg (kk H locs ls hP hD hS hl)
theorem v_land {x y : Int64} {β : Type} {K : Int64 → β} {o : β} (C : Cx X G T cc own ret nl fr lo) (hdg : decode cc pc = .ok (.land, 1)) (hf : nm (x &&& y) K = o) (kk : ∀ z, K z = o → V X k n ws lv (pc + 1) (.long z :: rest)) : V X k n ws lv pc (.long y :: .long x :: rest) := by
  have kk := kk _ hf
  obtain ⟨p, l, e, R, s, m, args, below, meth, c, D, A, H0, nL, Q⟩ := X
  obtain ⟨hx, hb, hml, hown, hts, hK, hlocks, hr, hA, hnl, hfr, hlo, htr, hG, hGs, hH0⟩ := C
  intro H locs ls hP hD hS hl
  exact lv_land hx hb hdg (kk H locs ls hP hD hS hl)
theorem v_lor {x y : Int64} {β : Type} {K : Int64 → β} {o : β} (C : Cx X G T cc own ret nl fr lo) (hdg : decode cc pc = .ok (.lor, 1)) (hf : nm (x ||| y) K = o) (kk : ∀ z, K z = o → V X k n ws lv (pc + 1) (.long z :: rest)) : V X k n ws lv pc (.long y :: .long x :: rest) := by
  have kk := kk _ hf
  obtain ⟨p, l, e, R, s, m, args, below, meth, c, D, A, H0, nL, Q⟩ := X
  obtain ⟨hx, hb, hml, hown, hts, hK, hlocks, hr, hA, hnl, hfr, hlo, htr, hG, hGs, hH0⟩ := C
  intro H locs ls hP hD hS hl
  exact lv_lor hx hb hdg (kk H locs ls hP hD hS hl)
theorem v_idiv {x y : Int32} {β : Type} {K : Int32 → Option β} {o : β} (C : Cx X G T cc own ret nl fr lo) (hdg : decode cc pc = .ok (.idiv, 1)) (hf : chk (¬ y = 0) (nm (x / y) K) = some o) (kk : ∀ z, K z = some o → V X k n ws lv (pc + 1) (.int z :: rest)) : V X k n ws lv pc (.int y :: .int x :: rest) := by
  obtain ⟨hne, hf⟩ := chk_some hf
  have kk := kk _ hf
  obtain ⟨p, l, e, R, s, m, args, below, meth, c, D, A, H0, nL, Q⟩ := X
  obtain ⟨hx, hb, hml, hown, hts, hK, hlocks, hr, hA, hnl, hfr, hlo, htr, hG, hGs, hH0⟩ := C
  intro H locs ls hP hD hS hl
  exact lv_idiv hx hb hdg hne (kk H locs ls hP hD hS hl)
theorem v_irem {x y : Int32} {β : Type} {K : Int32 → Option β} {o : β} (C : Cx X G T cc own ret nl fr lo) (hdg : decode cc pc = .ok (.irem, 1)) (hf : chk (¬ y = 0) (nm (x - x / y * y) K) = some o) (kk : ∀ z, K z = some o → V X k n ws lv (pc + 1) (.int z :: rest)) : V X k n ws lv pc (.int y :: .int x :: rest) := by
  obtain ⟨hne, hf⟩ := chk_some hf
  have kk := kk _ hf
  obtain ⟨p, l, e, R, s, m, args, below, meth, c, D, A, H0, nL, Q⟩ := X
  obtain ⟨hx, hb, hml, hown, hts, hK, hlocks, hr, hA, hnl, hfr, hlo, htr, hG, hGs, hH0⟩ := C
  intro H locs ls hP hD hS hl
  exact lv_irem hx hb hdg hne (kk H locs ls hP hD hS hl)
theorem v_ldiv {x y : Int64} {β : Type} {K : Int64 → Option β} {o : β} (C : Cx X G T cc own ret nl fr lo) (hdg : decode cc pc = .ok (.ldiv, 1)) (hf : chk (¬ y = 0) (nm (x / y) K) = some o) (kk : ∀ z, K z = some o → V X k n ws lv (pc + 1) (.long z :: rest)) : V X k n ws lv pc (.long y :: .long x :: rest) := by
  obtain ⟨hne, hf⟩ := chk_some hf
  have kk := kk _ hf
  obtain ⟨p, l, e, R, s, m, args, below, meth, c, D, A, H0, nL, Q⟩ := X
  obtain ⟨hx, hb, hml, hown, hts, hK, hlocks, hr, hA, hnl, hfr, hlo, htr, hG, hGs, hH0⟩ := C
  intro H locs ls hP hD hS hl
  exact lv_ldiv hx hb hdg hne (kk H locs ls hP hD hS hl)
theorem v_lrem {x y : Int64} {β : Type} {K : Int64 → Option β} {o : β} (C : Cx X G T cc own ret nl fr lo) (hdg : decode cc pc = .ok (.lrem, 1)) (hf : chk (¬ y = 0) (nm (x - x / y * y) K) = some o) (kk : ∀ z, K z = some o → V X k n ws lv (pc + 1) (.long z :: rest)) : V X k n ws lv pc (.long y :: .long x :: rest) := by
  obtain ⟨hne, hf⟩ := chk_some hf
  have kk := kk _ hf
  obtain ⟨p, l, e, R, s, m, args, below, meth, c, D, A, H0, nL, Q⟩ := X
  obtain ⟨hx, hb, hml, hown, hts, hK, hlocks, hr, hA, hnl, hfr, hlo, htr, hG, hGs, hH0⟩ := C
  intro H locs ls hP hD hS hl
  exact lv_lrem hx hb hdg hne (kk H locs ls hP hD hS hl)
theorem v_i2l {x : Int32} {β : Type} {K : Int64 → β} {o : β} (C : Cx X G T cc own ret nl fr lo) (hdg : decode cc pc = .ok (.i2l, 1)) (hf : nm (x.toInt64) K = o) (kk : ∀ z, K z = o → V X k n ws lv (pc + 1) (.long z :: rest)) : V X k n ws lv pc (.int x :: rest) := by
  have kk := kk _ hf
  obtain ⟨p, l, e, R, s, m, args, below, meth, c, D, A, H0, nL, Q⟩ := X
  obtain ⟨hx, hb, hml, hown, hts, hK, hlocks, hr, hA, hnl, hfr, hlo, htr, hG, hGs, hH0⟩ := C
  intro H locs ls hP hD hS hl
  exact lv_i2l hx hb hdg rfl (kk H locs ls hP hD hS hl)
theorem v_l2i {x : Int64} {β : Type} {K : Int32 → β} {o : β} (C : Cx X G T cc own ret nl fr lo) (hdg : decode cc pc = .ok (.l2i, 1)) (hf : nm (x.toInt32) K = o) (kk : ∀ z, K z = o → V X k n ws lv (pc + 1) (.int z :: rest)) : V X k n ws lv pc (.long x :: rest) := by
  have kk := kk _ hf
  obtain ⟨p, l, e, R, s, m, args, below, meth, c, D, A, H0, nL, Q⟩ := X
  obtain ⟨hx, hb, hml, hown, hts, hK, hlocks, hr, hA, hnl, hfr, hlo, htr, hG, hGs, hH0⟩ := C
  intro H locs ls hP hD hS hl
  exact lv_l2i hx hb hdg rfl (kk H locs ls hP hD hS hl)
theorem v_i2b {x : Int32} {β : Type} {K : Int32 → β} {o : β} (C : Cx X G T cc own ret nl fr lo) (hdg : decode cc pc = .ok (.i2b, 1)) (hf : nm (x.toInt8.toInt32) K = o) (kk : ∀ z, K z = o → V X k n ws lv (pc + 1) (.int z :: rest)) : V X k n ws lv pc (.int x :: rest) := by
  have kk := kk _ hf
  obtain ⟨p, l, e, R, s, m, args, below, meth, c, D, A, H0, nL, Q⟩ := X
  obtain ⟨hx, hb, hml, hown, hts, hK, hlocks, hr, hA, hnl, hfr, hlo, htr, hG, hGs, hH0⟩ := C
  intro H locs ls hP hD hS hl
  exact lv_i2b hx hb hdg rfl (kk H locs ls hP hD hS hl)
theorem v_lshl {x : Int64} {y : Int32} {β : Type} {K : Int64 → β} {o : β} (C : Cx X G T cc own ret nl fr lo) (hdg : decode cc pc = .ok (.lshl, 1)) (hf : nm (x <<< (y.toInt64 &&& 63)) K = o) (kk : ∀ z, K z = o → V X k n ws lv (pc + 1) (.long z :: rest)) : V X k n ws lv pc (.int y :: .long x :: rest) := by
  have kk := kk _ hf
  obtain ⟨p, l, e, R, s, m, args, below, meth, c, D, A, H0, nL, Q⟩ := X
  obtain ⟨hx, hb, hml, hown, hts, hK, hlocks, hr, hA, hnl, hfr, hlo, htr, hG, hGs, hH0⟩ := C
  intro H locs ls hP hD hS hl
  exact lv_lshl hx hb hdg rfl (kk H locs ls hP hD hS hl)
theorem v_dup {va : Value} (C : Cx X G T cc own ret nl fr lo) (hdg : decode cc pc = .ok (.dup, 1)) (hva : va.category = 1) (kk : V X k n ws lv (pc + 1) (va :: va :: rest)) : V X k n ws lv pc (va :: rest) := by
  obtain ⟨p, l, e, R, s, m, args, below, meth, c, D, A, H0, nL, Q⟩ := X
  obtain ⟨hx, hb, hml, hown, hts, hK, hlocks, hr, hA, hnl, hfr, hlo, htr, hG, hGs, hH0⟩ := C
  intro H locs ls hP hD hS hl
  exact lv_dup hx hb hdg hva (kk H locs ls hP hD hS hl)
theorem v_dup2_11 {va vb : Value} (C : Cx X G T cc own ret nl fr lo) (hdg : decode cc pc = .ok (.dup2, 1)) (hva : va.category = 1) (hvb : vb.category = 1) (kk : V X k n ws lv (pc + 1) (va :: vb :: va :: vb :: rest)) : V X k n ws lv pc (va :: vb :: rest) := by
  obtain ⟨p, l, e, R, s, m, args, below, meth, c, D, A, H0, nL, Q⟩ := X
  obtain ⟨hx, hb, hml, hown, hts, hK, hlocks, hr, hA, hnl, hfr, hlo, htr, hG, hGs, hH0⟩ := C
  intro H locs ls hP hD hS hl
  exact lv_dup2_11 hx hb hdg hva hvb (kk H locs ls hP hD hS hl)
theorem v_pop {va : Value} (C : Cx X G T cc own ret nl fr lo) (hdg : decode cc pc = .ok (.pop, 1)) (hva : va.category = 1) (kk : V X k n ws lv (pc + 1) rest) : V X k n ws lv pc (va :: rest) := by
  obtain ⟨p, l, e, R, s, m, args, below, meth, c, D, A, H0, nL, Q⟩ := X
  obtain ⟨hx, hb, hml, hown, hts, hK, hlocks, hr, hA, hnl, hfr, hlo, htr, hG, hGs, hH0⟩ := C
  intro H locs ls hP hD hS hl
  exact lv_pop hx hb hdg hva (kk H locs ls hP hD hS hl)
theorem v_goto {off : Int} (tgt : Nat) (C : Cx X G T cc own ret nl fr lo) (hdg : decode cc pc = .ok (.goto off, 3)) (ht : (pc : Int) + off = (tgt : Int)) (kk : V X k n ws lv tgt rest) : V X k n ws lv pc rest := by
  obtain ⟨p, l, e, R, s, m, args, below, meth, c, D, A, H0, nL, Q⟩ := X
  obtain ⟨hx, hb, hml, hown, hts, hK, hlocks, hr, hA, hnl, hfr, hlo, htr, hG, hGs, hH0⟩ := C
  intro H locs ls hP hD hS hl
  exact lv_goto hx hb hdg ht (kk H locs ls hP hD hS hl)
theorem v_lcmp {x y : Int64} (C : Cx X G T cc own ret nl fr lo) (hdg : decode cc pc = .ok (.lcmp, 1)) (kk : V X k n ws lv (pc + 1) (.int (lg_cmp x y) :: rest)) : V X k n ws lv pc (.long y :: .long x :: rest) := by
  obtain ⟨p, l, e, R, s, m, args, below, meth, c, D, A, H0, nL, Q⟩ := X
  obtain ⟨hx, hb, hml, hown, hts, hK, hlocks, hr, hA, hnl, hfr, hlo, htr, hG, hGs, hH0⟩ := C
  intro H locs ls hP hD hS hl
  exact W.lcmp hx hb hdg (kk H locs ls hP hD hS hl)
theorem v_topi {x y : Int32} (h : y = x) (kk : V X k n ws lv pc (.int y :: rest)) : V X k n ws lv pc (.int x :: rest) := h ▸ kk
theorem v_topl {x y : Int64} (h : y = x) (kk : V X k n ws lv pc (.long y :: rest)) : V X k n ws lv pc (.long x :: rest) := h ▸ kk
theorem v_if_eq {x : Int32} {off : Int} {β : Type} {e1 e2 o : β} (tgt : Nat) (C : Cx X G T cc own ret nl fr lo) (hdg : decode cc pc = .ok (.ifCond .eq off, 3)) (ht : (pc : Int) + off = (tgt : Int)) (hf : (if x = 0 then e1 else e2) = o) (kt : (x = 0) → e1 = o → V X k n ws lv tgt rest) (kf : ¬ (x = 0) → e2 = o → V X k n ws lv (pc + 3) rest) : V X k n ws lv pc (.int x :: rest) := by
  replace kt := fun q => kt q (ite_t q hf)
  replace kf := fun q => kf q (ite_f q hf)
  obtain ⟨p, l, e, R, s, m, args, below, meth, c, D, A, H0, nL, Q⟩ := X
  obtain ⟨hx, hb, hml, hown, hts, hK, hlocks, hr, hA, hnl, hfr, hlo, htr, hG, hGs, hH0⟩ := C
  intro H locs ls hP hD hS hl
  exact lv_if_eq hx hb hdg ht (fun q => kt q H locs ls hP hD hS hl) (fun q => kf q H locs ls hP hD hS hl)
theorem v_if_ne {x : Int32} {off : Int} {β : Type} {e1 e2 o : β} (tgt : Nat) (C : Cx X G T cc own ret nl fr lo) (hdg : decode cc pc = .ok (.ifCond .ne off, 3)) (ht : (pc : Int) + off = (tgt : Int)) (hf : (if x = 0 then e1 else e2) = o) (kt : (x = 0) → e1 = o → V X k n ws lv (pc + 3) rest) (kf : ¬ (x = 0) → e2 = o → V X k n ws lv tgt rest) : V X k n ws lv pc (.int x :: rest) := by
  replace kt := fun q => kt q (ite_t q hf)
  replace kf := fun q => kf q (ite_f q hf)
  obtain ⟨p, l, e, R, s, m, args, below, meth, c, D, A, H0, nL, Q⟩ := X
  obtain ⟨hx, hb, hml, hown, hts, hK, hlocks, hr, hA, hnl, hfr, hlo, htr, hG, hGs, hH0⟩ := C
  intro H locs ls hP hD hS hl
  exact lv_if_ne hx hb hdg ht (fun q => kf q H locs ls hP hD hS hl) (fun q => kt q H locs ls hP hD hS hl)
theorem v_if_lt {x : Int32} {off : Int} {β : Type} {e1 e2 o : β} (tgt : Nat) (C : Cx X G T cc own ret nl fr lo) (hdg : decode cc pc = .ok (.ifCond .lt off, 3)) (ht : (pc : Int) + off = (tgt : Int)) (hf : (if x < 0 then e1 else e2) = o) (kt : (x < 0) → e1 = o → V X k n ws lv tgt rest) (kf : ¬ (x < 0) → e2 = o → V X k n ws lv (pc + 3) rest) : V X k n ws lv pc (.int x :: rest) := by
  replace kt := fun q => kt q (ite_t q hf)
  replace kf := fun q => kf q (ite_f q hf)
  obtain ⟨p, l, e, R, s, m, args, below, meth, c, D, A, H0, nL, Q⟩ := X
  obtain ⟨hx, hb, hml, hown, hts, hK, hlocks, hr, hA, hnl, hfr, hlo, htr, hG, hGs, hH0⟩ := C
  intro H locs ls hP hD hS hl
  exact lv_if_lt hx hb hdg ht (fun q => kt q H locs ls hP hD hS hl) (fun q => kf q H locs ls hP hD hS hl)
theorem v_if_ge {x : Int32} {off : Int} {β : Type} {e1 e2 o : β} (tgt : Nat) (C : Cx X G T cc own ret nl fr lo) (hdg : decode cc pc = .ok (.ifCond .ge off, 3)) (ht : (pc : Int) + off = (tgt : Int)) (hf : (if 0 ≤ x then e1 else e2) = o) (kt : (0 ≤ x) → e1 = o → V X k n ws lv tgt rest) (kf : ¬ (0 ≤ x) → e2 = o → V X k n ws lv (pc + 3) rest) : V X k n ws lv pc (.int x :: rest) := by
  replace kt := fun q => kt q (ite_t q hf)
  replace kf := fun q => kf q (ite_f q hf)
  obtain ⟨p, l, e, R, s, m, args, below, meth, c, D, A, H0, nL, Q⟩ := X
  obtain ⟨hx, hb, hml, hown, hts, hK, hlocks, hr, hA, hnl, hfr, hlo, htr, hG, hGs, hH0⟩ := C
  intro H locs ls hP hD hS hl
  exact lv_if_ge hx hb hdg ht (fun q => kt q H locs ls hP hD hS hl) (fun q => kf q H locs ls hP hD hS hl)
theorem v_if_gt {x : Int32} {off : Int} {β : Type} {e1 e2 o : β} (tgt : Nat) (C : Cx X G T cc own ret nl fr lo) (hdg : decode cc pc = .ok (.ifCond .gt off, 3)) (ht : (pc : Int) + off = (tgt : Int)) (hf : (if 0 < x then e1 else e2) = o) (kt : (0 < x) → e1 = o → V X k n ws lv tgt rest) (kf : ¬ (0 < x) → e2 = o → V X k n ws lv (pc + 3) rest) : V X k n ws lv pc (.int x :: rest) := by
  replace kt := fun q => kt q (ite_t q hf)
  replace kf := fun q => kf q (ite_f q hf)
  obtain ⟨p, l, e, R, s, m, args, below, meth, c, D, A, H0, nL, Q⟩ := X
  obtain ⟨hx, hb, hml, hown, hts, hK, hlocks, hr, hA, hnl, hfr, hlo, htr, hG, hGs, hH0⟩ := C
  intro H locs ls hP hD hS hl
  exact lv_if_gt hx hb hdg ht (fun q => kt q H locs ls hP hD hS hl) (fun q => kf q H locs ls hP hD hS hl)
theorem v_if_le {x : Int32} {off : Int} {β : Type} {e1 e2 o : β} (tgt : Nat) (C : Cx X G T cc own ret nl fr lo) (hdg : decode cc pc = .ok (.ifCond .le off, 3)) (ht : (pc : Int) + off = (tgt : Int)) (hf : (if x ≤ 0 then e1 else e2) = o) (kt : (x ≤ 0) → e1 = o → V X k n ws lv tgt rest) (kf : ¬ (x ≤ 0) → e2 = o → V X k n ws lv (pc + 3) rest) : V X k n ws lv pc (.int x :: rest) := by
  replace kt := fun q => kt q (ite_t q hf)
  replace kf := fun q => kf q (ite_f q hf)
  obtain ⟨p, l, e, R, s, m, args, below, meth, c, D, A, H0, nL, Q⟩ := X
  obtain ⟨hx, hb, hml, hown, hts, hK, hlocks, hr, hA, hnl, hfr, hlo, htr, hG, hGs, hH0⟩ := C
  intro H locs ls hP hD hS hl
  exact lv_if_le hx hb hdg ht (fun q => kt q H locs ls hP hD hS hl) (fun q => kf q H locs ls hP hD hS hl)
theorem v_icmp_eq {x y : Int32} {off : Int} {β : Type} {e1 e2 o : β} (tgt : Nat) (C : Cx X G T cc own ret nl fr lo) (hdg : decode cc pc = .ok (.if_icmp .eq off, 3)) (ht : (pc : Int) + off = (tgt : Int)) (hf : (if x = y then e1 else e2) = o) (kt : (x = y) → e1 = o → V X k n ws lv tgt rest) (kf : ¬ (x = y) → e2 = o → V X k n ws lv (pc + 3) rest) : V X k n ws lv pc (.int y :: .int x :: rest) := by
  replace kt := fun q => kt q (ite_t q hf)
  replace kf := fun q => kf q (ite_f q hf)
  obtain ⟨p, l, e, R, s, m, args, below, meth, c, D, A, H0, nL, Q⟩ := X
  obtain ⟨hx, hb, hml, hown, hts, hK, hlocks, hr, hA, hnl, hfr, hlo, htr, hG, hGs, hH0⟩ := C
  intro H locs ls hP hD hS hl
  exact lv_icmp_eq hx hb hdg ht (fun q => kt q H locs ls hP hD hS hl) (fun q => kf q H locs ls hP hD hS hl)
theorem v_icmp_ne {x y : Int32} {off : Int} {β : Type} {e1 e2 o : β} (tgt : Nat) (C : Cx X G T cc own ret nl fr lo) (hdg : decode cc pc = .ok (.if_icmp .ne off, 3)) (ht : (pc : Int) + off = (tgt : Int)) (hf : (if x = y then e1 else e2) = o) (kt : (x = y) → e1 = o → V X k n ws lv (pc + 3) rest) (kf : ¬ (x = y) → e2 = o → V X k n ws lv tgt rest) : V X k n ws lv pc (.int y :: .int x :: rest) := by
  replace kt := fun q => kt q (ite_t q hf)
  replace kf := fun q => kf q (ite_f q hf)
  obtain ⟨p, l, e, R, s, m, args, below, meth, c, D, A, H0, nL, Q⟩ := X
  obtain ⟨hx, hb, hml, hown, hts, hK, hlocks, hr, hA, hnl, hfr, hlo, htr, hG, hGs, hH0⟩ := C
  intro H locs ls hP hD hS hl
  exact lv_icmp_ne hx hb hdg ht (fun q => kf q H locs ls hP hD hS hl) (fun q => kt q H locs ls hP hD hS hl)
theorem v_icmp_lt {x y : Int32} {off : Int} {β : Type} {e1 e2 o : β} (tgt : Nat) (C : Cx X G T cc own ret nl fr lo) (hdg : decode cc pc = .ok (.if_icmp .lt off, 3)) (ht : (pc : Int) + off = (tgt : Int)) (hf : (if x < y then e1 else e2) = o) (kt : (x < y) → e1 = o → V X k n ws lv tgt rest) (kf : ¬ (x < y) → e2 = o → V X k n ws lv (pc + 3) rest) : V X k n ws lv pc (.int y :: .int x :: rest) := by
  replace kt := fun q => kt q (ite_t q hf)
  replace kf := fun q => kf q (ite_f q hf)
  obtain ⟨p, l, e, R, s, m, args, below, meth, c, D, A, H0, nL, Q⟩ := X
  obtain ⟨hx, hb, hml, hown, hts, hK, hlocks, hr, hA, hnl, hfr, hlo, htr, hG, hGs, hH0⟩ := C
  intro H locs ls hP hD hS hl
  exact lv_icmp_lt hx hb hdg ht (fun q => kt q H locs ls hP hD hS hl) (fun q => kf q H locs ls hP hD hS hl)
theorem v_icmp_ge {x y : Int32} {off : Int} {β : Type} {e1 e2 o : β} (tgt : Nat) (C : Cx X G T cc own ret nl fr lo) (hdg : decode cc pc = .ok (.if_icmp .ge off, 3)) (ht : (pc : Int) + off = (tgt : Int)) (hf : (if y ≤ x then e1 else e2) = o) (kt : (y ≤ x) → e1 = o → V X k n ws lv tgt rest) (kf : ¬ (y ≤ x) → e2 = o → V X k n ws lv (pc + 3) rest) : V X k n ws lv pc (.int y :: .int x :: rest) := by
  replace kt := fun q => kt q (ite_t q hf)
  replace kf := fun q => kf q (ite_f q hf)
  obtain ⟨p, l, e, R, s, m, args, below, meth, c, D, A, H0, nL, Q⟩ := X
  obtain ⟨hx, hb, hml, hown, hts, hK, hlocks, hr, hA, hnl, hfr, hlo, htr, hG, hGs, hH0⟩ := C
  intro H locs ls hP hD hS hl
  exact lv_icmp_ge hx hb hdg ht (fun q => kt q H locs ls hP hD hS hl) (fun q => kf q H locs ls hP hD hS hl)
theorem v_icmp_gt {x y : Int32} {off : Int} {β : Type} {e1 e2 o : β} (tgt : Nat) (C : Cx X G T cc own ret nl fr lo) (hdg : decode cc pc = .ok (.if_icmp .gt off, 3)) (ht : (pc : Int) + off = (tgt : Int)) (hf : (if y < x then e1 else e2) = o) (kt : (y < x) → e1 = o → V X k n ws lv tgt rest) (kf : ¬ (y < x) → e2 = o → V X k n ws lv (pc + 3) rest) : V X k n ws lv pc (.int y :: .int x :: rest) := by
  replace kt := fun q => kt q (ite_t q hf)
  replace kf := fun q => kf q (ite_f q hf)
  obtain ⟨p, l, e, R, s, m, args, below, meth, c, D, A, H0, nL, Q⟩ := X
  obtain ⟨hx, hb, hml, hown, hts, hK, hlocks, hr, hA, hnl, hfr, hlo, htr, hG, hGs, hH0⟩ := C
  intro H locs ls hP hD hS hl
  exact lv_icmp_gt hx hb hdg ht (fun q => kt q H locs ls hP hD hS hl) (fun q => kf q H locs ls hP hD hS hl)
theorem v_icmp_le {x y : Int32} {off : Int} {β : Type} {e1 e2 o : β} (tgt : Nat) (C : Cx X G T cc own ret nl fr lo) (hdg : decode cc pc = .ok (.if_icmp .le off, 3)) (ht : (pc : Int) + off = (tgt : Int)) (hf : (if x ≤ y then e1 else e2) = o) (kt : (x ≤ y) → e1 = o → V X k n ws lv tgt rest) (kf : ¬ (x ≤ y) → e2 = o → V X k n ws lv (pc + 3) rest) : V X k n ws lv pc (.int y :: .int x :: rest) := by
  replace kt := fun q => kt q (ite_t q hf)
  replace kf := fun q => kf q (ite_f q hf)
  obtain ⟨p, l, e, R, s, m, args, below, meth, c, D, A, H0, nL, Q⟩ := X
  obtain ⟨hx, hb, hml, hown, hts, hK, hlocks, hr, hA, hnl, hfr, hlo, htr, hG, hGs, hH0⟩ := C
  intro H locs ls hP hD hS hl
  exact lv_icmp_le hx hb hdg ht (fun q => kt q H locs ls hP hD hS hl) (fun q => kf q H locs ls hP hD hS hl)
theorem tri64 (x y : Int64) : x < y ∧ ¬ x = y ∧ ¬ y < x ∨ x = y ∧ ¬ x < y ∧ ¬ y < x ∨ y < x ∧ ¬ x = y ∧ ¬ x < y := by
  have h : ∀ a b : Int64, a < b ↔ a.toInt < b.toInt := fun a b => Int64.lt_iff_toInt_lt
  have e : x = y ↔ x.toInt = y.toInt := ⟨fun h => by rw [h], fun h => Int64.toInt_inj.mp h⟩
  rw [h x y, h y x, e]
  omega
theorem lgc_eq (x y : Int64) : (lg_cmp x y = 0) = (x = y) := by
  unfold lg_cmp
  rcases tri64 x y with ⟨h1, h2, h3⟩ | ⟨h1, h2, h3⟩ | ⟨h1, h2, h3⟩ <;> simp [h1, h2, h3]
theorem lgc_lt (x y : Int64) : (lg_cmp x y < 0) = (x < y) := by
  unfold lg_cmp
  rcases tri64 x y with ⟨h1, h2, h3⟩ | ⟨h1, h2, h3⟩ | ⟨h1, h2, h3⟩ <;> simp [h1, h2, h3]
theorem lgc_gt (x y : Int64) : (0 < lg_cmp x y) = (y < x) := by
  unfold lg_cmp
  rcases tri64 x y with ⟨h1, h2, h3⟩ | ⟨h1, h2, h3⟩ | ⟨h1, h2, h3⟩ <;> simp [h1, h2, h3]
theorem lgc_le (x y : Int64) : (lg_cmp x y ≤ 0) = (x ≤ y) := by
  have := lgc_gt x y
  rw [← Int32.not_lt, ← Int64.not_lt, this]
theorem lgc_ge (x y : Int64) : (0 ≤ lg_cmp x y) = (y ≤ x) := by
  have := lgc_lt x y
  rw [← Int32.not_lt, ← Int64.not_lt, this]
theorem v_lcmp_eq {x y : Int64} {off : Int} {β : Type} {e1 e2 o : β} (tgt : Nat) (C : Cx X G T cc own ret nl fr lo) (hd1 : decode cc pc = .ok (.lcmp, 1)) (hdg : decode cc (pc + 1) = .ok (.ifCond .eq off, 3)) (ht : ((pc + 1 : Nat) : Int) + off = (tgt : Int)) (hf : (if x = y then e1 else e2) = o) (kt : (x = y) → e1 = o → V X k n ws lv tgt rest) (kf : ¬ (x = y) → e2 = o → V X k n ws lv (pc + 1 + 3) rest) : V X k n ws lv pc (.long y :: .long x :: rest) := by
  replace kt := fun q => kt q (ite_t q hf)
  replace kf := fun q => kf q (ite_f q hf)
  have h9 := lgc_eq x y
  obtain ⟨p, l, e, R, s, m, args, below, meth, c, D, A, H0, nL, Q⟩ := X
  obtain ⟨hx, hb, hml, hown, hts, hK, hlocks, hr, hA, hnl, hfr, hlo, htr, hG, hGs, hH0⟩ := C
  intro H locs ls hP hD hS hl
  exact W.lcmp hx hb hd1 (lv_if_eq hx hb hdg ht (fun q => kt (by rw [h9] at q; exact q) H locs ls hP hD hS hl) (fun q => kf (by rw [h9] at q; exact q) H locs ls hP hD hS hl))
theorem v_lcmp_ne {x y : Int64} {off : Int} {β : Type} {e1 e2 o : β} (tgt : Nat) (C : Cx X G T cc own ret nl fr lo) (hd1 : decode cc pc = .ok (.lcmp, 1)) (hdg : decode cc (pc + 1) = .ok (.ifCond .ne off, 3)) (ht : ((pc + 1 : Nat) : Int) + off = (tgt : Int)) (hf : (if x = y then e1 else e2) = o) (kt : (x = y) → e1 = o → V X k n ws lv (pc + 1 + 3) rest) (kf : ¬ (x = y) → e2 = o → V X k n ws lv tgt rest) : V X k n ws lv pc (.long y :: .long x :: rest) := by
  replace kt := fun q => kt q (ite_t q hf)
  replace kf := fun q => kf q (ite_f q hf)
  have h9 := lgc_eq x y
  obtain ⟨p, l, e, R, s, m, args, below, meth, c, D, A, H0, nL, Q⟩ := X
  obtain ⟨hx, hb, hml, hown, hts, hK, hlocks, hr, hA, hnl, hfr, hlo, htr, hG, hGs, hH0⟩ := C
  intro H locs ls hP hD hS hl
  exact W.lcmp hx hb hd1 (lv_if_ne hx hb hdg ht (fun q => kf (by rw [h9] at q; exact q) H locs ls hP hD hS hl) (fun q => kt (by rw [h9] at q; exact q) H locs ls hP hD hS hl))
theorem v_lcmp_lt {x y : Int64} {off : Int} {β : Type} {e1 e2 o : β} (tgt : Nat) (C : Cx X G T cc own ret nl fr lo) (hd1 : decode cc pc = .ok (.lcmp, 1)) (hdg : decode cc (pc + 1) = .ok (.ifCond .lt off, 3)) (ht : ((pc + 1 : Nat) : Int) + off = (tgt : Int)) (hf : (if x < y then e1 else e2) = o) (kt : (x < y) → e1 = o → V X k n ws lv tgt rest) (kf : ¬ (x < y) → e2 = o → V X k n ws lv (pc + 1 + 3) rest) : V X k n ws lv pc (.long y :: .long x :: rest) := by
  replace kt := fun q => kt q (ite_t q hf)
  replace kf := fun q => kf q (ite_f q hf)
  have h9 := lgc_lt x y
  obtain ⟨p, l, e, R, s, m, args, below, meth, c, D, A, H0, nL, Q⟩ := X
  obtain ⟨hx, hb, hml, hown, hts, hK, hlocks, hr, hA, hnl, hfr, hlo, htr, hG, hGs, hH0⟩ := C
  intro H locs ls hP hD hS hl
  exact W.lcmp hx hb hd1 (lv_if_lt hx hb hdg ht (fun q => kt (by rw [h9] at q; exact q) H locs ls hP hD hS hl) (fun q => kf (by rw [h9] at q; exact q) H locs ls hP hD hS hl))
theorem v_lcmp_ge {x y : Int64} {off : Int} {β : Type} {e1 e2 o : β} (tgt : Nat) (C : Cx X G T cc own ret nl fr lo) (hd1 : decode cc pc = .ok (.lcmp, 1)) (hdg : decode cc (pc + 1) = .ok (.ifCond .ge off, 3)) (ht : ((pc + 1 : Nat) : Int) + off = (tgt : Int)) (hf : (if y ≤ x then e1 else e2) = o) (kt : (y ≤ x) → e1 = o → V X k n ws lv tgt rest) (kf : ¬ (y ≤ x) → e2 = o → V X k n ws lv (pc + 1 + 3) rest) : V X k n ws lv pc (.long y :: .long x :: rest) := by
  replace kt := fun q => kt q (ite_t q hf)
  replace kf := fun q => kf q (ite_f q hf)
  have h9 := lgc_ge x y
  obtain ⟨p, l, e, R, s, m, args, below, meth, c, D, A, H0, nL, Q⟩ := X
  obtain ⟨hx, hb, hml, hown, hts, hK, hlocks, hr, hA, hnl, hfr, hlo, htr, hG, hGs, hH0⟩ := C
  intro H locs ls hP hD hS hl
  exact W.lcmp hx hb hd1 (lv_if_ge hx hb hdg ht (fun q => kt (by rw [h9] at q; exact q) H locs ls hP hD hS hl) (fun q => kf (by rw [h9] at q; exact q) H locs ls hP hD hS hl))
theorem v_lcmp_gt {x y : Int64} {off : Int} {β : Type} {e1 e2 o : β} (tgt : Nat) (C : Cx X G T cc own ret nl fr lo) (hd1 : decode cc pc = .ok (.lcmp, 1)) (hdg : decode cc (pc + 1) = .ok (.ifCond .gt off, 3)) (ht : ((pc + 1 : Nat) : Int) + off = (tgt : Int)) (hf : (if y < x then e1 else e2) = o) (kt : (y < x) → e1 = o → V X k n ws lv tgt rest) (kf : ¬ (y < x) → e2 = o → V X k n ws lv (pc + 1 + 3) rest) : V X k n ws lv pc (.long y :: .long x :: rest) := by
  replace kt := fun q => kt q (ite_t q hf)
  replace kf := fun q => kf q (ite_f q hf)
  have h9 := lgc_gt x y
  obtain ⟨p, l, e, R, s, m, args, below, meth, c, D, A, H0, nL, Q⟩ := X
  obtain ⟨hx, hb, hml, hown, hts, hK, hlocks, hr, hA, hnl, hfr, hlo, htr, hG, hGs, hH0⟩ := C
  intro H locs ls hP hD hS hl
  exact W.lcmp hx hb hd1 (lv_if_gt hx hb hdg ht (fun q => kt (by rw [h9] at q; exact q) H locs ls hP hD hS hl) (fun q => kf (by rw [h9] at q; exact q) H locs ls hP hD hS hl))
theorem v_lcmp_le {x y : Int64} {off : Int} {β : Type} {e1 e2 o : β} (tgt : Nat) (C : Cx X G T cc own ret nl fr lo) (hd1 : decode cc pc = .ok (.lcmp, 1)) (hdg : decode cc (pc + 1) = .ok (.ifCond .le off, 3)) (ht : ((pc + 1 : Nat) : Int) + off = (tgt : Int)) (hf : (if x ≤ y then e1 else e2) = o) (kt : (x ≤ y) → e1 = o → V X k n ws lv tgt rest) (kf : ¬ (x ≤ y) → e2 = o → V X k n ws lv (pc + 1 + 3) rest) : V X k n ws lv pc (.long y :: .long x :: rest) := by
  replace kt := fun q => kt q (ite_t q hf)
  replace kf := fun q => kf q (ite_f q hf)
  have h9 := lgc_le x y
  obtain ⟨p, l, e, R, s, m, args, below, meth, c, D, A, H0, nL, Q⟩ := X
  obtain ⟨hx, hb, hml, hown, hts, hK, hlocks, hr, hA, hnl, hfr, hlo, htr, hG, hGs, hH0⟩ := C
  intro H locs ls hP hD hS hl
  exact W.lcmp hx hb hd1 (lv_if_le hx hb hdg ht (fun q => kt (by rw [h9] at q; exact q) H locs ls hP hD hS hl) (fun q => kf (by rw [h9] at q; exact q) H locs ls hP hD hS hl))
theorem v_istore_n {i : Fin 4} {i2 : Nat} {x : Int32} (lv' : List (Nat × Value)) (ks : List Nat) (C : Cx X G T cc own ret nl fr lo) (hdg : decode cc pc = .ok (.istore_n i, 1)) (hi : (i : Nat) = i2) (hn : i2 < nl) (hk : lv_pick ((i2, Value.int x) :: lv.filter (fun q => !(q.1 == i2) && !(q.1 + 1 == i2 && q.2.category == 2))) ks = lv') (kk : V X k n ws lv' (pc + 1) rest) : V X k n ws lv pc (.int x :: rest) := by
  obtain ⟨p, l, e, R, s, m, args, below, meth, c, D, A, H0, nL, Q⟩ := X
  obtain ⟨hx, hb, hml, hown, hts, hK, hlocks, hr, hA, hnl, hfr, hlo, htr, hG, hGs, hH0⟩ := C
  intro H locs ls hP hD hS hl
  subst hnl
  exact lv_istore_n hx hb hdg hi hl hn rfl (fun ls2 hl2 => kk H locs ls2 hP hD hS (lv_sub hl2 ks hk))
theorem v_istore {i2 : Nat} {x : Int32} (lv' : List (Nat × Value)) (ks : List Nat) (C : Cx X G T cc own ret nl fr lo) (hdg : decode cc pc = .ok (.istore i2, 2)) (hn : i2 < nl) (hk : lv_pick ((i2, Value.int x) :: lv.filter (fun q => !(q.1 == i2) && !(q.1 + 1 == i2 && q.2.category == 2))) ks = lv') (kk : V X k n ws lv' (pc + 2) rest) : V X k n ws lv pc (.int x :: rest) := by
  obtain ⟨p, l, e, R, s, m, args, below, meth, c, D, A, H0, nL, Q⟩ := X
  obtain ⟨hx, hb, hml, hown, hts, hK, hlocks, hr, hA, hnl, hfr, hlo, htr, hG, hGs, hH0⟩ := C
  intro H locs ls hP hD hS hl
  subst hnl
  exact lv_istore hx hb hdg hl hn rfl (fun ls2 hl2 => kk H locs ls2 hP hD hS (lv_sub hl2 ks hk))
theorem v_lstore_n {i : Fin 4} {i2 : Nat} {x : Int64} (lv' : List (Nat × Value)) (ks : List Nat) (C : Cx X G T cc own ret nl fr lo) (hdg : decode cc pc = .ok (.lstore_n i, 1)) (hi : (i : Nat) = i2) (hn : i2 + 1 < nl) (hk : lv_pick ((i2, Value.long x) :: lv.filter (fun q => !(q.1 == i2) && (!(q.1 == i2 + 1) && !(q.1 + 1 == i2 && q.2.category == 2)))) ks = lv') (kk : V X k n ws lv' (pc + 1) rest) : V X k n ws lv pc (.long x :: rest) := by
  obtain ⟨p, l, e, R, s, m, args, below, meth, c, D, A, H0, nL, Q⟩ := X
  obtain ⟨hx, hb, hml, hown, hts, hK, hlocks, hr, hA, hnl, hfr, hlo, htr, hG, hGs, hH0⟩ := C
  intro H locs ls hP hD hS hl
  subst hnl
  exact lv_lstore_n hx hb hdg hi hl hn rfl (fun ls2 hl2 => kk H locs ls2 hP hD hS (lv_sub hl2 ks hk))
theorem v_lstore {i2 : Nat} {x : Int64} (lv' : List (Nat × Value)) (ks : List Nat) (C : Cx X G T cc own ret nl fr lo) (hdg : decode cc pc = .ok (.lstore i2, 2)) (hn : i2 + 1 < nl) (hk : lv_pick ((i2, Value.long x) :: lv.filter (fun q => !(q.1 == i2) && (!(q.1 == i2 + 1) && !(q.1 + 1 == i2 && q.2.category == 2)))) ks = lv') (kk : V X k n ws lv' (pc + 2) rest) : V X k n ws lv pc (.long x :: rest) := by
  obtain ⟨p, l, e, R, s, m, args, below, meth, c, D, A, H0, nL, Q⟩ := X
  obtain ⟨hx, hb, hml, hown, hts, hK, hlocks, hr, hA, hnl, hfr, hlo, htr, hG, hGs, hH0⟩ := C
  intro H locs ls hP hD hS hl
  subst hnl
  exact lv_lstore hx hb hdg hl hn rfl (fun ls2 hl2 => kk H locs ls2 hP hD hS (lv_sub hl2 ks hk))
theorem v_astore_n {i : Fin 4} {i2 : Nat} {x : Nat} (lv' : List (Nat × Value)) (ks : List Nat) (C : Cx X G T cc own ret nl fr lo) (hdg : decode cc pc = .ok (.astore_n i, 1)) (hi : (i : Nat) = i2) (hn : i2 < nl) (hk : lv_pick ((i2, Value.ref x) :: lv.filter (fun q => !(q.1 == i2) && !(q.1 + 1 == i2 && q.2.category == 2))) ks = lv') (kk : V X k n ws lv' (pc + 1) rest) : V X k n ws lv pc (.ref x :: rest) := by
  obtain ⟨p, l, e, R, s, m, args, below, meth, c, D, A, H0, nL, Q⟩ := X
  obtain ⟨hx, hb, hml, hown, hts, hK, hlocks, hr, hA, hnl, hfr, hlo, htr, hG, hGs, hH0⟩ := C
  intro H locs ls hP hD hS hl
  subst hnl
  exact lv_astore_n hx hb hdg hi hl hn rfl (fun ls2 hl2 => kk H locs ls2 hP hD hS (lv_sub hl2 ks hk))
theorem v_astore {i2 : Nat} {x : Nat} (lv' : List (Nat × Value)) (ks : List Nat) (C : Cx X G T cc own ret nl fr lo) (hdg : decode cc pc = .ok (.astore i2, 2)) (hn : i2 < nl) (hk : lv_pick ((i2, Value.ref x) :: lv.filter (fun q => !(q.1 == i2) && !(q.1 + 1 == i2 && q.2.category == 2))) ks = lv') (kk : V X k n ws lv' (pc + 2) rest) : V X k n ws lv pc (.ref x :: rest) := by
  obtain ⟨p, l, e, R, s, m, args, below, meth, c, D, A, H0, nL, Q⟩ := X
  obtain ⟨hx, hb, hml, hown, hts, hK, hlocks, hr, hA, hnl, hfr, hlo, htr, hG, hGs, hH0⟩ := C
  intro H locs ls hP hD hS hl
  subst hnl
  exact lv_astore hx hb hdg hl hn rfl (fun ls2 hl2 => kk H locs ls2 hP hD hS (lv_sub hl2 ks hk))
theorem v_iinc {i2 j : Nat} {d : Int} {x dv : Int32} {β : Type} {K : Int32 → β} {o : β} (lv' : Int32 → List (Nat × Value)) (ks : List Nat) (C : Cx X G T cc own ret nl fr lo) (hdg : decode cc pc = .ok (.iinc i2 d, 3)) (hj : lv[j]? = some (i2, .int x)) (hdv : Int32.ofInt d = dv) (hn : i2 < nl) (hk : ∀ v, lv_pick ((i2, Value.int v) :: lv.filter (fun q => !(q.1 == i2) && !(q.1 + 1 == i2 && q.2.category == 2))) ks = lv' v) (hf : nm (x + dv) K = o) (kk : ∀ v, K v = o → V X k n ws (lv' v) (pc + 3) rest) : V X k n ws lv pc rest := by
  have kk := kk _ hf
  obtain ⟨p, l, e, R, s, m, args, below, meth, c, D, A, H0, nL, Q⟩ := X
  obtain ⟨hx, hb, hml, hown, hts, hK, hlocks, hr, hA, hnl, hfr, hlo, htr, hG, hGs, hH0⟩ := C
  intro H locs ls hP hD hS hl
  subst hnl
  subst hdv
  exact lv_iinc hx hb hdg hl hj rfl hn rfl (fun ls2 hl2 => kk H locs ls2 hP hD hS (lv_sub hl2 ks (hk _)))
/-- fewer listed locals -/
theorem v_lv (lv' : List (Nat × Value)) (ks : List Nat) (hk : lv_pick lv ks = lv') (kk : V X k n ws lv' pc rest) : V X k n ws lv pc rest := by
  obtain ⟨p, l, e, R, s, m, args, below, meth, c, D, A, H0, nL, Q⟩ := X
  intro H locs ls hP hD hS hl
  exact kk H locs ls hP hD hS (lv_sub hl ks hk)
theorem v_tableIn {dflt low hi : Int} {offs : Array Int} {len : Nat} {x : Int32} {off : Int} (tgt : Nat) (C : Cx X G T cc own ret nl fr lo) (hdg : decode cc pc = .ok (.tableswitch dflt low hi offs, len)) (h1 : ¬ x.toInt < low) (h2 : ¬ hi < x.toInt) (ho : offs[(x.toInt - low).toNat]? = some off) (ht : (pc : Int) + off = (tgt : Int)) (kk : V X k n ws lv tgt rest) : V X k n ws lv pc (.int x :: rest) := by
  obtain ⟨p, l, e, R, s, m, args, below, meth, c, D, A, H0, nL, Q⟩ := X
  obtain ⟨hx, hb, hml, hown, hts, hK, hlocks, hr, hA, hnl, hfr, hlo, htr, hG, hGs, hH0⟩ := C
  intro H locs ls hP hD hS hl
  exact lv_tableIn hx hb hdg h1 h2 ho ht (kk H locs ls hP hD hS hl)
theorem v_tableOut {dflt low hi : Int} {offs : Array Int} {len : Nat} {x : Int32} (tgt : Nat) (C : Cx X G T cc own ret nl fr lo) (hdg : decode cc pc = .ok (.tableswitch dflt low hi offs, len)) (h : x.toInt < low ∨ hi < x.toInt) (ht : (pc : Int) + dflt = (tgt : Int)) (kk : V X k n ws lv tgt rest) : V X k n ws lv pc (.int x :: rest) := by
  obtain ⟨p, l, e, R, s, m, args, below, meth, c, D, A, H0, nL, Q⟩ := X
  obtain ⟨hx, hb, hml, hown, hts, hK, hlocks, hr, hA, hnl, hfr, hlo, htr, hG, hGs, hH0⟩ := C
  intro H locs ls hP hD hS hl
  exact lv_tableOut hx hb hdg h ht (kk H locs ls hP hD hS hl)
theorem v_tableD {dflt low hi : Int} {offs : Array Int} {len : Nat} {x : Int32} (tgt : Nat) (C : Cx X G T cc own ret nl fr lo) (hdg : decode cc pc = .ok (.tableswitch dflt low hi offs, len)) (ht : (pc : Int) + dflt = (tgt : Int)) (h : low ≤ x.toInt → x.toInt ≤ hi → offs[(x.toInt - low).toNat]? = some dflt) (kk : V X k n ws lv tgt rest) : V X k n ws lv pc (.int x :: rest) := by
  by_cases h1 : x.toInt < low
  · exact v_tableOut tgt C hdg (Or.inl h1) ht kk
  · by_cases h2 : hi < x.toInt
    · exact v_tableOut tgt C hdg (Or.inr h2) ht kk
    · exact v_tableIn tgt C hdg h1 h2 (h (Int.not_lt.mp h1) (Int.not_lt.mp h2)) ht kk
theorem v_lookup {dflt : Int} {ps : Array (Int × Int)} {len : Nat} {x : Int32} {off : Int} (tgt : Nat) (C : Cx X G T cc own ret nl fr lo) (hdg : decode cc pc = .ok (.lookupswitch dflt ps, len)) (hp : (ps.toList.zip (ps.toList.drop 1)).all (fun (a, next) => a.1 < next.1) = true) (ho : Op.lookupswitch.offset ps.toList dflt x.toInt = off) (ht : (pc : Int) + off = (tgt : Int)) (kk : V X k n ws lv tgt rest) : V X k n ws lv pc (.int x :: rest) := by
  obtain ⟨p, l, e, R, s, m, args, below, meth, c, D, A, H0, nL, Q⟩ := X
  obtain ⟨hx, hb, hml, hown, hts, hK, hlocks, hr, hA, hnl, hfr, hlo, htr, hG, hGs, hH0⟩ := C
  intro H locs ls hP hD hS hl
  exact lv_lookup hx hb hdg hp ho ht (kk H locs ls hP hD hS hl)
theorem v_iret {v : Int32} (C : Cx X G T cc own (some .int) nl fr lo) (hret : RetOK X k n (some (.int v)) ws) (hdg : decode cc pc = .ok (.ireturn, 1)) : V X k n ws lv pc [.int v] := by
  obtain ⟨p, l, e, R, s, m, args, below, meth, c, D, A, H0, nL, Q⟩ := X
  obtain ⟨hx, hb, hml, hown, hts, hK, hlocks, hr, hA, hnl, hfr, hlo, htr, hG, hGs, hH0⟩ := C
  intro H locs ls hP hD hS hl
  obtain ⟨Qc, free, hQ, hq, hf⟩ := hret H locs hP hD hS
  subst hQ
  exact W.iret hx hb hr hq hf hdg hlocks
theorem v_lret {v : Int64} (C : Cx X G T cc own (some .long) nl fr lo) (hret : RetOK X k n (some (.long v)) ws) (hdg : decode cc pc = .ok (.lreturn, 1)) : V X k n ws lv pc [.long v] := by
  obtain ⟨p, l, e, R, s, m, args, below, meth, c, D, A, H0, nL, Q⟩ := X
  obtain ⟨hx, hb, hml, hown, hts, hK, hlocks, hr, hA, hnl, hfr, hlo, htr, hG, hGs, hH0⟩ := C
  intro H locs ls hP hD hS hl
  obtain ⟨Qc, free, hQ, hq, hf⟩ := hret H locs hP hD hS
  subst hQ
  exact W.lret hx hb hr hq hf hdg hlocks
theorem nar_z {v : Int32} (h : v = 0 ∨ v = 1) : narrow .boolean (.int v) = .int v := by
  rcases h with rfl | rfl <;> rfl
theorem v_zret {v : Int32} (hv : v = 0 ∨ v = 1) (C : Cx X G T cc own (some .boolean) nl fr lo) (hret : RetOK X k n (some (.int v)) ws) (hdg : decode cc pc = .ok (.ireturn, 1)) : V X k n ws lv pc [.int v] := by
  obtain ⟨p, l, e, R, s, m, args, below, meth, c, D, A, H0, nL, Q⟩ := X
  obtain ⟨hx, hb, hml, hown, hts, hK, hlocks, hr, hA, hnl, hfr, hlo, htr, hG, hGs, hH0⟩ := C
  intro H locs ls hP hD hS hl
  obtain ⟨Qc, free, hQ, hq, hf⟩ := hret H locs hP hD hS
  subst hQ
  exact W.zret hx hb hr (nar_z hv) hq hf hdg hlocks
theorem v_vret (C : Cx X G T cc own none nl fr lo) (hret : RetOK X k n none ws) (hdg : decode cc pc = .ok (.return_, 1)) : V X k n ws lv pc [] := by
  obtain ⟨p, l, e, R, s, m, args, below, meth, c, D, A, H0, nL, Q⟩ := X
  obtain ⟨hx, hb, hml, hown, hts, hK, hlocks, hr, hA, hnl, hfr, hlo, htr, hG, hGs, hH0⟩ := C
  intro H locs ls hP hD hS hl
  obtain ⟨Qc, free, hQ, hq, hf⟩ := hret H locs hP hD hS
  subst hQ
  exact W.vret hx hb hr hq hf hdg hlocks
end VROWS
/-- THE CONTRACT of a method that makes nothing: with the arguments as and the world w it answers r, the world is w' -/
def MetM (G : SG) (y : MethodName) (cc : ByteArray) (nL : Nat) (ret : Option FieldType) (rm : Room) (D : va_G) (T : Nat → ClassId) (as : List Value) (w : va_W) (r : Option Value) (w' : va_W) : Prop :=
  Stat G → ∀ (l : Launch), l.stackTraces = false → ∀ sz : Nat, Met l y (Cond.code y cc nL ret :: wsG) rm (va_Pc as (fun U => U.heap.size = sz ∧ va_P D vwCl w U.heap ∧ va_K D vwCl (tysT T) U ∧ va_D (fun _ => True) w ∧ G (va_A w sz) U U.heap)) (fun _ st oc t => oc = .returned r ∧ va_P D vwCl w' t.heap ∧ va_D (va_A w sz) w' ∧ va_F (va_A w sz) st t) 0 0 (va_A w sz)
theorem MetM.of {G : SG} {y : MethodName} {cc : ByteArray} {nL : Nat} {ret : Option FieldType} {rm : Room} {D : va_G} {T : Nat → ClassId} {as : List Value} {w w' : va_W} {r : Option Value} (lv0 : List (Nat × Value)) (hy : plainName y.cls = true) (hlen : (lg_sl as).length ≤ nL) (hlv : lv_args 0 as = lv0)
    (body : ∀ X : CxT, Cx X G T cc y.cls ret nL rm.frames rm.locals → RetOK X 0 0 r w' → V X 0 0 w lv0 0 []) : MetM G y cc nL ret rm D T as w r w' := by
  intro hG l htr sz
  refine Met.ofW (cc := cc) (maxL := nL) (ret := ret) hy rfl ?_
  intro p e s m args below meth c s₁ B hml hv
  obtain ⟨rfl, hsz, hP, hK, hD0, hGs⟩ := hv
  subst hsz
  have hts := atoms_spec (ws := Cond.code y cc nL ret :: wsG) B.pre
  have hl := lv_entry as (n := nL) hlen
  rw [hlv] at hl
  rw [lg_entry_eq]
  exact body (p, l, e, rm, s, m, as.toArray, below, meth, c, D, va_A w s.heap.size, s.heap, nL, MQ below (fun _ st oc t => oc = .returned r ∧ va_P D vwCl w' t.heap ∧ va_D (va_A w s.heap.size) w' ∧ va_F (va_A w s.heap.size) st t) as.toArray s 0 0 (va_A w s.heap.size))
    ⟨B.exec, B.bytes, hml, findClass_of_methodNamed B.named, fun v h => hts v (List.mem_cons_of_mem _ h), hK, B.notSynchronized, B.returns, fun q h => Or.inr h, rfl, Nat.le_refl _, Nat.le_refl _, htr, hG, hGs, rfl⟩
    (fun H locs hP hD hS => ⟨_, _, rfl, fun t ht hW => ⟨rfl, by rw [ht]; exact hP, hD, hS.F ht⟩, hS.2.2⟩)
    s.heap [] _ hP hD0.self va_S.rf hl
theorem MetM.blind {G : SG} (hG : Stat G) {as : List Value} {sz : Nat} {D : va_G} {T : Nat → ClassId} {w : va_W} : FrameBlind (va_Pc as (fun U => U.heap.size = sz ∧ va_P D vwCl w U.heap ∧ va_K D vwCl (tysT T) U ∧ va_D (fun _ => True) w ∧ G (va_A w sz) U U.heap)) := fun a U g mk q => by
  obtain ⟨q0, q1, qP, qK, qD, qG⟩ := q
  exact ⟨q0, q1, qP, va_K.moved (u := U) (U := U.calling g mk a) (Vm.Alike.refl U.vm) qK, qD, hG.1 _ U (U.calling g mk a) _ (State.WarmedH.refl U) qG⟩
section VCALLS
variable {X : CxT} {G : SG} {T : Nat → ClassId} {cc : ByteArray} {own : String} {ret : Option FieldType} {nl fr lo k n : Nat} {w w' : va_W} {lv : List (Nat × Value)} {pc : Nat} {rest As : List Value} {y : MethodName} {cc' : ByteArray} {nL' idx : Nat} {ret' : Option FieldType} {rm : Room} {r : Option Value}
/-- behind a call whose world is the caller's -/
theorem v_after {p : Program} {l : Launch} {e : Env} {R : Room} {s : State} {m : MethodId} {args : Array Value} {below : List Frame} {meth : Method} {c : Code} {D : va_G} {A : Nat → Prop} {H0 : Heap} {nL : Nat} {Q : State → Prop} {H : Heap} {locs : List Loc} {ls : Array Slot} {st0 : List Value}
    (hr : va_Run p l e R s m args below meth c H locs k n 0 0 (F0 m pc ls st0) rest (fun st oc t => oc = .returned r ∧ va_P D vwCl w' t.heap ∧ va_D (va_A w H.size) w' ∧ va_F (va_A w H.size) st t) (va_A w H.size))
    (hD : va_D A w) (hS : va_S A H0 H locs) (hA : ∀ q, H0.size ≤ q → A q) (hl : lv_has ls nL lv)
    (kk : V (p, l, e, R, s, m, args, below, meth, c, D, A, H0, nL, Q) k n w' lv (pc + 3) (r.toList ++ rest)) : W p l e R s m args below meth c H locs k n Q (F0 m pc ls st0) := by
  intro T hT Xs
  obtain ⟨v, st₀, t, T', L, h0, X', hL, e1, e2, ⟨hv, hP1, hD1, hz, hk⟩, st⟩ := hr T hT Xs
  cases hv
  rw [h0] at hz hk
  have hF : ∀ q, va_A w H.size q → A q := fun q h => by
    rcases h with ⟨j, x, h⟩ | h
    · exact hD.2 j _ h
    · exact hA q (Nat.le_trans hS.1 h)
  obtain ⟨t2, a1, b1⟩ := kk T'.heap (locs ++ L) ls (by rw [e1]; exact hP1) (hD1.weaken (fun _ _ _ h => hF _ h))
    ⟨Nat.le_trans hS.1 (by rw [e1]; exact hz), fun q h1 h2 => by rw [e1, hk q (Nat.lt_of_lt_of_le h1 hS.1) (fun z => h2 (hF q z))]; exact hS.2.1 q h1 h2, fun q hq => by
      rcases List.mem_append.mp hq with h | h
      · exact hS.2.2 q h
      · exact hF _ (hL q h)⟩ hl T' rfl X'
  exact ⟨t2, st t2 a1, b1⟩
theorem v_callV {b q0 ci : Nat} {fs : List Value} {TT : u_T} {NN : Nat} {Cn : String} (np : Nat) (C : Cx X G T cc own ret nl fr lo) (hcap : CapOK X k n) (hM : ∀ D, MetM G y cc' nL' ret' rm D T (.ref b :: As) w r w') (gw : GoodIn wsG (wsV own idx Cn y (Cond.code y cc' nL' ret' :: wsG)))
    (hd : y.cls = Cn ∧ y.cls ≠ "java/lang/invoke/MethodHandle" ∧ y.cls ≠ "java/lang/invoke/VarHandle" ∧ (parseMethodDescriptor y.desc).map (fun d => d.parameters.length) = some np) (hR : rm.frames + 1 ≤ fr ∧ 8 + (nL' + 11) + rm.locals ≤ lo) (hrm : rm.cells = 0 ∧ rm.slots = 0)
    (hq : w[q0]? = some (b, .inr (ci, fs))) (hc : vwCl[ci]? = some (Cn, TT, NN)) (hnp : As.length = np) (hst : (rest.map fun v => v.category).sum ≤ 8) (hdg : decode cc pc = .ok (.invokevirtual idx, 3)) (kk : V X k n w' lv (pc + 3) (r.toList ++ rest)) : V X k n w lv pc (As.reverse ++ .ref b :: rest) := by
  obtain ⟨p, l, e, R, s, m, args, below, meth, c, D, A, H0, nL, Q⟩ := X
  obtain ⟨hx, hb, hml, hown, hts, hK, hlocks, hr, hA, hnl, hfr, hlo, htr, hG, hGs, hH0⟩ := C
  intro H locs ls hP hD hS hl
  have hFr : ∀ q, va_A w H.size q → A q := fun q h => by
    rcases h with ⟨j, x, h⟩ | h
    · exact hD.2 j _ h
    · exact hA q (Nat.le_trans hS.1 h)
  exact v_after (va_runV (As := As) (rest := rest) (nL := nL) ⟨hx, hb, hml, hown, hts⟩ (hM D hG l htr H.size) (cwV np hts gw rfl hrm.1 hrm.2 hd ⟨Nat.le_trans hR.1 hfr, Nat.le_trans hR.2 hlo⟩) ⟨MetM.blind hG, va_recv hK hP hc hq, fun U hU hW => ⟨rfl, by rw [hU], by rw [hU]; exact hP, va_K.moved hW.alike hK, hD.weaken (fun _ _ _ _ => trivial), by rw [hU]; exact hG.1 _ s U _ hW (hG.2.2 _ _ _ _ (hG.2.1 _ _ _ _ hGs hS.2.1) (fun q h => hFr q h))⟩⟩ rfl hnp hl.1 rfl (lv_room hst) hdg hcap) hD hS hA hl kk
theorem v_callS (np : Nat) (C : Cx X G T cc own ret nl fr lo) (hcap : CapOK X k n) (hM : ∀ D, MetM G y cc' nL' ret' rm D T As w r w') (gw : GoodIn wsG (wsS own idx y (Cond.code y cc' nL' ret' :: wsG)))
    (hd : y.cls = own ∧ y.cls ≠ "java/lang/invoke/MethodHandle" ∧ y.cls ≠ "java/lang/invoke/VarHandle" ∧ (parseMethodDescriptor y.desc).map (fun d => d.parameters.length) = some np) (hR : rm.frames + 1 ≤ fr ∧ 8 + (nL' + 11) + rm.locals ≤ lo) (hrm : rm.cells = 0 ∧ rm.slots = 0)
    (hnp : As.length = np) (hst : (rest.map fun v => v.category).sum ≤ 8) (hdg : decode cc pc = .ok (.invokestatic idx, 3)) (kk : V X k n w' lv (pc + 3) (r.toList ++ rest)) : V X k n w lv pc (As.reverse ++ rest) := by
  obtain ⟨p, l, e, R, s, m, args, below, meth, c, D, A, H0, nL, Q⟩ := X
  obtain ⟨hx, hb, hml, hown, hts, hK, hlocks, hr, hA, hnl, hfr, hlo, htr, hG, hGs, hH0⟩ := C
  intro H locs ls hP hD hS hl
  have hFr : ∀ q, va_A w H.size q → A q := fun q h => by
    rcases h with ⟨j, x, h⟩ | h
    · exact hD.2 j _ h
    · exact hA q (Nat.le_trans hS.1 h)
  exact v_after (va_runS (As := As) (rest := rest) (nL := nL) ⟨hx, hb, hml, hown, hts⟩ (hM D hG l htr H.size) (cwS np hts gw rfl hrm.1 hrm.2 hd ⟨Nat.le_trans hR.1 hfr, Nat.le_trans hR.2 hlo⟩) ⟨MetM.blind hG, fun U hU hW => ⟨rfl, by rw [hU], by rw [hU]; exact hP, va_K.moved hW.alike hK, hD.weaken (fun _ _ _ _ => trivial), by rw [hU]; exact hG.1 _ s U _ hW (hG.2.2 _ _ _ _ (hG.2.1 _ _ _ _ hGs hS.2.1) (fun q h => hFr q h))⟩⟩ rfl hnp hl.1 rfl (lv_room hst) hdg hcap) hD hS hA hl kk
theorem v_callSN {host : String} (np : Nat) (C : Cx X G T cc own ret nl fr lo) (hcap : CapOK X k n) (hM : ∀ D, MetM G y cc' nL' ret' rm D T As w r w') (hnest : ∀ (A : Nat → Prop) (U : State) (H : Heap), G A U H → va_Nw (.methodLinkNest own idx y host) U) (hcode : Cond.code y cc' nL' ret' ∈ wsG) (hstat : Cond.static y ∈ wsG) (hini : Cond.initialized y.cls ∈ wsG)
    (hd : y.cls ≠ "java/lang/invoke/MethodHandle" ∧ y.cls ≠ "java/lang/invoke/VarHandle" ∧ (parseMethodDescriptor y.desc).map (fun d => d.parameters.length) = some np) (hR : rm.frames + 1 ≤ fr ∧ 8 + (nL' + 11) + rm.locals ≤ lo) (hrm : rm.cells = 0 ∧ rm.slots = 0)
    (hnp : As.length = np) (hst : (rest.map fun v => v.category).sum ≤ 8) (hdg : decode cc pc = .ok (.invokestatic idx, 3)) (kk : V X k n w' lv (pc + 3) (r.toList ++ rest)) : V X k n w lv pc (As.reverse ++ rest) := by
  obtain ⟨p, l, e, R, s, m, args, below, meth, c, D, A, H0, nL, Q⟩ := X
  obtain ⟨hx, hb, hml, hown, hts, hK, hlocks, hr, hA, hnl, hfr, hlo, htr, hG, hGs, hH0⟩ := C
  intro H locs ls hP hD hS hl
  have hFr : ∀ q, va_A w H.size q → A q := fun q h => by
    rcases h with ⟨j, x, h⟩ | h
    · exact hD.2 j _ h
    · exact hA q (Nat.le_trans hS.1 h)
  have hgw : GoodIn wsG (Cond.code y cc' nL' ret' :: wsG) := fun v hv => by
    rcases List.mem_cons.mp hv with rfl | h
    · exact goodG _ hcode
    · exact goodG _ h
  exact v_after (va_runSN (As := As) (rest := rest) (nL := nL) ⟨hx, hb, hml, hown, hts⟩ (hM D hG l htr H.size) ⟨va_cnB np hts hgw rfl hrm.1 hrm.2 (hnest _ _ _ hGs) (hts _ hini) hd ⟨Nat.le_trans hR.1 hfr, Nat.le_trans hR.2 hlo⟩, hts _ hstat, trivial⟩ ⟨MetM.blind hG, fun U hU hW => ⟨rfl, by rw [hU], by rw [hU]; exact hP, va_K.moved hW.alike hK, hD.weaken (fun _ _ _ _ => trivial), by rw [hU]; exact hG.1 _ s U _ hW (hG.2.2 _ _ _ _ (hG.2.1 _ _ _ _ hGs hS.2.1) (fun q h => hFr q h))⟩⟩ rfl hnp hl.1 rfl (lv_room hst) hdg hcap) hD hS hA hl kk
/-- throwing an exception of the class E with the world w' is what X's end asks for (one cell of six slots comes) -/
def ThrOK (X : CxT) (E : String) (w' : va_W) : Prop := match X with
  | (p, l, e, R, s, m, args, below, meth, c, D, A, H0, nL, Q) => ∃ (Qc : Array Value → State → Outcome → State → Prop) (XC : String → State → State → Prop) (free : Addr → Prop), Q = vx_MQ below Qc XC args s 1 6 free ∧ (∀ x ∈ c.exceptionTable.toList, False) ∧ ∀ (H : Heap) (locs : List Loc), va_P D vwCl w' H → va_D A w' → va_S A H0 H locs → (∀ t : State, t.heap = H → s.vm.Alike t.vm → XC E s t) ∧ ∀ z ∈ locs, free z.base
/-- THE CONTRACT of a method that throws: the class E, the world w' -/
def MetX (G : SG) (y : MethodName) (cc : ByteArray) (nL : Nat) (ret : Option FieldType) (rm : Room) (D : va_G) (T : Nat → ClassId) (as : List Value) (w : va_W) (E : String) (w' : va_W) : Prop :=
  Stat G → ∀ (l : Launch), l.stackTraces = false → ∀ sz : Nat, vx_Met l y (Cond.code y cc nL ret :: wsG) rm (va_Pc as (fun U => U.heap.size = sz ∧ va_P D vwCl w U.heap ∧ va_K D vwCl (tysT T) U ∧ va_D (fun _ => True) w ∧ G (va_A w sz) U U.heap)) (fun _ _ _ _ => False) (fun E' st t => E' = E ∧ va_P D vwCl w' t.heap ∧ va_D (va_A w sz) w' ∧ va_F (va_A w sz) st t) 1 6 (va_A w sz)
theorem MetX.of {G : SG} {y : MethodName} {cc : ByteArray} {nL : Nat} {ret : Option FieldType} {rm : Room} {D : va_G} {T : Nat → ClassId} {as : List Value} {w w' : va_W} {E : String} (lv0 : List (Nat × Value)) (hy : plainName y.cls = true) (hlen : (lg_sl as).length ≤ nL) (hlv : lv_args 0 as = lv0) (hrm : rm.cells = 1 ∧ rm.slots = 6)
    (body : ∀ X : CxT, Cx X G T cc y.cls ret nL rm.frames rm.locals → CapOK X 1 6 → ThrOK X E w' → V X 0 0 w lv0 0 []) : MetX G y cc nL ret rm D T as w E w' := by
  intro hG l htr sz
  refine vx_ofW (cc := cc) (maxL := nL) (ret := ret) hy rfl ?_
  intro p e s m args below meth c s₁ B hml htab hv
  obtain ⟨rfl, hsz, hP, hK, hD0, hGs⟩ := hv
  subst hsz
  have hts := atoms_spec (ws := Cond.code y cc nL ret :: wsG) B.pre
  have hl := lv_entry as (n := nL) hlen
  rw [hlv] at hl
  rw [lg_entry_eq]
  exact body (p, l, e, rm, s, m, as.toArray, below, meth, c, D, va_A w s.heap.size, s.heap, nL, vx_MQ below (fun _ _ _ _ => False) (fun E' st t => E' = E ∧ va_P D vwCl w' t.heap ∧ va_D (va_A w s.heap.size) w' ∧ va_F (va_A w s.heap.size) st t) as.toArray s 1 6 (va_A w s.heap.size))
    ⟨B.exec, B.bytes, hml, findClass_of_methodNamed B.named, fun v h => hts v (List.mem_cons_of_mem _ h), hK, B.notSynchronized, B.returns, fun q h => Or.inr h, rfl, Nat.le_refl _, Nat.le_refl _, htr, hG, hGs, rfl⟩
    ⟨Nat.le_of_eq hrm.1.symm, Nat.le_of_eq hrm.2.symm⟩
    ⟨_, _, _, rfl, htab, fun H locs hP hD hS => ⟨fun t ht hW => ⟨rfl, by rw [ht]; exact hP, hD, hS.F ht⟩, hS.2.2⟩⟩
    s.heap [] _ hP hD0.self va_S.rf hl
/-- behind a call that throws, in a caller that catches nothing -/
theorem v_afterX {E : String} {p : Program} {l : Launch} {e : Env} {R : Room} {s : State} {m : MethodId} {args : Array Value} {below : List Frame} {meth : Method} {c : Code} {D : va_G} {A : Nat → Prop} {H0 : Heap} {nL : Nat} {Q : State → Prop} {H : Heap} {locs : List Loc} {ls : Array Slot} {st0 : List Value}
    (hr : vx_Run p l e R s m args below meth c H locs 0 0 1 6 (F0 m pc ls st0) rest (fun _ _ _ => False) (fun E' st t => E' = E ∧ va_P D vwCl w' t.heap ∧ va_D (va_A w H.size) w' ∧ va_F (va_A w H.size) st t) (va_A w H.size))
    (hD : va_D A w) (hS : va_S A H0 H locs) (hA : ∀ q, H0.size ≤ q → A q) (hlocks : meth.locks = false) (hthr : ThrOK (p, l, e, R, s, m, args, below, meth, c, D, A, H0, nL, Q) E w') : W p l e R s m args below meth c H locs 0 0 Q (F0 m pc ls st0) := by
  obtain ⟨Qc, XC, free, hQ, htab, hx⟩ := hthr
  subst hQ
  have hF : ∀ q, va_A w H.size q → A q := fun q h => by
    rcases h with ⟨j, x, h⟩ | h
    · exact hD.2 j _ h
    · exact hA q (Nat.le_trans hS.1 h)
  intro T hT Xs
  rcases hr T hT Xs with ⟨v, st₀, t, T', L, h0, X', hL, e1, e2, hq, st⟩ | ⟨q, st₀, t, T', L, E9, ce, h0, X', hL, e1, e2, ⟨rfl, hP1, hD1, hF1⟩, hce, hcv, hcl, st⟩
  · exact hq.elim
  · obtain ⟨k1, k2, k3⟩ := vx_keep h0 e1 hS (fun q _ z => hF q z) hF hL hF1
    obtain ⟨hy1, hy2⟩ := hx T'.heap (locs ++ L) (by rw [e1]; exact hP1) (hD1.weaken (fun _ _ _ h => hF _ h)) k3
    obtain ⟨t2, a1, b1⟩ := vx_out (p := p) (l := l) (e := e) (R := R) (s := s) (m := m) (args := args) (below := below) (meth := meth) (c := c) (H := T'.heap) (locs := locs ++ L) (cells := 0 + 1) (slots := 0 + 6) (rest := rest) (ls := ls) (pc := pc) (Qc := Qc) (XC := XC) (free := free) (mc := 1) (ms := 6) (q := q) (fun x hx9 => (htab x hx9).elim) hlocks (by rw [e1]; exact hce) hcv hcl (fun t ht hW => hy1 t ht hW) hy2 (Nat.le_refl _) (Nat.le_refl _) T' rfl X'
    exact ⟨t2, st.trans a1, b1⟩
theorem v_throwsV {E : String} {b q0 ci : Nat} {fs : List Value} {TT : u_T} {NN : Nat} {Cn : String} (np : Nat) (C : Cx X G T cc own ret nl fr lo) (hcap : CapOK X 1 6) (hM : ∀ D, MetX G y cc' nL' ret' rm D T (.ref b :: As) w E w') (gw : GoodIn wsG (wsV own idx Cn y (Cond.code y cc' nL' ret' :: wsG)))
    (hd : y.cls = Cn ∧ y.cls ≠ "java/lang/invoke/MethodHandle" ∧ y.cls ≠ "java/lang/invoke/VarHandle" ∧ (parseMethodDescriptor y.desc).map (fun d => d.parameters.length) = some np) (hR : rm.frames + 1 ≤ fr ∧ 8 + (nL' + 11) + rm.locals ≤ lo) (hrm : rm.cells = 1 ∧ rm.slots = 6)
    (hq : w[q0]? = some (b, .inr (ci, fs))) (hc : vwCl[ci]? = some (Cn, TT, NN)) (hnp : As.length = np) (hst : (rest.map fun v => v.category).sum ≤ 8) (hdg : decode cc pc = .ok (.invokevirtual idx, 3)) (hthr : ThrOK X E w') : V X 0 0 w lv pc (As.reverse ++ .ref b :: rest) := by
  obtain ⟨p, l, e, R, s, m, args, below, meth, c, D, A, H0, nL, Q⟩ := X
  obtain ⟨hx, hb, hml, hown, hts, hK, hlocks, hr, hA, hnl, hfr, hlo, htr, hG, hGs, hH0⟩ := C
  intro H locs ls hP hD hS hl
  have hFr : ∀ q, va_A w H.size q → A q := fun q h => by
    rcases h with ⟨j, x, h⟩ | h
    · exact hD.2 j _ h
    · exact hA q (Nat.le_trans hS.1 h)
  exact v_afterX (rest := rest) (vx_runV (As := As) (rest := rest) (nL := nL) ⟨hx, hb, hml, hown, hts⟩ (hM D hG l htr H.size) (cwV np hts gw rfl hrm.1 hrm.2 hd ⟨Nat.le_trans hR.1 hfr, Nat.le_trans hR.2 hlo⟩) ⟨MetM.blind hG, va_recv hK hP hc hq, fun U hU hW => ⟨rfl, by rw [hU], by rw [hU]; exact hP, va_K.moved hW.alike hK, hD.weaken (fun _ _ _ _ => trivial), by rw [hU]; exact hG.1 _ s U _ hW (hG.2.2 _ _ _ _ (hG.2.1 _ _ _ _ hGs hS.2.1) (fun q h => hFr q h))⟩⟩ rfl hnp hl.1 rfl (lv_room hst) hdg ⟨by rw [Nat.zero_add]; exact hcap.1, by rw [Nat.zero_add]; exact hcap.2⟩) hD hS hA hlocks hthr
theorem v_throwsS {E : String} (np : Nat) (C : Cx X G T cc own ret nl fr lo) (hcap : CapOK X 1 6) (hM : ∀ D, MetX G y cc' nL' ret' rm D T As w E w') (gw : GoodIn wsG (wsS own idx y (Cond.code y cc' nL' ret' :: wsG)))
    (hd : y.cls = own ∧ y.cls ≠ "java/lang/invoke/MethodHandle" ∧ y.cls ≠ "java/lang/invoke/VarHandle" ∧ (parseMethodDescriptor y.desc).map (fun d => d.parameters.length) = some np) (hR : rm.frames + 1 ≤ fr ∧ 8 + (nL' + 11) + rm.locals ≤ lo) (hrm : rm.cells = 1 ∧ rm.slots = 6)
    (hnp : As.length = np) (hst : (rest.map fun v => v.category).sum ≤ 8) (hdg : decode cc pc = .ok (.invokestatic idx, 3)) (hthr : ThrOK X E w') : V X 0 0 w lv pc (As.reverse ++ rest) := by
  obtain ⟨p, l, e, R, s, m, args, below, meth, c, D, A, H0, nL, Q⟩ := X
  obtain ⟨hx, hb, hml, hown, hts, hK, hlocks, hr, hA, hnl, hfr, hlo, htr, hG, hGs, hH0⟩ := C
  intro H locs ls hP hD hS hl
  have hFr : ∀ q, va_A w H.size q → A q := fun q h => by
    rcases h with ⟨j, x, h⟩ | h
    · exact hD.2 j _ h
    · exact hA q (Nat.le_trans hS.1 h)
  exact v_afterX (rest := rest) (vx_runS (As := As) (rest := rest) (nL := nL) ⟨hx, hb, hml, hown, hts⟩ (hM D hG l htr H.size) (cwS np hts gw rfl hrm.1 hrm.2 hd ⟨Nat.le_trans hR.1 hfr, Nat.le_trans hR.2 hlo⟩) ⟨MetM.blind hG, fun U hU hW => ⟨rfl, by rw [hU], by rw [hU]; exact hP, va_K.moved hW.alike hK, hD.weaken (fun _ _ _ _ => trivial), by rw [hU]; exact hG.1 _ s U _ hW (hG.2.2 _ _ _ _ (hG.2.1 _ _ _ _ hGs hS.2.1) (fun q h => hFr q h))⟩⟩ rfl hnp hl.1 rfl (lv_room hst) hdg ⟨by rw [Nat.zero_add]; exact hcap.1, by rw [Nat.zero_add]; exact hcap.2⟩) hD hS hA hlocks hthr
end VCALLS
def FUEL : Nat := 4096
theorem goodV {own C : String} {i : Nat} {y : MethodName} {c0 : Cond} (h1 : Cond.methodLink own i y ∈ wsG) (h2 : Cond.instanceMethod y ∈ wsG) (h3 : Cond.selects C y y ∈ wsG) (h4 : Cond.initialized C ∈ wsG) (h5 : c0 ∈ wsG) : GoodIn wsG (wsV own i C y (c0 :: wsG)) := by
  intro w hw
  refine goodG w ?_
  simp only [wsV, List.mem_append, List.mem_cons, List.not_mem_nil, or_false] at hw
  rcases hw with (rfl | rfl | rfl | rfl) | rfl | h <;> assumption
theorem goodS {own : String} {i : Nat} {y : MethodName} {c0 : Cond} (h1 : Cond.methodLink own i y ∈ wsG) (h2 : Cond.static y ∈ wsG) (h4 : Cond.initialized own ∈ wsG) (h5 : c0 ∈ wsG) : GoodIn wsG (wsS own i y (c0 :: wsG)) := by
  intro w hw
  refine goodG w ?_
  simp only [wsS, List.mem_append, List.mem_cons, List.not_mem_nil, or_false] at hw
  rcases hw with (rfl | rfl | rfl) | rfl | h <;> assumption

