theorem q32 (n : Nat) : (OfNat.ofNat n : Int32) = kI (OfNat.ofNat n) := Eq.symm (Eq.symm rfl)
theorem q64 (n : Nat) : (OfNat.ofNat n : Int64) = kL (OfNat.ofNat n) := Eq.symm (Eq.symm rfl)
theorem kI_lt_t {a b : Nat} (ha : a < 2147483648) (hb : b < 2147483648) (h : a < b) : (kI a < kI b) = True := eq_true ((kI_lt ha hb).mpr h)
theorem kI_lt_f {a b : Nat} (ha : a < 2147483648) (hb : b < 2147483648) (h : ¬ a < b) : (kI a < kI b) = False := eq_false fun q => h ((kI_lt ha hb).mp q)
theorem kI_le_t {a b : Nat} (ha : a < 2147483648) (hb : b < 2147483648) (h : a ≤ b) : (kI a ≤ kI b) = True := eq_true ((kI_le ha hb).mpr h)
theorem kI_le_f {a b : Nat} (ha : a < 2147483648) (hb : b < 2147483648) (h : ¬ a ≤ b) : (kI a ≤ kI b) = False := eq_false fun q => h ((kI_le ha hb).mp q)
theorem kI_eq_t {a b : Nat} (h : a = b) : (kI a = kI b) = True := eq_true (by rw [h])
theorem kI_eq_f {a b : Nat} (ha : a < 2147483648) (hb : b < 2147483648) (h : ¬ a = b) : (kI a = kI b) = False := eq_false fun q => h ((kI_eq ha hb).mp q)
theorem kL_lt_t {a b : Nat} (ha : a < 9223372036854775808) (hb : b < 9223372036854775808) (h : a < b) : (kL a < kL b) = True := eq_true ((kL_lt ha hb).mpr h)
theorem kL_lt_f {a b : Nat} (ha : a < 9223372036854775808) (hb : b < 9223372036854775808) (h : ¬ a < b) : (kL a < kL b) = False := eq_false fun q => h ((kL_lt ha hb).mp q)
theorem kL_le_t {a b : Nat} (ha : a < 9223372036854775808) (hb : b < 9223372036854775808) (h : a ≤ b) : (kL a ≤ kL b) = True := eq_true ((kL_le ha hb).mpr h)
theorem kL_le_f {a b : Nat} (ha : a < 9223372036854775808) (hb : b < 9223372036854775808) (h : ¬ a ≤ b) : (kL a ≤ kL b) = False := eq_false fun q => h ((kL_le ha hb).mp q)
theorem kL_eq_t {a b : Nat} (h : a = b) : (kL a = kL b) = True := eq_true (by rw [h])
theorem kL_eq_f {a b : Nat} (ha : a < 9223372036854775808) (hb : b < 9223372036854775808) (h : ¬ a = b) : (kL a = kL b) = False := eq_false fun q => h ((kL_eq ha hb).mp q)
theorem m1_toInt : (-1 : Int32).toInt = -1 := by decide
theorem kI_m1 {a : Nat} (h : a < 2147483648) : (kI a = -1) = False := eq_false fun q => by
  have := congrArg Int32.toInt q
  rw [kI_toInt h, m1_toInt] at this
  omega
theorem kI_m1' {a : Nat} (h : a < 2147483648) : ((-1 : Int32) = kI a) = False := eq_false fun q => of_eq_false (kI_m1 h) q.symm
theorem m1_m1 : ((-1 : Int32) = -1) = True := eq_true rfl
theorem inb_t {a n : Nat} (ha : a < 2147483648) (h : a < n) : inb (kI a) n = True := eq_true ((inb_kI ha).mpr h)
theorem chk_t {α : Type} {x : Option α} : chk True x = x := if_pos trivial
theorem n1_add {a : Nat} (h : 1 ≤ a) : kI a + (-1 : Int32) = kI (a - 1) := by
  show kI a + (-(1 : Int32)) = kI (a - 1)
  rw [← Int32.sub_eq_add_neg]
  exact kI_sub h
theorem n1_add' {a : Nat} (h : 1 ≤ a) : kI a + -kI 1 = kI (a - 1) := n1_add h
theorem kI_n1 {a : Nat} (h : a < 2147483648) : (kI a = -kI 1) = False := kI_m1 h
theorem kI_n1' {a : Nat} (h : a < 2147483648) : (-kI 1 = kI a) = False := kI_m1' h
theorem two_ne : ((2 : Int32) = 0) = False := eq_false (by decide)
theorem up32_at {f : Nat → Int32} {i : Nat} {v : Int32} : upd f i v i = v := by simp [upd]
theorem up32_ne {f : Nat → Int32} {i j : Nat} {v : Int32} (h : j ≠ i) : upd f i v j = f j := by simp [upd, h]
theorem ite_cg {α : Type} {c d : Prop} [Decidable c] [Decidable d] {x y : α} (h : c ↔ d) : (if c then x else y) = if d then x else y := by
  by_cases q : c
  · rw [if_pos q, if_pos (h.mp q)]
  · rw [if_neg q, if_neg (fun w => q (h.mpr w))]
def Uk {α β : Type} (_ : α → β) : Type := Unit
def uk {α β : Type} (k : α → β) : Uk k := ()
def bdx {α β : Type} (a : Option α) (k : α → Option β) (_ : Uk k) : Option β := bd a k
theorem bd_x {α β : Type} (a : Option α) (k : α → Option β) : bd a k = bdx a k (uk k) := Eq.symm (Eq.symm rfl)
theorem bdx_s {α β : Type} (a : α) (k : α → Option β) (u : Uk k) : bdx (some a) k u = k a := Eq.symm (Eq.symm rfl)
def bxx {α β : Type} (a : Option (Nat ⊕ α)) (k : α → Option (Nat ⊕ β)) (_ : Uk k) : Option (Nat ⊕ β) := bx a k
theorem bx_x {α β : Type} (a : Option (Nat ⊕ α)) (k : α → Option (Nat ⊕ β)) : bx a k = bxx a k (uk k) := Eq.symm (Eq.symm rfl)
theorem bxx_r {α β : Type} (a : α) (k : α → Option (Nat ⊕ β)) (u : Uk k) : bxx (some (.inr a)) k u = k a := Eq.symm (Eq.symm rfl)
theorem bxx_l {α β : Type} (e : Nat) (k : α → Option (Nat ⊕ β)) (u : Uk k) : bxx (some (.inl e)) k u = some (.inl e) := Eq.symm (Eq.symm rfl)
def bnx {α β : Type} (a : Option (Nat ⊕ α)) (k : α → Option β) (_ : Uk k) : Option β := bn a k
theorem bn_x {α β : Type} (a : Option (Nat ⊕ α)) (k : α → Option β) : bn a k = bnx a k (uk k) := Eq.symm (Eq.symm rfl)
theorem bnx_r {α β : Type} (a : α) (k : α → Option β) (u : Uk k) : bnx (some (.inr a)) k u = k a := Eq.symm (Eq.symm rfl)
