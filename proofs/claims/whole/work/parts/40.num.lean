def kI (n : Nat) : Int32 := Int32.ofNat n
def kL (n : Nat) : Int64 := Int64.ofNat n
theorem kI_toInt {n : Nat} (h : n < 2147483648) : (kI n).toInt = (n : Int) := Int32.toInt_ofNat_of_lt h
theorem kI_nat {n : Nat} (h : n < 2147483648) : (kI n).toNatClampNeg = n := by
  show (kI n).toInt.toNat = n
  rw [kI_toInt h]
  rfl
theorem kL_toInt {n : Nat} (h : n < 9223372036854775808) : (kL n).toInt = (n : Int) := Int64.toInt_ofNat_of_lt h
theorem kI_inj {x : Int32} {n : Nat} (h : n < 2147483648) (e : x.toInt = (n : Int)) : x = kI n := by
  rw [← Int32.toInt_inj, kI_toInt h]
  exact e
theorem kL_inj {x : Int64} {n : Nat} (h : n < 9223372036854775808) (e : x.toInt = (n : Int)) : x = kL n := by
  rw [← Int64.toInt_inj, kL_toInt h]
  exact e
theorem kI_add (a b : Nat) : kI a + kI b = kI (a + b) := (Int32.ofNat_add a b).symm
theorem kI_mul (a b : Nat) : kI a * kI b = kI (a * b) := (Int32.ofNat_mul a b).symm
theorem kI_sub {a b : Nat} (h : b ≤ a) : kI a - kI b = kI (a - b) := (Int32.ofNat_sub a b h).symm
theorem kL_add (a b : Nat) : kL a + kL b = kL (a + b) := (Int64.ofNat_add a b).symm
theorem kL_mul (a b : Nat) : kL a * kL b = kL (a * b) := (Int64.ofNat_mul a b).symm
theorem kL_sub {a b : Nat} (h : b ≤ a) : kL a - kL b = kL (a - b) := (Int64.ofNat_sub a b h).symm
theorem kI_le {a b : Nat} (ha : a < 2147483648) (hb : b < 2147483648) : (kI a ≤ kI b) ↔ a ≤ b := by
  rw [Int32.le_iff_toInt_le, kI_toInt ha, kI_toInt hb]
  omega
theorem kI_lt {a b : Nat} (ha : a < 2147483648) (hb : b < 2147483648) : (kI a < kI b) ↔ a < b := by
  rw [Int32.lt_iff_toInt_lt, kI_toInt ha, kI_toInt hb]
  omega
theorem kI_eq {a b : Nat} (ha : a < 2147483648) (hb : b < 2147483648) : (kI a = kI b) ↔ a = b := by
  rw [← Int32.toInt_inj, kI_toInt ha, kI_toInt hb]
  omega
theorem kL_le {a b : Nat} (ha : a < 9223372036854775808) (hb : b < 9223372036854775808) : (kL a ≤ kL b) ↔ a ≤ b := by
  rw [Int64.le_iff_toInt_le, kL_toInt ha, kL_toInt hb]
  omega
theorem kL_lt {a b : Nat} (ha : a < 9223372036854775808) (hb : b < 9223372036854775808) : (kL a < kL b) ↔ a < b := by
  rw [Int64.lt_iff_toInt_lt, kL_toInt ha, kL_toInt hb]
  omega
theorem kL_eq {a b : Nat} (ha : a < 9223372036854775808) (hb : b < 9223372036854775808) : (kL a = kL b) ↔ a = b := by
  rw [← Int64.toInt_inj, kL_toInt ha, kL_toInt hb]
  omega
theorem kI_long {a : Nat} (h : a < 2147483648) : (kI a).toInt64 = kL a := by
  apply kL_inj (by omega)
  rw [Int32.toInt_toInt64, kI_toInt h]
theorem kL_int (a : Nat) : (kL a).toInt32 = kI a := by
  show (Int64.ofNat a).toInt32 = Int32.ofNat a
  exact Int64.toInt32_ofNat'
theorem kL_div {a b : Nat} (ha : a < 9223372036854775808) (hb : b < 9223372036854775808) : kL a / kL b = kL (a / b) := by
  have h1 : a / b ≤ a := Nat.div_le_self a b
  apply kL_inj (by omega)
  rw [Int64.toInt_div_of_ne_left, kL_toInt ha, kL_toInt hb, Int.tdiv_eq_ediv_of_nonneg (by omega)]
  · norm_cast
  · intro e
    have := congrArg Int64.toInt e
    rw [kL_toInt ha] at this
    have h2 : Int64.minValue.toInt = -9223372036854775808 := by decide
    rw [h2] at this
    omega
theorem kL_mod {a b : Nat} (ha : a < 9223372036854775808) (hb : b < 9223372036854775808) : kL a % kL b = kL (a % b) := by
  have h1 : a % b ≤ a := Nat.mod_le a b
  apply kL_inj (by omega)
  rw [Int64.toInt_mod, kL_toInt ha, kL_toInt hb, Int.tmod_eq_emod_of_nonneg (by omega)]
  norm_cast
theorem kI_div {a b : Nat} (ha : a < 2147483648) (hb : b < 2147483648) : kI a / kI b = kI (a / b) := by
  have h1 : a / b ≤ a := Nat.div_le_self a b
  apply kI_inj (by omega)
  rw [Int32.toInt_div_of_ne_left, kI_toInt ha, kI_toInt hb, Int.tdiv_eq_ediv_of_nonneg (by omega)]
  · norm_cast
  · intro e
    have := congrArg Int32.toInt e
    rw [kI_toInt ha] at this
    have h2 : Int32.minValue.toInt = -2147483648 := by decide
    rw [h2] at this
    omega
theorem kI_mod {a b : Nat} (ha : a < 2147483648) (hb : b < 2147483648) : kI a % kI b = kI (a % b) := by
  have h1 : a % b ≤ a := Nat.mod_le a b
  apply kI_inj (by omega)
  rw [Int32.toInt_mod, kI_toInt ha, kI_toInt hb, Int.tmod_eq_emod_of_nonneg (by omega)]
  norm_cast
theorem inb_kI {a n : Nat} (ha : a < 2147483648) : inb (kI a) n ↔ a < n := by
  unfold inb
  rw [kI_toInt ha]
  omega
theorem nm_eq {α β : Type} (e : α) (k : α → β) : nm e k = k e := Eq.symm (Eq.symm rfl)
theorem chk_true {α : Type} {c : Prop} [Decidable c] {x : Option α} (h : c) : chk c x = x := if_pos h
theorem bd_s {α β : Type} (a : α) (k : α → Option β) : bd (some a) k = k a := Eq.symm (Eq.symm rfl)
theorem bd_e {α β : Type} {o : Option α} {a : α} {k : α → Option β} (h : o = some a) : bd o k = k a := by rw [h]; rfl
theorem bx_r {α β : Type} (a : α) (k : α → Option (Nat ⊕ β)) : bx (some (.inr a)) k = k a := Eq.symm (Eq.symm rfl)
theorem bx_l {α β : Type} (e : Nat) (k : α → Option (Nat ⊕ β)) : bx (some (.inl e)) k = some (.inl e) := Eq.symm (Eq.symm rfl)
theorem bn_r {α β : Type} (a : α) (k : α → Option β) : bn (some (.inr a)) k = k a := Eq.symm (Eq.symm rfl)
theorem up_at {f : Nat → Int64} {i : Nat} {v : Int64} : vp_updL f i v i = v := by simp [vp_updL]
theorem up_ne {f : Nat → Int64} {i j : Nat} {v : Int64} (h : j ≠ i) : vp_updL f i v j = f j := by simp [vp_updL, h]
theorem q32_0 : (0 : Int32) = kI 0 := rfl
theorem t32_0 : (0 : Int32).toNatClampNeg = 0 := by decide
theorem q32_1 : (1 : Int32) = kI 1 := rfl
theorem t32_1 : (1 : Int32).toNatClampNeg = 1 := by decide
theorem q32_2 : (2 : Int32) = kI 2 := rfl
theorem t32_2 : (2 : Int32).toNatClampNeg = 2 := by decide
theorem q32_3 : (3 : Int32) = kI 3 := rfl
theorem t32_3 : (3 : Int32).toNatClampNeg = 3 := by decide
theorem q32_4 : (4 : Int32) = kI 4 := rfl
theorem t32_4 : (4 : Int32).toNatClampNeg = 4 := by decide
theorem q32_5 : (5 : Int32) = kI 5 := rfl
theorem t32_5 : (5 : Int32).toNatClampNeg = 5 := by decide
theorem q32_6 : (6 : Int32) = kI 6 := rfl
theorem t32_6 : (6 : Int32).toNatClampNeg = 6 := by decide
theorem q32_7 : (7 : Int32) = kI 7 := rfl
theorem t32_7 : (7 : Int32).toNatClampNeg = 7 := by decide
theorem q32_8 : (8 : Int32) = kI 8 := rfl
theorem t32_8 : (8 : Int32).toNatClampNeg = 8 := by decide
theorem q32_9 : (9 : Int32) = kI 9 := rfl
theorem t32_9 : (9 : Int32).toNatClampNeg = 9 := by decide
theorem q32_10 : (10 : Int32) = kI 10 := rfl
theorem t32_10 : (10 : Int32).toNatClampNeg = 10 := by decide
theorem q32_11 : (11 : Int32) = kI 11 := rfl
theorem t32_11 : (11 : Int32).toNatClampNeg = 11 := by decide
theorem q32_12 : (12 : Int32) = kI 12 := rfl
theorem t32_12 : (12 : Int32).toNatClampNeg = 12 := by decide
theorem q32_13 : (13 : Int32) = kI 13 := rfl
theorem t32_13 : (13 : Int32).toNatClampNeg = 13 := by decide
theorem q32_14 : (14 : Int32) = kI 14 := rfl
theorem t32_14 : (14 : Int32).toNatClampNeg = 14 := by decide
theorem q32_15 : (15 : Int32) = kI 15 := rfl
theorem t32_15 : (15 : Int32).toNatClampNeg = 15 := by decide
theorem q32_16 : (16 : Int32) = kI 16 := rfl
theorem t32_16 : (16 : Int32).toNatClampNeg = 16 := by decide
theorem q32_17 : (17 : Int32) = kI 17 := rfl
theorem t32_17 : (17 : Int32).toNatClampNeg = 17 := by decide
theorem q32_18 : (18 : Int32) = kI 18 := rfl
theorem t32_18 : (18 : Int32).toNatClampNeg = 18 := by decide
theorem q32_19 : (19 : Int32) = kI 19 := rfl
theorem t32_19 : (19 : Int32).toNatClampNeg = 19 := by decide
theorem q32_20 : (20 : Int32) = kI 20 := rfl
theorem t32_20 : (20 : Int32).toNatClampNeg = 20 := by decide
theorem q32_21 : (21 : Int32) = kI 21 := rfl
theorem t32_21 : (21 : Int32).toNatClampNeg = 21 := by decide
theorem q32_22 : (22 : Int32) = kI 22 := rfl
theorem t32_22 : (22 : Int32).toNatClampNeg = 22 := by decide
theorem q32_23 : (23 : Int32) = kI 23 := rfl
theorem t32_23 : (23 : Int32).toNatClampNeg = 23 := by decide
theorem q32_24 : (24 : Int32) = kI 24 := rfl
theorem t32_24 : (24 : Int32).toNatClampNeg = 24 := by decide
theorem q32_25 : (25 : Int32) = kI 25 := rfl
theorem t32_25 : (25 : Int32).toNatClampNeg = 25 := by decide
theorem q32_26 : (26 : Int32) = kI 26 := rfl
theorem t32_26 : (26 : Int32).toNatClampNeg = 26 := by decide
theorem q32_27 : (27 : Int32) = kI 27 := rfl
theorem t32_27 : (27 : Int32).toNatClampNeg = 27 := by decide
theorem q32_28 : (28 : Int32) = kI 28 := rfl
theorem t32_28 : (28 : Int32).toNatClampNeg = 28 := by decide
theorem q32_29 : (29 : Int32) = kI 29 := rfl
theorem t32_29 : (29 : Int32).toNatClampNeg = 29 := by decide
theorem q32_30 : (30 : Int32) = kI 30 := rfl
theorem t32_30 : (30 : Int32).toNatClampNeg = 30 := by decide
theorem q32_31 : (31 : Int32) = kI 31 := rfl
theorem t32_31 : (31 : Int32).toNatClampNeg = 31 := by decide
theorem q32_32 : (32 : Int32) = kI 32 := rfl
theorem t32_32 : (32 : Int32).toNatClampNeg = 32 := by decide
theorem q32_36 : (36 : Int32) = kI 36 := rfl
theorem t32_36 : (36 : Int32).toNatClampNeg = 36 := by decide
theorem q32_48 : (48 : Int32) = kI 48 := rfl
theorem t32_48 : (48 : Int32).toNatClampNeg = 48 := by decide
theorem q32_57 : (57 : Int32) = kI 57 := rfl
theorem t32_57 : (57 : Int32).toNatClampNeg = 57 := by decide
theorem q32_58 : (58 : Int32) = kI 58 := rfl
theorem t32_58 : (58 : Int32).toNatClampNeg = 58 := by decide
theorem q32_59 : (59 : Int32) = kI 59 := rfl
theorem t32_59 : (59 : Int32).toNatClampNeg = 59 := by decide
theorem q32_97 : (97 : Int32) = kI 97 := rfl
theorem t32_97 : (97 : Int32).toNatClampNeg = 97 := by decide
theorem q32_100 : (100 : Int32) = kI 100 := rfl
theorem t32_100 : (100 : Int32).toNatClampNeg = 100 := by decide
theorem q32_101 : (101 : Int32) = kI 101 := rfl
theorem t32_101 : (101 : Int32).toNatClampNeg = 101 := by decide
theorem q32_120 : (120 : Int32) = kI 120 := rfl
theorem t32_120 : (120 : Int32).toNatClampNeg = 120 := by decide
theorem q32_122 : (122 : Int32) = kI 122 := rfl
theorem t32_122 : (122 : Int32).toNatClampNeg = 122 := by decide
theorem q32_127 : (127 : Int32) = kI 127 := rfl
theorem t32_127 : (127 : Int32).toNatClampNeg = 127 := by decide
theorem q32_128 : (128 : Int32) = kI 128 := rfl
theorem t32_128 : (128 : Int32).toNatClampNeg = 128 := by decide
theorem q32_200 : (200 : Int32) = kI 200 := rfl
theorem t32_200 : (200 : Int32).toNatClampNeg = 200 := by decide
theorem q32_201 : (201 : Int32) = kI 201 := rfl
theorem t32_201 : (201 : Int32).toNatClampNeg = 201 := by decide
theorem q32_230 : (230 : Int32) = kI 230 := rfl
theorem t32_230 : (230 : Int32).toNatClampNeg = 230 := by decide
theorem q32_431 : (431 : Int32) = kI 431 := rfl
theorem t32_431 : (431 : Int32).toNatClampNeg = 431 := by decide
theorem q32_512 : (512 : Int32) = kI 512 := rfl
theorem t32_512 : (512 : Int32).toNatClampNeg = 512 := by decide
theorem q32_862 : (862 : Int32) = kI 862 := rfl
theorem t32_862 : (862 : Int32).toNatClampNeg = 862 := by decide
theorem q32_999 : (999 : Int32) = kI 999 := rfl
theorem t32_999 : (999 : Int32).toNatClampNeg = 999 := by decide
theorem q32_1000 : (1000 : Int32) = kI 1000 := rfl
theorem t32_1000 : (1000 : Int32).toNatClampNeg = 1000 := by decide
theorem q32_1293 : (1293 : Int32) = kI 1293 := rfl
theorem t32_1293 : (1293 : Int32).toNatClampNeg = 1293 := by decide
theorem q32_1809 : (1809 : Int32) = kI 1809 := rfl
theorem t32_1809 : (1809 : Int32).toNatClampNeg = 1809 := by decide
theorem q32_11908 : (11908 : Int32) = kI 11908 := rfl
theorem t32_11908 : (11908 : Int32).toNatClampNeg = 11908 := by decide
theorem q64_0 : (0 : Int64) = kL 0 := rfl
theorem q64_1 : (1 : Int64) = kL 1 := rfl
theorem q64_2 : (2 : Int64) = kL 2 := rfl
theorem q64_3 : (3 : Int64) = kL 3 := rfl
theorem q64_4 : (4 : Int64) = kL 4 := rfl
theorem q64_5 : (5 : Int64) = kL 5 := rfl
theorem q64_6 : (6 : Int64) = kL 6 := rfl
theorem q64_7 : (7 : Int64) = kL 7 := rfl
theorem q64_8 : (8 : Int64) = kL 8 := rfl
theorem q64_9 : (9 : Int64) = kL 9 := rfl
theorem q64_10 : (10 : Int64) = kL 10 := rfl
theorem q64_11 : (11 : Int64) = kL 11 := rfl
theorem q64_12 : (12 : Int64) = kL 12 := rfl
theorem q64_13 : (13 : Int64) = kL 13 := rfl
theorem q64_14 : (14 : Int64) = kL 14 := rfl
theorem q64_15 : (15 : Int64) = kL 15 := rfl
theorem q64_16 : (16 : Int64) = kL 16 := rfl
theorem q64_17 : (17 : Int64) = kL 17 := rfl
theorem q64_18 : (18 : Int64) = kL 18 := rfl
theorem q64_19 : (19 : Int64) = kL 19 := rfl
theorem q64_20 : (20 : Int64) = kL 20 := rfl
theorem q64_21 : (21 : Int64) = kL 21 := rfl
theorem q64_22 : (22 : Int64) = kL 22 := rfl
theorem q64_23 : (23 : Int64) = kL 23 := rfl
theorem q64_24 : (24 : Int64) = kL 24 := rfl
theorem q64_25 : (25 : Int64) = kL 25 := rfl
theorem q64_26 : (26 : Int64) = kL 26 := rfl
theorem q64_27 : (27 : Int64) = kL 27 := rfl
theorem q64_28 : (28 : Int64) = kL 28 := rfl
theorem q64_29 : (29 : Int64) = kL 29 := rfl
theorem q64_30 : (30 : Int64) = kL 30 := rfl
theorem q64_31 : (31 : Int64) = kL 31 := rfl
theorem q64_32 : (32 : Int64) = kL 32 := rfl
theorem q64_48 : (48 : Int64) = kL 48 := rfl
theorem q64_57 : (57 : Int64) = kL 57 := rfl
theorem q64_97 : (97 : Int64) = kL 97 := rfl
theorem q64_100 : (100 : Int64) = kL 100 := rfl
theorem q64_120 : (120 : Int64) = kL 120 := rfl
theorem q64_122 : (122 : Int64) = kL 122 := rfl
theorem q64_127 : (127 : Int64) = kL 127 := rfl
theorem q64_128 : (128 : Int64) = kL 128 := rfl
theorem q64_200 : (200 : Int64) = kL 200 := rfl
theorem q64_201 : (201 : Int64) = kL 201 := rfl
theorem q64_999 : (999 : Int64) = kL 999 := rfl
theorem q64_1000 : (1000 : Int64) = kL 1000 := rfl
theorem q64_11908 : (11908 : Int64) = kL 11908 := rfl
theorem q64_1000000 : (1000000 : Int64) = kL 1000000 := rfl
theorem q64_4000000 : (4000000 : Int64) = kL 4000000 := rfl
theorem kL0_add (x : Int64) : x + kL 0 = x := by
  show x + 0 = x
  exact Int64.add_zero x
