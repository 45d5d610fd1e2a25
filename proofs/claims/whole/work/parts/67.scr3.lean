def enc (bt : Nat → Nat) (f : Nat) : Nat → Nat
  | 0 => 0
  | k + 1 => enc bt f k * 128 + bt (f + k)
def kd (κ : Nat) : Nat := ([2, 0, 4, 1, 3, 5, 6, 7] : List Nat).getD κ 0
theorem kd_b : ∀ i, i < 8 → kd i < 8 := by decide
theorem all3 {P : Nat → Prop} : (∀ k, k < 3 → P k) ↔ P 0 ∧ P 1 ∧ P 2 := ⟨fun h => ⟨h 0 (by omega), h 1 (by omega), h 2 (by omega)⟩, fun h k hk => by
  obtain rfl | rfl | rfl : k = 0 ∨ k = 1 ∨ k = 2 := by omega
  · exact h.1
  · exact h.2.1
  · exact h.2.2⟩
theorem all4 {P : Nat → Prop} : (∀ k, k < 4 → P k) ↔ P 0 ∧ P 1 ∧ P 2 ∧ P 3 := ⟨fun h => ⟨h 0 (by omega), h 1 (by omega), h 2 (by omega), h 3 (by omega)⟩, fun h k hk => by
  obtain rfl | rfl | rfl | rfl : k = 0 ∨ k = 1 ∨ k = 2 ∨ k = 3 := by omega
  · exact h.1
  · exact h.2.1
  · exact h.2.2.1
  · exact h.2.2.2⟩
theorem all5 {P : Nat → Prop} : (∀ k, k < 5 → P k) ↔ P 0 ∧ P 1 ∧ P 2 ∧ P 3 ∧ P 4 := ⟨fun h => ⟨h 0 (by omega), h 1 (by omega), h 2 (by omega), h 3 (by omega), h 4 (by omega)⟩, fun h k hk => by
  obtain rfl | rfl | rfl | rfl | rfl : k = 0 ∨ k = 1 ∨ k = 2 ∨ k = 3 ∨ k = 4 := by omega
  · exact h.1
  · exact h.2.1
  · exact h.2.2.1
  · exact h.2.2.2.1
  · exact h.2.2.2.2⟩
theorem enc1 (bt : Nat → Nat) (f : Nat) : enc bt f 1 = bt (f + 0) := by simp [enc]
theorem enc2 (bt : Nat → Nat) (f : Nat) : enc bt f 2 = bt (f + 0) * 128 + bt (f + 1) := by simp [enc]
theorem enc3 (bt : Nat → Nat) (f : Nat) : enc bt f 3 = bt (f + 0) * 16384 + bt (f + 1) * 128 + bt (f + 2) := by simp [enc]; omega
theorem enc4 (bt : Nat → Nat) (f : Nat) : enc bt f 4 = bt (f + 0) * 2097152 + bt (f + 1) * 16384 + bt (f + 2) * 128 + bt (f + 3) := by simp [enc]; omega
theorem enc5 (bt : Nat → Nat) (f : Nat) : enc bt f 5 = bt (f + 0) * 268435456 + bt (f + 1) * 2097152 + bt (f + 2) * 16384 + bt (f + 3) * 128 + bt (f + 4) := by simp [enc]; omega
def wE (i : Nat) : Nat := ([236484980, 1897204, 1637108, 31106741492, 30311922149, 31104792420, 228325355, 26249787508] : List Nat).getD i 0
theorem Wd0 {bt : Nat → Nat} {f n : Nat} : Wd bt 0 f (f + n) ↔ n = 4 ∧ bt (f + 0) = 112 ∧ bt (f + 1) = 97 ∧ bt (f + 2) = 114 ∧ bt (f + 3) = 116 := by
  show (f + n = f + 4 ∧ ∀ k, k < 4 → bt (f + k) = wB8 0 k) ↔ _
  rw [all4]
  show (f + n = f + 4 ∧ bt (f + 0) = 112 ∧ bt (f + 1) = 97 ∧ bt (f + 2) = 114 ∧ bt (f + 3) = 116) ↔ _
  omega
theorem Wd1 {bt : Nat → Nat} {f n : Nat} : Wd bt 1 f (f + n) ↔ n = 3 ∧ bt (f + 0) = 115 ∧ bt (f + 1) = 101 ∧ bt (f + 2) = 116 := by
  show (f + n = f + 3 ∧ ∀ k, k < 3 → bt (f + k) = wB8 1 k) ↔ _
  rw [all3]
  show (f + n = f + 3 ∧ bt (f + 0) = 115 ∧ bt (f + 1) = 101 ∧ bt (f + 2) = 116) ↔ _
  omega
theorem Wd2 {bt : Nat → Nat} {f n : Nat} : Wd bt 2 f (f + n) ↔ n = 3 ∧ bt (f + 0) = 99 ∧ bt (f + 1) = 117 ∧ bt (f + 2) = 116 := by
  show (f + n = f + 3 ∧ ∀ k, k < 3 → bt (f + k) = wB8 2 k) ↔ _
  rw [all3]
  show (f + n = f + 3 ∧ bt (f + 0) = 99 ∧ bt (f + 1) = 117 ∧ bt (f + 2) = 116) ↔ _
  omega
theorem Wd3 {bt : Nat → Nat} {f n : Nat} : Wd bt 3 f (f + n) ↔ n = 5 ∧ bt (f + 0) = 115 ∧ bt (f + 1) = 112 ∧ bt (f + 2) = 108 ∧ bt (f + 3) = 105 ∧ bt (f + 4) = 116 := by
  show (f + n = f + 5 ∧ ∀ k, k < 5 → bt (f + k) = wB8 3 k) ↔ _
  rw [all5]
  show (f + n = f + 5 ∧ bt (f + 0) = 115 ∧ bt (f + 1) = 112 ∧ bt (f + 2) = 108 ∧ bt (f + 3) = 105 ∧ bt (f + 4) = 116) ↔ _
  omega
theorem Wd4 {bt : Nat → Nat} {f n : Nat} : Wd bt 4 f (f + n) ↔ n = 5 ∧ bt (f + 0) = 112 ∧ bt (f + 1) = 117 ∧ bt (f + 2) = 108 ∧ bt (f + 3) = 115 ∧ bt (f + 4) = 101 := by
  show (f + n = f + 5 ∧ ∀ k, k < 5 → bt (f + k) = wB8 4 k) ↔ _
  rw [all5]
  show (f + n = f + 5 ∧ bt (f + 0) = 112 ∧ bt (f + 1) = 117 ∧ bt (f + 2) = 108 ∧ bt (f + 3) = 115 ∧ bt (f + 4) = 101) ↔ _
  omega
theorem Wd5 {bt : Nat → Nat} {f n : Nat} : Wd bt 5 f (f + n) ↔ n = 5 ∧ bt (f + 0) = 115 ∧ bt (f + 1) = 111 ∧ bt (f + 2) = 117 ∧ bt (f + 3) = 110 ∧ bt (f + 4) = 100 := by
  show (f + n = f + 5 ∧ ∀ k, k < 5 → bt (f + k) = wB8 5 k) ↔ _
  rw [all5]
  show (f + n = f + 5 ∧ bt (f + 0) = 115 ∧ bt (f + 1) = 111 ∧ bt (f + 2) = 117 ∧ bt (f + 3) = 110 ∧ bt (f + 4) = 100) ↔ _
  omega
theorem Wd6 {bt : Nat → Nat} {f n : Nat} : Wd bt 6 f (f + n) ↔ n = 4 ∧ bt (f + 0) = 108 ∧ bt (f + 1) = 111 ∧ bt (f + 2) = 111 ∧ bt (f + 3) = 107 := by
  show (f + n = f + 4 ∧ ∀ k, k < 4 → bt (f + k) = wB8 6 k) ↔ _
  rw [all4]
  show (f + n = f + 4 ∧ bt (f + 0) = 108 ∧ bt (f + 1) = 111 ∧ bt (f + 2) = 111 ∧ bt (f + 3) = 107) ↔ _
  omega
theorem Wd7 {bt : Nat → Nat} {f n : Nat} : Wd bt 7 f (f + n) ↔ n = 5 ∧ bt (f + 0) = 97 ∧ bt (f + 1) = 100 ∧ bt (f + 2) = 111 ∧ bt (f + 3) = 112 ∧ bt (f + 4) = 116 := by
  show (f + n = f + 5 ∧ ∀ k, k < 5 → bt (f + k) = wB8 7 k) ↔ _
  rw [all5]
  show (f + n = f + 5 ∧ bt (f + 0) = 97 ∧ bt (f + 1) = 100 ∧ bt (f + 2) = 111 ∧ bt (f + 3) = 112 ∧ bt (f + 4) = 116) ↔ _
  omega
theorem wi_if (bt : Nat → Nat) (p q : Nat) : wi bt p q = if Wd bt 0 p q then some 0 else if Wd bt 1 p q then some 1 else if Wd bt 2 p q then some 2 else if Wd bt 3 p q then some 3 else if Wd bt 4 p q then some 4 else if Wd bt 5 p q then some 5 else if Wd bt 6 p q then some 6 else if Wd bt 7 p q then some 7 else none := rfl
def kw (o : Option Nat) : Int32 := match o with
  | none => -1
  | some κ => kI (kd κ)
theorem ev_kindOf {bt : Nat → Nat} {f n : Nat} (hn1 : 1 ≤ n) (hn : n ≤ 5) (hl : ∀ k, k < n → 97 ≤ bt (f + k) ∧ bt (f + k) ≤ 122) : Rf_kindOf (kL (enc bt f n)) = some (kw (wi bt f (f + n))) := by
  have key : ∃ E, enc bt f n = E ∧ E < 1000000000000 ∧ (Wd bt 0 f (f + n) ↔ E = 236484980) ∧ (Wd bt 1 f (f + n) ↔ E = 1897204) ∧ (Wd bt 2 f (f + n) ↔ E = 1637108) ∧ (Wd bt 3 f (f + n) ↔ E = 31106741492) ∧ (Wd bt 4 f (f + n) ↔ E = 30311922149) ∧ (Wd bt 5 f (f + n) ↔ E = 31104792420) ∧ (Wd bt 6 f (f + n) ↔ E = 228325355) ∧ (Wd bt 7 f (f + n) ↔ E = 26249787508) := by
    refine ⟨_, rfl, ?_⟩
    rw [Wd0, Wd1, Wd2, Wd3, Wd4, Wd5, Wd6, Wd7]
    obtain rfl | rfl | rfl | rfl | rfl : n = 1 ∨ n = 2 ∨ n = 3 ∨ n = 4 ∨ n = 5 := by omega
    · have h0 := hl 0 (by omega)
      rw [enc1]
      omega
    · have h0 := hl 0 (by omega)
      have h1 := hl 1 (by omega)
      rw [enc2]
      omega
    · have h0 := hl 0 (by omega)
      have h1 := hl 1 (by omega)
      have h2 := hl 2 (by omega)
      rw [enc3]
      omega
    · have h0 := hl 0 (by omega)
      have h1 := hl 1 (by omega)
      have h2 := hl 2 (by omega)
      have h3 := hl 3 (by omega)
      rw [enc4]
      refine ⟨by omega, by omega, by omega, by omega, by omega, by omega, by omega, by omega, by omega⟩
    · have h0 := hl 0 (by omega)
      have h1 := hl 1 (by omega)
      have h2 := hl 2 (by omega)
      have h3 := hl 3 (by omega)
      have h4 := hl 4 (by omega)
      rw [enc5]
      refine ⟨by omega, by omega, by omega, by omega, by omega, by omega, by omega, by omega, by omega⟩
  obtain ⟨E, e, hE, k0, k1, k2, k3, k4, k5, k6, k7⟩ := key
  rw [e]
  unfold Rf_kindOf Rf_kindOf_16 Rf_kindOf_29 Rf_kindOf_46 Rf_kindOf_59 Rf_kindOf_76 Rf_kindOf_89 Rf_kindOf_117
  by_cases d1 : E = 1897204
  · have w : wi bt f (f + n) = some 1 := by rw [wi_if, if_neg (fun w => by have := k0.mp w; omega), if_pos (k1.mpr d1)]
    rw [w]
    simp (disch := omega) only [↓nm_eq, ↓bd_x, bdx_s, ↓bx_x, bxx_r, bxx_l, ↓bn_x, bnx_r, chk_t, ↓reduceIte, q32, q64, kI_lt_t, kI_lt_f, kI_le_t, kI_le_f, kI_eq_t, kI_eq_f, kL_lt_t, kL_lt_f, kL_le_t, kL_le_f, kL_eq_t, kL_eq_f, kI_m1, kI_m1', m1_m1, kI_n1, kI_n1', n1_add', eq_self, inb_t, kI_nat, kI_add, kI_mul, kI_sub, kI_div, kI_mod, kI_long, kL_add, kL_mul, kL_sub, kL_div, kL_mod, kL_int, n1_add, not_false_eq_true, not_true_eq_false, and_true, true_and, and_false, false_and, or_true, true_or, or_false, false_or, Nat.reduceEqDiff, IN, IM, d1]
    rfl
  by_cases d3 : E = 31106741492
  · have w : wi bt f (f + n) = some 3 := by rw [wi_if, if_neg (fun w => by have := k0.mp w; omega), if_neg (fun w => by have := k1.mp w; omega), if_neg (fun w => by have := k2.mp w; omega), if_pos (k3.mpr d3)]
    rw [w]
    simp (disch := omega) only [↓nm_eq, ↓bd_x, bdx_s, ↓bx_x, bxx_r, bxx_l, ↓bn_x, bnx_r, chk_t, ↓reduceIte, q32, q64, kI_lt_t, kI_lt_f, kI_le_t, kI_le_f, kI_eq_t, kI_eq_f, kL_lt_t, kL_lt_f, kL_le_t, kL_le_f, kL_eq_t, kL_eq_f, kI_m1, kI_m1', m1_m1, kI_n1, kI_n1', n1_add', eq_self, inb_t, kI_nat, kI_add, kI_mul, kI_sub, kI_div, kI_mod, kI_long, kL_add, kL_mul, kL_sub, kL_div, kL_mod, kL_int, n1_add, not_false_eq_true, not_true_eq_false, and_true, true_and, and_false, false_and, or_true, true_or, or_false, false_or, Nat.reduceEqDiff, IN, IM, d3]
    rfl
  by_cases d0 : E = 236484980
  · have w : wi bt f (f + n) = some 0 := by rw [wi_if, if_pos (k0.mpr d0)]
    rw [w]
    simp (disch := omega) only [↓nm_eq, ↓bd_x, bdx_s, ↓bx_x, bxx_r, bxx_l, ↓bn_x, bnx_r, chk_t, ↓reduceIte, q32, q64, kI_lt_t, kI_lt_f, kI_le_t, kI_le_f, kI_eq_t, kI_eq_f, kL_lt_t, kL_lt_f, kL_le_t, kL_le_f, kL_eq_t, kL_eq_f, kI_m1, kI_m1', m1_m1, kI_n1, kI_n1', n1_add', eq_self, inb_t, kI_nat, kI_add, kI_mul, kI_sub, kI_div, kI_mod, kI_long, kL_add, kL_mul, kL_sub, kL_div, kL_mod, kL_int, n1_add, not_false_eq_true, not_true_eq_false, and_true, true_and, and_false, false_and, or_true, true_or, or_false, false_or, Nat.reduceEqDiff, IN, IM, d0]
    rfl
  by_cases d4 : E = 30311922149
  · have w : wi bt f (f + n) = some 4 := by rw [wi_if, if_neg (fun w => by have := k0.mp w; omega), if_neg (fun w => by have := k1.mp w; omega), if_neg (fun w => by have := k2.mp w; omega), if_neg (fun w => by have := k3.mp w; omega), if_pos (k4.mpr d4)]
    rw [w]
    simp (disch := omega) only [↓nm_eq, ↓bd_x, bdx_s, ↓bx_x, bxx_r, bxx_l, ↓bn_x, bnx_r, chk_t, ↓reduceIte, q32, q64, kI_lt_t, kI_lt_f, kI_le_t, kI_le_f, kI_eq_t, kI_eq_f, kL_lt_t, kL_lt_f, kL_le_t, kL_le_f, kL_eq_t, kL_eq_f, kI_m1, kI_m1', m1_m1, kI_n1, kI_n1', n1_add', eq_self, inb_t, kI_nat, kI_add, kI_mul, kI_sub, kI_div, kI_mod, kI_long, kL_add, kL_mul, kL_sub, kL_div, kL_mod, kL_int, n1_add, not_false_eq_true, not_true_eq_false, and_true, true_and, and_false, false_and, or_true, true_or, or_false, false_or, Nat.reduceEqDiff, IN, IM, d4]
    rfl
  by_cases d2 : E = 1637108
  · have w : wi bt f (f + n) = some 2 := by rw [wi_if, if_neg (fun w => by have := k0.mp w; omega), if_neg (fun w => by have := k1.mp w; omega), if_pos (k2.mpr d2)]
    rw [w]
    simp (disch := omega) only [↓nm_eq, ↓bd_x, bdx_s, ↓bx_x, bxx_r, bxx_l, ↓bn_x, bnx_r, chk_t, ↓reduceIte, q32, q64, kI_lt_t, kI_lt_f, kI_le_t, kI_le_f, kI_eq_t, kI_eq_f, kL_lt_t, kL_lt_f, kL_le_t, kL_le_f, kL_eq_t, kL_eq_f, kI_m1, kI_m1', m1_m1, kI_n1, kI_n1', n1_add', eq_self, inb_t, kI_nat, kI_add, kI_mul, kI_sub, kI_div, kI_mod, kI_long, kL_add, kL_mul, kL_sub, kL_div, kL_mod, kL_int, n1_add, not_false_eq_true, not_true_eq_false, and_true, true_and, and_false, false_and, or_true, true_or, or_false, false_or, Nat.reduceEqDiff, IN, IM, d2]
    rfl
  by_cases d5 : E = 31104792420
  · have w : wi bt f (f + n) = some 5 := by rw [wi_if, if_neg (fun w => by have := k0.mp w; omega), if_neg (fun w => by have := k1.mp w; omega), if_neg (fun w => by have := k2.mp w; omega), if_neg (fun w => by have := k3.mp w; omega), if_neg (fun w => by have := k4.mp w; omega), if_pos (k5.mpr d5)]
    rw [w]
    simp (disch := omega) only [↓nm_eq, ↓bd_x, bdx_s, ↓bx_x, bxx_r, bxx_l, ↓bn_x, bnx_r, chk_t, ↓reduceIte, q32, q64, kI_lt_t, kI_lt_f, kI_le_t, kI_le_f, kI_eq_t, kI_eq_f, kL_lt_t, kL_lt_f, kL_le_t, kL_le_f, kL_eq_t, kL_eq_f, kI_m1, kI_m1', m1_m1, kI_n1, kI_n1', n1_add', eq_self, inb_t, kI_nat, kI_add, kI_mul, kI_sub, kI_div, kI_mod, kI_long, kL_add, kL_mul, kL_sub, kL_div, kL_mod, kL_int, n1_add, not_false_eq_true, not_true_eq_false, and_true, true_and, and_false, false_and, or_true, true_or, or_false, false_or, Nat.reduceEqDiff, IN, IM, d5]
    rfl
  by_cases d6 : E = 228325355
  · have w : wi bt f (f + n) = some 6 := by rw [wi_if, if_neg (fun w => by have := k0.mp w; omega), if_neg (fun w => by have := k1.mp w; omega), if_neg (fun w => by have := k2.mp w; omega), if_neg (fun w => by have := k3.mp w; omega), if_neg (fun w => by have := k4.mp w; omega), if_neg (fun w => by have := k5.mp w; omega), if_pos (k6.mpr d6)]
    rw [w]
    simp (disch := omega) only [↓nm_eq, ↓bd_x, bdx_s, ↓bx_x, bxx_r, bxx_l, ↓bn_x, bnx_r, chk_t, ↓reduceIte, q32, q64, kI_lt_t, kI_lt_f, kI_le_t, kI_le_f, kI_eq_t, kI_eq_f, kL_lt_t, kL_lt_f, kL_le_t, kL_le_f, kL_eq_t, kL_eq_f, kI_m1, kI_m1', m1_m1, kI_n1, kI_n1', n1_add', eq_self, inb_t, kI_nat, kI_add, kI_mul, kI_sub, kI_div, kI_mod, kI_long, kL_add, kL_mul, kL_sub, kL_div, kL_mod, kL_int, n1_add, not_false_eq_true, not_true_eq_false, and_true, true_and, and_false, false_and, or_true, true_or, or_false, false_or, Nat.reduceEqDiff, IN, IM, d6]
    rfl
  by_cases d7 : E = 26249787508
  · have w : wi bt f (f + n) = some 7 := by rw [wi_if, if_neg (fun w => by have := k0.mp w; omega), if_neg (fun w => by have := k1.mp w; omega), if_neg (fun w => by have := k2.mp w; omega), if_neg (fun w => by have := k3.mp w; omega), if_neg (fun w => by have := k4.mp w; omega), if_neg (fun w => by have := k5.mp w; omega), if_neg (fun w => by have := k6.mp w; omega), if_pos (k7.mpr d7)]
    rw [w]
    simp (disch := omega) only [↓nm_eq, ↓bd_x, bdx_s, ↓bx_x, bxx_r, bxx_l, ↓bn_x, bnx_r, chk_t, ↓reduceIte, q32, q64, kI_lt_t, kI_lt_f, kI_le_t, kI_le_f, kI_eq_t, kI_eq_f, kL_lt_t, kL_lt_f, kL_le_t, kL_le_f, kL_eq_t, kL_eq_f, kI_m1, kI_m1', m1_m1, kI_n1, kI_n1', n1_add', eq_self, inb_t, kI_nat, kI_add, kI_mul, kI_sub, kI_div, kI_mod, kI_long, kL_add, kL_mul, kL_sub, kL_div, kL_mod, kL_int, n1_add, not_false_eq_true, not_true_eq_false, and_true, true_and, and_false, false_and, or_true, true_or, or_false, false_or, Nat.reduceEqDiff, IN, IM, d7]
    rfl
  · have w : wi bt f (f + n) = none := by rw [wi_if, if_neg (fun w => d0 (k0.mp w)), if_neg (fun w => d1 (k1.mp w)), if_neg (fun w => d2 (k2.mp w)), if_neg (fun w => d3 (k3.mp w)), if_neg (fun w => d4 (k4.mp w)), if_neg (fun w => d5 (k5.mp w)), if_neg (fun w => d6 (k6.mp w)), if_neg (fun w => d7 (k7.mp w))]
    rw [w]
    simp (disch := omega) only [↓nm_eq, ↓bd_x, bdx_s, ↓bx_x, bxx_r, bxx_l, ↓bn_x, bnx_r, chk_t, ↓reduceIte, q32, q64, kI_lt_t, kI_lt_f, kI_le_t, kI_le_f, kI_eq_t, kI_eq_f, kL_lt_t, kL_lt_f, kL_le_t, kL_le_f, kL_eq_t, kL_eq_f, kI_m1, kI_m1', m1_m1, kI_n1, kI_n1', n1_add', eq_self, inb_t, kI_nat, kI_add, kI_mul, kI_sub, kI_div, kI_mod, kI_long, kL_add, kL_mul, kL_sub, kL_div, kL_mod, kL_int, n1_add, not_false_eq_true, not_true_eq_false, and_true, true_and, and_false, false_and, or_true, true_or, or_false, false_or, Nat.reduceEqDiff, IN, IM]
    rfl
