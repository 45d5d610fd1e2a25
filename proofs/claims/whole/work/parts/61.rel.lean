theorem PStop_det {s : Sx} {n : Nat} {ln fr : Nat → Nat} {r r2 : Nat} {tm tm2 : Int32} (h : PStop s n ln fr r tm) (k : PStop s n ln fr r2 tm2) : r = r2 ∧ tm = tm2 := by
  obtain ⟨t, h1, h2⟩ := h
  obtain ⟨u, k1, k2⟩ := k
  have e := FU_uniq h1 k1
  subst e
  rcases h2 with ⟨a1, a2, a3⟩ | ⟨a1, a2, a3⟩
  · rcases k2 with ⟨b1, b2, b3⟩ | ⟨b1, b2, b3⟩
    · exact ⟨by omega, by rw [a3, b3]⟩
    · omega
  · rcases k2 with ⟨b1, b2, b3⟩ | ⟨b1, b2, b3⟩
    · omega
    · refine ⟨?_, by rw [a2, b2]⟩
      unfold PGo at a3 b3
      omega
theorem PStop_step {s : Sx} {n : Nat} {ln fr : Nat → Nat} {r len p : Nat} {tm : Int32} (h : PStop s n ln fr r tm) (k : PStep s n ln fr len p) : False := by
  obtain ⟨t, h1, h2⟩ := h
  obtain ⟨u, ⟨k1, k2, k3, k4, k5, k6, k7⟩, k8, k9, k10, k11, k12⟩ := k
  have e := FU_uniq h1 k1
  subst e
  rcases h2 with ⟨a1, a2, a3⟩ | ⟨a1, a2, ⟨a3, a4⟩ | ⟨a3, a4, a5⟩ | ⟨a3, a4, a5⟩⟩
  · omega
  · omega
  · omega
  · exact a4 p k9 k10 (by rw [← k8]; exact k11)
theorem PStep_det {s : Sx} {n : Nat} {ln fr : Nat → Nat} {len p len2 p2 : Nat} (h : PStep s n ln fr len p) (k : PStep s n ln fr len2 p2) : len = len2 ∧ p = p2 := by
  obtain ⟨t, ⟨h1, _⟩, h8, h9, h10, h11, h12⟩ := h
  obtain ⟨u, ⟨k1, _⟩, k8, k9, k10, k11, k12⟩ := k
  have e := FU_uniq h1 k1
  subst e
  have e2 : len = len2 := by omega
  subst e2
  refine ⟨rfl, ?_⟩
  rcases Nat.lt_trichotomy p p2 with q | q | q
  · have := k12 p h9 q
    omega
  · exact q
  · have := h12 p2 k9 q
    omega
theorem PL_det {s : Sx} {n : Nat} {ln fr : Nat → Nat} {r : Nat} {tm : Int32} {n' : Nat} {ln' fr' : Nat → Nat} (h : PL s n ln fr r tm n' ln' fr') {r2 : Nat} {tm2 : Int32} {n2 : Nat} {ln2 fr2 : Nat → Nat} (k : PL s n ln fr r2 tm2 n2 ln2 fr2) : r = r2 ∧ tm = tm2 ∧ n' = n2 ∧ ln' = ln2 ∧ fr' = fr2 := by
  revert k
  refine PL_ind (fun n ln fr r tm n' ln' fr' => PL s n ln fr r2 tm2 n2 ln2 fr2 → r = r2 ∧ tm = tm2 ∧ n' = n2 ∧ ln' = ln2 ∧ fr' = fr2) ?_ ?_ h
  · intro n ln fr r tm h k
    rcases PL_inv k with ⟨k1, k2, k3, k4⟩ | ⟨len, p, k1, _⟩
    · exact ⟨(PStop_det h k1).1, (PStop_det h k1).2, k2.symm, k3.symm, k4.symm⟩
    · exact (PStop_step h k1).elim
  · intro n ln fr len p r tm n' ln' fr' h _ ih k
    rcases PL_inv k with ⟨k1, k2, k3, k4⟩ | ⟨len2, p2, k1, k5⟩
    · exact (PStop_step k1 h).elim
    · obtain ⟨e1, e2⟩ := PStep_det h k1
      subst e1
      subst e2
      exact ih k5
theorem PL_ok {s : Sx} {n : Nat} {ln fr : Nat → Nat} {r : Nat} {tm : Int32} {n' : Nat} {ln' fr' : Nat → Nat} (h : PL s n ln fr r tm n' ln' fr') : LnOK n ln fr → LnOK n' ln' fr' := by
  refine PL_ind (fun n ln fr r tm n' ln' fr' => LnOK n ln fr → LnOK n' ln' fr') ?_ ?_ h
  · intro n ln fr r tm _ hl
    exact hl
  · intro n ln fr len p r tm n' ln' fr' h _ ih hl
    exact ih (h.ok hl)
def INb (x : Int32) (a b : Nat) : Bool := decide ((a : Int) ≤ x.toInt ∧ x.toInt ≤ (b : Int))
def IMb (x : Int32) (a n : Nat) : Bool := decide ((a : Int) ≤ x.toInt ∧ x.toInt < (n : Int))
abbrev IN (x : Int32) (a b : Nat) : Prop := INb x a b = true
abbrev IM (x : Int32) (a n : Nat) : Prop := IMb x a n = true
theorem IN_iff {x : Int32} {a b : Nat} : IN x a b ↔ ((a : Int) ≤ x.toInt ∧ x.toInt ≤ (b : Int)) := decide_eq_true_iff
theorem IM_iff {x : Int32} {a b : Nat} : IM x a b ↔ ((a : Int) ≤ x.toInt ∧ x.toInt < (b : Int)) := decide_eq_true_iff
theorem x_nat {x : Int32} (h : 0 ≤ x.toInt) : ∃ n, n < 2147483648 ∧ x = kI n ∧ x.toInt = (n : Int) := by
  have h1 : x.toInt < 2147483648 := Int32.toInt_lt x
  refine ⟨x.toInt.toNat, by omega, kI_inj (by omega) (by omega), by omega⟩
theorem IN_nat {x : Int32} {a b : Nat} (h : IN x a b) : ∃ n : Nat, n < 2147483648 ∧ x = kI n ∧ a ≤ n ∧ n ≤ b := by
  obtain ⟨h1, h2⟩ := IN_iff.mp h
  obtain ⟨n, n1, n2, n3⟩ := x_nat (x := x) (by omega)
  exact ⟨n, n1, n2, by omega, by omega⟩
theorem IM_nat {x : Int32} {a b : Nat} (h : IM x a b) : ∃ n : Nat, n < 2147483648 ∧ x = kI n ∧ a ≤ n ∧ n < b := by
  obtain ⟨h1, h2⟩ := IM_iff.mp h
  obtain ⟨n, n1, n2, n3⟩ := x_nat (x := x) (by omega)
  exact ⟨n, n1, n2, by omega, by omega⟩
theorem ev_within {x a b : Int64} : Cf_L_isWithin x a b = some (if a.toInt ≤ x.toInt ∧ x.toInt ≤ b.toInt then kI 1 else kI 0) := by
  unfold Cf_L_isWithin Cf_L_isWithin_17 Cf_L_isWithin_18
  simp only [Int64.lt_iff_toInt_lt]
  by_cases h1 : x.toInt < a.toInt
  · rw [if_pos h1, if_neg (by omega)]
    rfl
  · rw [if_neg h1]
    by_cases h2 : b.toInt < x.toInt
    · rw [if_pos h2, if_neg (by omega)]
      rfl
    · rw [if_neg h2, if_pos (by omega)]
      rfl
theorem ev_in {x a b : Int64} : Rf_in x a b = some (if a.toInt ≤ x.toInt ∧ x.toInt ≤ b.toInt then kI 1 else kI 0) := by
  unfold Rf_in Rf_in_17 Rf_in_18
  simp only [Int64.lt_iff_toInt_lt]
  by_cases h1 : x.toInt < a.toInt
  · rw [if_pos h1, if_neg (by omega)]
    rfl
  · rw [if_neg h1]
    by_cases h2 : b.toInt < x.toInt
    · rw [if_pos h2, if_neg (by omega)]
      rfl
    · rw [if_neg h2, if_pos (by omega)]
      rfl
theorem m1I {n : Nat} (h : n < 1000000) : (kI n - kI 1).toInt64.toInt = (n : Int) - 1 := by
  by_cases h0 : n = 0
  · subst h0
    decide
  · rw [kI_sub (by omega), kI_long (by omega), kL_toInt (by omega)]
    omega
theorem m1L {n : Nat} (h : n < 1000000) : (kL n - kL 1).toInt = (n : Int) - 1 := by
  by_cases h0 : n = 0
  · subst h0
    decide
  · rw [kL_sub (by omega), kL_toInt (by omega)]
    omega
theorem xL (x : Int32) : x.toInt64.toInt = x.toInt := Int32.toInt_toInt64 x
theorem w_t {x a b : Int64} (h : a.toInt ≤ x.toInt ∧ x.toInt ≤ b.toInt) : Cf_L_isWithin x a b = some (kI 1) := by rw [ev_within, if_pos h]
theorem w_f {x a b : Int64} (h : ¬ (a.toInt ≤ x.toInt ∧ x.toInt ≤ b.toInt)) : Cf_L_isWithin x a b = some (kI 0) := by rw [ev_within, if_neg h]
theorem i_t {x a b : Int64} (h : a.toInt ≤ x.toInt ∧ x.toInt ≤ b.toInt) : Rf_in x a b = some (kI 1) := by rw [ev_in, if_pos h]
theorem i_f {x a b : Int64} (h : ¬ (a.toInt ≤ x.toInt ∧ x.toInt ≤ b.toInt)) : Rf_in x a b = some (kI 0) := by rw [ev_in, if_neg h]
theorem wI {x : Int32} {a b : Nat} (ha : a < 1000000000) (hb : b < 1000000000) : Cf_L_isWithin x.toInt64 (kL a) (kL b) = some (if IN x a b then kI 1 else kI 0) := by
  rw [ev_within, xL, kL_toInt (by omega), kL_toInt (by omega)]
  exact congrArg some (ite_cg IN_iff.symm)
theorem wM {x : Int32} {a n : Nat} (ha : a < 1000000000) (hn : n < 1000000) : Cf_L_isWithin x.toInt64 (kL a) (kI n - kI 1).toInt64 = some (if IM x a n then kI 1 else kI 0) := by
  rw [ev_within, xL, m1I hn, kL_toInt (by omega)]
  exact congrArg some (ite_cg (Iff.trans (by omega) IM_iff.symm))
theorem iI {x : Int32} {a b : Nat} (ha : a < 1000000000) (hb : b < 1000000000) : Rf_in x.toInt64 (kL a) (kL b) = some (if IN x a b then kI 1 else kI 0) := by
  rw [ev_in, xL, kL_toInt (by omega), kL_toInt (by omega)]
  exact congrArg some (ite_cg IN_iff.symm)
theorem iM {x : Int32} {a n : Nat} (ha : a < 1000000000) (hn : n < 1000000) : Rf_in x.toInt64 (kL a) (kI n - kI 1).toInt64 = some (if IM x a n then kI 1 else kI 0) := by
  rw [ev_in, xL, m1I hn, kL_toInt (by omega)]
  exact congrArg some (ite_cg (Iff.trans (by omega) IM_iff.symm))
theorem iML {x : Int32} {a n : Nat} (ha : a < 1000000000) (hn : n < 1000000) : Rf_in x.toInt64 (kL a) (kL n - kL 1) = some (if IM x a n then kI 1 else kI 0) := by
  rw [ev_in, xL, m1L hn, kL_toInt (by omega)]
  exact congrArg some (ite_cg (Iff.trans (by omega) IM_iff.symm))
def vAdd (b : Bn) (x1 x2 : Int32) : Nat := if IN x1 1 20 ∧ IN x2 0 1000 then (if b.n = 8 then 3 else 0) else 2
def vSet (b : Bn) (x1 x2 x3 : Int32) : Nat := if IM x1 0 b.n then (if IN x2 1 20 ∧ IN x3 0 1000 then 0 else 2) else 1
def vCut (b : Bn) (x1 : Int32) : Nat := if IM x1 0 b.n then 0 else 1
def vSpl (b : Bn) (x1 x2 x3 : Int32) : Nat := if IM x1 0 b.n then (if IM x2 1 (b.ln x1.toNatClampNeg) ∧ IN x3 0 1000 then (if b.n = 8 then 3 else 0) else 2) else 1
def vPul (b : Bn) (x1 x2 : Int32) : Nat := if IN x1 0 100 ∧ IN x2 1 1000000 then (if b.np = 4 then 3 else 0) else 2
section VD
variable {b : Bn} (hb : b.OK) {x1 x2 x3 : Int32}
theorem ev_vAdd (hb : b.OK) : Cf_B_verdictOnAppend_n (kI b.n) x1 x2 = some (vAdd b x1 x2) := by
  have hn := hb.1
  unfold Cf_B_verdictOnAppend_n Cf_B_verdictOnAppend_n_24 Cf_B_verdictOnAppend_n_46 vAdd
  by_cases c1 : IN x1 1 20
  · by_cases c2 : IN x2 0 1000
    · by_cases c3 : b.n = 8
      · simp (disch := omega) only [↓nm_eq, ↓bd_x, bdx_s, ↓bx_x, bxx_r, bxx_l, ↓bn_x, bnx_r, chk_t, ↓reduceIte, q32, q64, kI_lt_t, kI_lt_f, kI_le_t, kI_le_f, kI_eq_t, kI_eq_f, kL_lt_t, kL_lt_f, kL_le_t, kL_le_f, kL_eq_t, kL_eq_f, kI_m1, kI_m1', m1_m1, kI_n1, kI_n1', n1_add', eq_self, inb_t, kI_nat, kI_add, kI_mul, kI_sub, kI_div, kI_mod, kI_long, kL_add, kL_mul, kL_sub, kL_div, kL_mod, kL_int, n1_add, not_false_eq_true, not_true_eq_false, and_true, true_and, and_false, false_and, or_true, true_or, or_false, false_or, Nat.reduceEqDiff, IN, IM, wI, c1, c2, c3, and_self]
      · simp (disch := omega) only [↓nm_eq, ↓bd_x, bdx_s, ↓bx_x, bxx_r, bxx_l, ↓bn_x, bnx_r, chk_t, ↓reduceIte, q32, q64, kI_lt_t, kI_lt_f, kI_le_t, kI_le_f, kI_eq_t, kI_eq_f, kL_lt_t, kL_lt_f, kL_le_t, kL_le_f, kL_eq_t, kL_eq_f, kI_m1, kI_m1', m1_m1, kI_n1, kI_n1', n1_add', eq_self, inb_t, kI_nat, kI_add, kI_mul, kI_sub, kI_div, kI_mod, kI_long, kL_add, kL_mul, kL_sub, kL_div, kL_mod, kL_int, n1_add, not_false_eq_true, not_true_eq_false, and_true, true_and, and_false, false_and, or_true, true_or, or_false, false_or, Nat.reduceEqDiff, IN, IM, wI, c1, c2, c3, and_self]
    · simp (disch := omega) only [↓nm_eq, ↓bd_x, bdx_s, ↓bx_x, bxx_r, bxx_l, ↓bn_x, bnx_r, chk_t, ↓reduceIte, q32, q64, kI_lt_t, kI_lt_f, kI_le_t, kI_le_f, kI_eq_t, kI_eq_f, kL_lt_t, kL_lt_f, kL_le_t, kL_le_f, kL_eq_t, kL_eq_f, kI_m1, kI_m1', m1_m1, kI_n1, kI_n1', n1_add', eq_self, inb_t, kI_nat, kI_add, kI_mul, kI_sub, kI_div, kI_mod, kI_long, kL_add, kL_mul, kL_sub, kL_div, kL_mod, kL_int, n1_add, not_false_eq_true, not_true_eq_false, and_true, true_and, and_false, false_and, or_true, true_or, or_false, false_or, Nat.reduceEqDiff, IN, IM, wI, c1, c2, and_false, and_true]
  · simp (disch := omega) only [↓nm_eq, ↓bd_x, bdx_s, ↓bx_x, bxx_r, bxx_l, ↓bn_x, bnx_r, chk_t, ↓reduceIte, q32, q64, kI_lt_t, kI_lt_f, kI_le_t, kI_le_f, kI_eq_t, kI_eq_f, kL_lt_t, kL_lt_f, kL_le_t, kL_le_f, kL_eq_t, kL_eq_f, kI_m1, kI_m1', m1_m1, kI_n1, kI_n1', n1_add', eq_self, inb_t, kI_nat, kI_add, kI_mul, kI_sub, kI_div, kI_mod, kI_long, kL_add, kL_mul, kL_sub, kL_div, kL_mod, kL_int, n1_add, not_false_eq_true, not_true_eq_false, and_true, true_and, and_false, false_and, or_true, true_or, or_false, false_or, Nat.reduceEqDiff, IN, IM, wI, c1, false_and]
theorem ev_vSet (hb : b.OK) : Cf_B_verdictOnReplace_n (kI b.n) x1 x2 x3 = some (vSet b x1 x2 x3) := by
  have hn := hb.1
  unfold Cf_B_verdictOnReplace_n Cf_B_verdictOnReplace_n_48 Cf_B_verdictOnReplace_n_49 Cf_B_verdictOnReplace_n_65 vSet
  by_cases c0 : IM x1 0 b.n
  · have h1 : 1 ≤ b.n := by obtain ⟨q1, q2⟩ := IM_iff.mp c0; omega
    have e := wM (x := x1) (a := 0) (n := b.n) (by omega) (by omega)
    rw [kI_sub h1, kI_long (by omega)] at e
    by_cases c1 : IN x2 1 20
    · by_cases c2 : IN x3 0 1000
      · simp (disch := omega) only [↓nm_eq, ↓bd_x, bdx_s, ↓bx_x, bxx_r, bxx_l, ↓bn_x, bnx_r, chk_t, ↓reduceIte, q32, q64, kI_lt_t, kI_lt_f, kI_le_t, kI_le_f, kI_eq_t, kI_eq_f, kL_lt_t, kL_lt_f, kL_le_t, kL_le_f, kL_eq_t, kL_eq_f, kI_m1, kI_m1', m1_m1, kI_n1, kI_n1', n1_add', eq_self, inb_t, kI_nat, kI_add, kI_mul, kI_sub, kI_div, kI_mod, kI_long, kL_add, kL_mul, kL_sub, kL_div, kL_mod, kL_int, n1_add, not_false_eq_true, not_true_eq_false, and_true, true_and, and_false, false_and, or_true, true_or, or_false, false_or, Nat.reduceEqDiff, IN, IM, e, wI, c0, c1, c2, and_self]
      · simp (disch := omega) only [↓nm_eq, ↓bd_x, bdx_s, ↓bx_x, bxx_r, bxx_l, ↓bn_x, bnx_r, chk_t, ↓reduceIte, q32, q64, kI_lt_t, kI_lt_f, kI_le_t, kI_le_f, kI_eq_t, kI_eq_f, kL_lt_t, kL_lt_f, kL_le_t, kL_le_f, kL_eq_t, kL_eq_f, kI_m1, kI_m1', m1_m1, kI_n1, kI_n1', n1_add', eq_self, inb_t, kI_nat, kI_add, kI_mul, kI_sub, kI_div, kI_mod, kI_long, kL_add, kL_mul, kL_sub, kL_div, kL_mod, kL_int, n1_add, not_false_eq_true, not_true_eq_false, and_true, true_and, and_false, false_and, or_true, true_or, or_false, false_or, Nat.reduceEqDiff, IN, IM, e, wI, c0, c1, c2, and_false, and_true]
    · simp (disch := omega) only [↓nm_eq, ↓bd_x, bdx_s, ↓bx_x, bxx_r, bxx_l, ↓bn_x, bnx_r, chk_t, ↓reduceIte, q32, q64, kI_lt_t, kI_lt_f, kI_le_t, kI_le_f, kI_eq_t, kI_eq_f, kL_lt_t, kL_lt_f, kL_le_t, kL_le_f, kL_eq_t, kL_eq_f, kI_m1, kI_m1', m1_m1, kI_n1, kI_n1', n1_add', eq_self, inb_t, kI_nat, kI_add, kI_mul, kI_sub, kI_div, kI_mod, kI_long, kL_add, kL_mul, kL_sub, kL_div, kL_mod, kL_int, n1_add, not_false_eq_true, not_true_eq_false, and_true, true_and, and_false, false_and, or_true, true_or, or_false, false_or, Nat.reduceEqDiff, IN, IM, e, wI, c0, c1, false_and]
  · have e := wM (x := x1) (a := 0) (n := b.n) (by omega) (by omega)
    simp only [nm_eq]
    rw [q64_0, q32_1, e, if_neg c0, if_neg c0]
    rfl
theorem ev_vCut (hb : b.OK) : Cf_B_verdictOnPart_n (kI b.n) x1 = some (vCut b x1) := by
  have hn := hb.1
  unfold Cf_B_verdictOnPart_n Cf_B_verdictOnPart_n_25 vCut
  have e := wM (x := x1) (a := 0) (n := b.n) (by omega) (by omega)
  simp only [nm_eq]
  rw [q64_0, q32_1, e, bd_s]
  by_cases c0 : IM x1 0 b.n
  · rw [if_pos c0, if_pos c0]
    rfl
  · rw [if_neg c0, if_neg c0]
    rfl
theorem ev_vSpl (hb : b.OK) {ℓ : Nat → Int32} (hℓ : ∀ k, k < b.n → ℓ k = kI (b.ln k)) : Cf_B_verdictOnDivide_n (kI b.n) ℓ x1 x2 x3 = some (vSpl b x1 x2 x3) := by
  have hn := hb.1
  unfold Cf_B_verdictOnDivide_n Cf_B_verdictOnDivide_n_50 Cf_B_verdictOnDivide_n_72 vSpl
  have e := wM (x := x1) (a := 0) (n := b.n) (by omega) (by omega)
  by_cases c0 : IM x1 0 b.n
  · obtain ⟨k, k1, k2, k3, k4⟩ := IM_nat c0
    rw [if_pos c0] at e
    subst k2
    have hl := hb.2.1 k k4
    have e2 := wM (x := x2) (a := 1) (n := b.ln k) (by omega) (by omega)
    simp only [nm_eq]
    rw [q64_0, q32_1, e, bd_s, if_neg (by rw [q32_0, kI_eq (by omega) (by omega)]; omega), if_pos c0, chk_true ((inb_kI k1).mpr (by omega)), kI_nat k1, hℓ k k4, q64_1, e2, bd_s]
    by_cases c1 : IM x2 1 (b.ln k)
    · by_cases c2 : IN x3 0 1000
      · by_cases c3 : b.n = 8
        · simp (disch := omega) only [↓nm_eq, ↓bd_x, bdx_s, ↓bx_x, bxx_r, bxx_l, ↓bn_x, bnx_r, chk_t, ↓reduceIte, q32, q64, kI_lt_t, kI_lt_f, kI_le_t, kI_le_f, kI_eq_t, kI_eq_f, kL_lt_t, kL_lt_f, kL_le_t, kL_le_f, kL_eq_t, kL_eq_f, kI_m1, kI_m1', m1_m1, kI_n1, kI_n1', n1_add', eq_self, inb_t, kI_nat, kI_add, kI_mul, kI_sub, kI_div, kI_mod, kI_long, kL_add, kL_mul, kL_sub, kL_div, kL_mod, kL_int, n1_add, not_false_eq_true, not_true_eq_false, and_true, true_and, and_false, false_and, or_true, true_or, or_false, false_or, Nat.reduceEqDiff, IN, IM, wI, c1, c2, c3, and_self]
        · simp (disch := omega) only [↓nm_eq, ↓bd_x, bdx_s, ↓bx_x, bxx_r, bxx_l, ↓bn_x, bnx_r, chk_t, ↓reduceIte, q32, q64, kI_lt_t, kI_lt_f, kI_le_t, kI_le_f, kI_eq_t, kI_eq_f, kL_lt_t, kL_lt_f, kL_le_t, kL_le_f, kL_eq_t, kL_eq_f, kI_m1, kI_m1', m1_m1, kI_n1, kI_n1', n1_add', eq_self, inb_t, kI_nat, kI_add, kI_mul, kI_sub, kI_div, kI_mod, kI_long, kL_add, kL_mul, kL_sub, kL_div, kL_mod, kL_int, n1_add, not_false_eq_true, not_true_eq_false, and_true, true_and, and_false, false_and, or_true, true_or, or_false, false_or, Nat.reduceEqDiff, IN, IM, wI, c1, c2, c3, and_self]
      · simp (disch := omega) only [↓nm_eq, ↓bd_x, bdx_s, ↓bx_x, bxx_r, bxx_l, ↓bn_x, bnx_r, chk_t, ↓reduceIte, q32, q64, kI_lt_t, kI_lt_f, kI_le_t, kI_le_f, kI_eq_t, kI_eq_f, kL_lt_t, kL_lt_f, kL_le_t, kL_le_f, kL_eq_t, kL_eq_f, kI_m1, kI_m1', m1_m1, kI_n1, kI_n1', n1_add', eq_self, inb_t, kI_nat, kI_add, kI_mul, kI_sub, kI_div, kI_mod, kI_long, kL_add, kL_mul, kL_sub, kL_div, kL_mod, kL_int, n1_add, not_false_eq_true, not_true_eq_false, and_true, true_and, and_false, false_and, or_true, true_or, or_false, false_or, Nat.reduceEqDiff, IN, IM, wI, c1, c2, and_false, and_true]
    · simp (disch := omega) only [↓nm_eq, ↓bd_x, bdx_s, ↓bx_x, bxx_r, bxx_l, ↓bn_x, bnx_r, chk_t, ↓reduceIte, q32, q64, kI_lt_t, kI_lt_f, kI_le_t, kI_le_f, kI_eq_t, kI_eq_f, kL_lt_t, kL_lt_f, kL_le_t, kL_le_f, kL_eq_t, kL_eq_f, kI_m1, kI_m1', m1_m1, kI_n1, kI_n1', n1_add', eq_self, inb_t, kI_nat, kI_add, kI_mul, kI_sub, kI_div, kI_mod, kI_long, kL_add, kL_mul, kL_sub, kL_div, kL_mod, kL_int, n1_add, not_false_eq_true, not_true_eq_false, and_true, true_and, and_false, false_and, or_true, true_or, or_false, false_or, Nat.reduceEqDiff, IN, IM, wI, c1, false_and]
  · simp only [nm_eq]
    rw [q64_0, q32_1, e, if_neg c0, if_neg c0]
    rfl
theorem ev_vPul (hb : b.OK) : Cf_B_verdictOnPulse_n (kI b.np) x1 x2 = some (vPul b x1 x2) := by
  have hn : b.np ≤ 4 := hb.2.2.2.2.2.2.1
  unfold Cf_B_verdictOnPulse_n Cf_B_verdictOnPulse_n_24 Cf_B_verdictOnPulse_n_45 vPul
  by_cases c1 : IN x1 0 100
  · by_cases c2 : IN x2 1 1000000
    · by_cases c3 : b.np = 4
      · simp (disch := omega) only [↓nm_eq, ↓bd_x, bdx_s, ↓bx_x, bxx_r, bxx_l, ↓bn_x, bnx_r, chk_t, ↓reduceIte, q32, q64, kI_lt_t, kI_lt_f, kI_le_t, kI_le_f, kI_eq_t, kI_eq_f, kL_lt_t, kL_lt_f, kL_le_t, kL_le_f, kL_eq_t, kL_eq_f, kI_m1, kI_m1', m1_m1, kI_n1, kI_n1', n1_add', eq_self, inb_t, kI_nat, kI_add, kI_mul, kI_sub, kI_div, kI_mod, kI_long, kL_add, kL_mul, kL_sub, kL_div, kL_mod, kL_int, n1_add, not_false_eq_true, not_true_eq_false, and_true, true_and, and_false, false_and, or_true, true_or, or_false, false_or, Nat.reduceEqDiff, IN, IM, wI, c1, c2, c3, and_self]
      · simp (disch := omega) only [↓nm_eq, ↓bd_x, bdx_s, ↓bx_x, bxx_r, bxx_l, ↓bn_x, bnx_r, chk_t, ↓reduceIte, q32, q64, kI_lt_t, kI_lt_f, kI_le_t, kI_le_f, kI_eq_t, kI_eq_f, kL_lt_t, kL_lt_f, kL_le_t, kL_le_f, kL_eq_t, kL_eq_f, kI_m1, kI_m1', m1_m1, kI_n1, kI_n1', n1_add', eq_self, inb_t, kI_nat, kI_add, kI_mul, kI_sub, kI_div, kI_mod, kI_long, kL_add, kL_mul, kL_sub, kL_div, kL_mod, kL_int, n1_add, not_false_eq_true, not_true_eq_false, and_true, true_and, and_false, false_and, or_true, true_or, or_false, false_or, Nat.reduceEqDiff, IN, IM, wI, c1, c2, c3, and_self]
    · simp (disch := omega) only [↓nm_eq, ↓bd_x, bdx_s, ↓bx_x, bxx_r, bxx_l, ↓bn_x, bnx_r, chk_t, ↓reduceIte, q32, q64, kI_lt_t, kI_lt_f, kI_le_t, kI_le_f, kI_eq_t, kI_eq_f, kL_lt_t, kL_lt_f, kL_le_t, kL_le_f, kL_eq_t, kL_eq_f, kI_m1, kI_m1', m1_m1, kI_n1, kI_n1', n1_add', eq_self, inb_t, kI_nat, kI_add, kI_mul, kI_sub, kI_div, kI_mod, kI_long, kL_add, kL_mul, kL_sub, kL_div, kL_mod, kL_int, n1_add, not_false_eq_true, not_true_eq_false, and_true, true_and, and_false, false_and, or_true, true_or, or_false, false_or, Nat.reduceEqDiff, IN, IM, wI, c1, c2, and_false, and_true]
  · simp (disch := omega) only [↓nm_eq, ↓bd_x, bdx_s, ↓bx_x, bxx_r, bxx_l, ↓bn_x, bnx_r, chk_t, ↓reduceIte, q32, q64, kI_lt_t, kI_lt_f, kI_le_t, kI_le_f, kI_eq_t, kI_eq_f, kL_lt_t, kL_lt_f, kL_le_t, kL_le_f, kL_eq_t, kL_eq_f, kI_m1, kI_m1', m1_m1, kI_n1, kI_n1', n1_add', eq_self, inb_t, kI_nat, kI_add, kI_mul, kI_sub, kI_div, kI_mod, kI_long, kL_add, kL_mul, kL_sub, kL_div, kL_mod, kL_int, n1_add, not_false_eq_true, not_true_eq_false, and_true, true_and, and_false, false_and, or_true, true_or, or_false, false_or, Nat.reduceEqDiff, IN, IM, wI, c1, false_and]
def cA (v : Nat) : Nat := if v = 2 then 1 else if v = 3 then 2 else 0
theorem ev_partNumbers : Rf_arePartNumbers x1 x2 = some (if IN x1 1 20 ∧ IN x2 0 1000 then kI 1 else kI 0) := by
  unfold Rf_arePartNumbers Rf_arePartNumbers_28 Rf_arePartNumbers_29
  by_cases c1 : IN x1 1 20
  · by_cases c2 : IN x2 0 1000
    · simp (disch := omega) only [↓nm_eq, ↓bd_x, bdx_s, ↓bx_x, bxx_r, bxx_l, ↓bn_x, bnx_r, chk_t, ↓reduceIte, q32, q64, kI_lt_t, kI_lt_f, kI_le_t, kI_le_f, kI_eq_t, kI_eq_f, kL_lt_t, kL_lt_f, kL_le_t, kL_le_f, kL_eq_t, kL_eq_f, kI_m1, kI_m1', m1_m1, kI_n1, kI_n1', n1_add', eq_self, inb_t, kI_nat, kI_add, kI_mul, kI_sub, kI_div, kI_mod, kI_long, kL_add, kL_mul, kL_sub, kL_div, kL_mod, kL_int, n1_add, not_false_eq_true, not_true_eq_false, and_true, true_and, and_false, false_and, or_true, true_or, or_false, false_or, Nat.reduceEqDiff, IN, IM, iI, c1, c2, and_self, or_true]
    · simp (disch := omega) only [↓nm_eq, ↓bd_x, bdx_s, ↓bx_x, bxx_r, bxx_l, ↓bn_x, bnx_r, chk_t, ↓reduceIte, q32, q64, kI_lt_t, kI_lt_f, kI_le_t, kI_le_f, kI_eq_t, kI_eq_f, kL_lt_t, kL_lt_f, kL_le_t, kL_le_f, kL_eq_t, kL_eq_f, kI_m1, kI_m1', m1_m1, kI_n1, kI_n1', n1_add', eq_self, inb_t, kI_nat, kI_add, kI_mul, kI_sub, kI_div, kI_mod, kI_long, kL_add, kL_mul, kL_sub, kL_div, kL_mod, kL_int, n1_add, not_false_eq_true, not_true_eq_false, and_true, true_and, and_false, false_and, or_true, true_or, or_false, false_or, Nat.reduceEqDiff, IN, IM, iI, c1, c2, and_false, and_true, true_or]
  · simp (disch := omega) only [↓nm_eq, ↓bd_x, bdx_s, ↓bx_x, bxx_r, bxx_l, ↓bn_x, bnx_r, chk_t, ↓reduceIte, q32, q64, kI_lt_t, kI_lt_f, kI_le_t, kI_le_f, kI_eq_t, kI_eq_f, kL_lt_t, kL_lt_f, kL_le_t, kL_le_f, kL_eq_t, kL_eq_f, kI_m1, kI_m1', m1_m1, kI_n1, kI_n1', n1_add', eq_self, inb_t, kI_nat, kI_add, kI_mul, kI_sub, kI_div, kI_mod, kI_long, kL_add, kL_mul, kL_sub, kL_div, kL_mod, kL_int, n1_add, not_false_eq_true, not_true_eq_false, and_true, true_and, and_false, false_and, or_true, true_or, or_false, false_or, Nat.reduceEqDiff, IN, IM, iI, c1, false_and, true_or]
theorem ev_isPart {m : Nat → Int64} (hn : b.n ≤ 8) (hm : m 0 = kL b.n) : Rf_isPart m x1 = some (if IM x1 0 b.n then kI 1 else kI 0) := by
  unfold Rf_isPart
  have e := iM (x := x1) (a := 0) (n := b.n) (by omega) (by omega)
  simp only [nm_eq]
  rw [ev_parts hm, bd_s, q64, q32, e, bd_s, chk_true]
  by_cases c0 : IM x1 0 b.n
  · rw [if_pos c0]; exact Or.inr rfl
  · rw [if_neg c0]; exact Or.inl rfl
theorem ev_wAdd (hb : b.OK) {m : Nat → Int64} (hm : m 0 = kL b.n) : Rf_whyNoPart m x1 x2 = some (kI (cA (vAdd b x1 x2))) := by
  have hn := hb.1
  unfold Rf_whyNoPart Rf_whyNoPart_26 vAdd cA
  by_cases c1 : IN x1 1 20 ∧ IN x2 0 1000
  · by_cases c3 : b.n = 8
    · simp (disch := omega) only [↓nm_eq, ↓bd_x, bdx_s, ↓bx_x, bxx_r, bxx_l, ↓bn_x, bnx_r, chk_t, ↓reduceIte, q32, q64, kI_lt_t, kI_lt_f, kI_le_t, kI_le_f, kI_eq_t, kI_eq_f, kL_lt_t, kL_lt_f, kL_le_t, kL_le_f, kL_eq_t, kL_eq_f, kI_m1, kI_m1', m1_m1, kI_n1, kI_n1', n1_add', eq_self, inb_t, kI_nat, kI_add, kI_mul, kI_sub, kI_div, kI_mod, kI_long, kL_add, kL_mul, kL_sub, kL_div, kL_mod, kL_int, n1_add, not_false_eq_true, not_true_eq_false, and_true, true_and, and_false, false_and, or_true, true_or, or_false, false_or, Nat.reduceEqDiff, IN, IM, ev_partNumbers, ev_parts hm, c1, c3]
    · simp (disch := omega) only [↓nm_eq, ↓bd_x, bdx_s, ↓bx_x, bxx_r, bxx_l, ↓bn_x, bnx_r, chk_t, ↓reduceIte, q32, q64, kI_lt_t, kI_lt_f, kI_le_t, kI_le_f, kI_eq_t, kI_eq_f, kL_lt_t, kL_lt_f, kL_le_t, kL_le_f, kL_eq_t, kL_eq_f, kI_m1, kI_m1', m1_m1, kI_n1, kI_n1', n1_add', eq_self, inb_t, kI_nat, kI_add, kI_mul, kI_sub, kI_div, kI_mod, kI_long, kL_add, kL_mul, kL_sub, kL_div, kL_mod, kL_int, n1_add, not_false_eq_true, not_true_eq_false, and_true, true_and, and_false, false_and, or_true, true_or, or_false, false_or, Nat.reduceEqDiff, IN, IM, ev_partNumbers, ev_parts hm, c1, c3]
  · simp (disch := omega) only [↓nm_eq, ↓bd_x, bdx_s, ↓bx_x, bxx_r, bxx_l, ↓bn_x, bnx_r, chk_t, ↓reduceIte, q32, q64, kI_lt_t, kI_lt_f, kI_le_t, kI_le_f, kI_eq_t, kI_eq_f, kL_lt_t, kL_lt_f, kL_le_t, kL_le_f, kL_eq_t, kL_eq_f, kI_m1, kI_m1', m1_m1, kI_n1, kI_n1', n1_add', eq_self, inb_t, kI_nat, kI_add, kI_mul, kI_sub, kI_div, kI_mod, kI_long, kL_add, kL_mul, kL_sub, kL_div, kL_mod, kL_int, n1_add, not_false_eq_true, not_true_eq_false, and_true, true_and, and_false, false_and, or_true, true_or, or_false, false_or, Nat.reduceEqDiff, IN, IM, ev_partNumbers, c1]
theorem ev_wSet (hb : b.OK) {m : Nat → Int64} (hm : m 0 = kL b.n) : Rf_whyNotSet m x1 x2 x3 = some (kI (vSet b x1 x2 x3)) := by
  have hn := hb.1
  unfold Rf_whyNotSet Rf_whyNotSet_25 vSet
  by_cases c0 : IM x1 0 b.n
  · by_cases c1 : IN x2 1 20 ∧ IN x3 0 1000
    · simp (disch := omega) only [↓nm_eq, ↓bd_x, bdx_s, ↓bx_x, bxx_r, bxx_l, ↓bn_x, bnx_r, chk_t, ↓reduceIte, q32, q64, kI_lt_t, kI_lt_f, kI_le_t, kI_le_f, kI_eq_t, kI_eq_f, kL_lt_t, kL_lt_f, kL_le_t, kL_le_f, kL_eq_t, kL_eq_f, kI_m1, kI_m1', m1_m1, kI_n1, kI_n1', n1_add', eq_self, inb_t, kI_nat, kI_add, kI_mul, kI_sub, kI_div, kI_mod, kI_long, kL_add, kL_mul, kL_sub, kL_div, kL_mod, kL_int, n1_add, not_false_eq_true, not_true_eq_false, and_true, true_and, and_false, false_and, or_true, true_or, or_false, false_or, Nat.reduceEqDiff, IN, IM, ev_isPart hn hm, ev_partNumbers, c0, c1]
    · simp (disch := omega) only [↓nm_eq, ↓bd_x, bdx_s, ↓bx_x, bxx_r, bxx_l, ↓bn_x, bnx_r, chk_t, ↓reduceIte, q32, q64, kI_lt_t, kI_lt_f, kI_le_t, kI_le_f, kI_eq_t, kI_eq_f, kL_lt_t, kL_lt_f, kL_le_t, kL_le_f, kL_eq_t, kL_eq_f, kI_m1, kI_m1', m1_m1, kI_n1, kI_n1', n1_add', eq_self, inb_t, kI_nat, kI_add, kI_mul, kI_sub, kI_div, kI_mod, kI_long, kL_add, kL_mul, kL_sub, kL_div, kL_mod, kL_int, n1_add, not_false_eq_true, not_true_eq_false, and_true, true_and, and_false, false_and, or_true, true_or, or_false, false_or, Nat.reduceEqDiff, IN, IM, ev_isPart hn hm, ev_partNumbers, c0, c1]
  · simp (disch := omega) only [↓nm_eq, ↓bd_x, bdx_s, ↓bx_x, bxx_r, bxx_l, ↓bn_x, bnx_r, chk_t, ↓reduceIte, q32, q64, kI_lt_t, kI_lt_f, kI_le_t, kI_le_f, kI_eq_t, kI_eq_f, kL_lt_t, kL_lt_f, kL_le_t, kL_le_f, kL_eq_t, kL_eq_f, kI_m1, kI_m1', m1_m1, kI_n1, kI_n1', n1_add', eq_self, inb_t, kI_nat, kI_add, kI_mul, kI_sub, kI_div, kI_mod, kI_long, kL_add, kL_mul, kL_sub, kL_div, kL_mod, kL_int, n1_add, not_false_eq_true, not_true_eq_false, and_true, true_and, and_false, false_and, or_true, true_or, or_false, false_or, Nat.reduceEqDiff, IN, IM, ev_isPart hn hm, c0]
theorem ev_wSpl (hb : b.OK) {m : Nat → Int64} (hm : m 0 = kL b.n) (hℓ : ∀ k, k < b.n → m (1 + k) = kL (b.ln k)) : Rf_whyNotSplit m x1 x2 x3 = some (kI (vSpl b x1 x2 x3)) := by
  have hn := hb.1
  unfold Rf_whyNotSplit Rf_whyNotSplit_41 Rf_whyNotSplit_59 vSpl
  by_cases c0 : IM x1 0 b.n
  · obtain ⟨k, k1, k2, k3, k4⟩ := IM_nat c0
    have e1 := ev_isPart (x1 := x1) hn hm
    rw [if_pos c0] at e1
    subst k2
    have hl := hb.2.1 k k4
    have e2 := iML (x := x2) (a := 1) (n := b.ln k) (by omega) (by omega)
    rw [e1, bd_s, if_neg (by rw [q32_0, kI_eq (by omega) (by omega)]; omega), if_pos c0]
    simp only [nm_eq]
    rw [q32_1, kI_add, chk_true ((inb_kI (by omega)).mpr (by omega)), kI_nat k1, kI_nat (by omega), hℓ k k4, q64_1, e2, bd_s]
    by_cases c1 : IM x2 1 (b.ln k)
    · by_cases c2 : IN x3 0 1000
      · by_cases c3 : b.n = 8
        · simp (disch := omega) only [↓nm_eq, ↓bd_x, bdx_s, ↓bx_x, bxx_r, bxx_l, ↓bn_x, bnx_r, chk_t, ↓reduceIte, q32, q64, kI_lt_t, kI_lt_f, kI_le_t, kI_le_f, kI_eq_t, kI_eq_f, kL_lt_t, kL_lt_f, kL_le_t, kL_le_f, kL_eq_t, kL_eq_f, kI_m1, kI_m1', m1_m1, kI_n1, kI_n1', n1_add', eq_self, inb_t, kI_nat, kI_add, kI_mul, kI_sub, kI_div, kI_mod, kI_long, kL_add, kL_mul, kL_sub, kL_div, kL_mod, kL_int, n1_add, not_false_eq_true, not_true_eq_false, and_true, true_and, and_false, false_and, or_true, true_or, or_false, false_or, Nat.reduceEqDiff, IN, IM, iI, c1, c2, c3, and_self, ev_parts hm]
        · simp (disch := omega) only [↓nm_eq, ↓bd_x, bdx_s, ↓bx_x, bxx_r, bxx_l, ↓bn_x, bnx_r, chk_t, ↓reduceIte, q32, q64, kI_lt_t, kI_lt_f, kI_le_t, kI_le_f, kI_eq_t, kI_eq_f, kL_lt_t, kL_lt_f, kL_le_t, kL_le_f, kL_eq_t, kL_eq_f, kI_m1, kI_m1', m1_m1, kI_n1, kI_n1', n1_add', eq_self, inb_t, kI_nat, kI_add, kI_mul, kI_sub, kI_div, kI_mod, kI_long, kL_add, kL_mul, kL_sub, kL_div, kL_mod, kL_int, n1_add, not_false_eq_true, not_true_eq_false, and_true, true_and, and_false, false_and, or_true, true_or, or_false, false_or, Nat.reduceEqDiff, IN, IM, iI, c1, c2, c3, and_self, ev_parts hm]
      · simp (disch := omega) only [↓nm_eq, ↓bd_x, bdx_s, ↓bx_x, bxx_r, bxx_l, ↓bn_x, bnx_r, chk_t, ↓reduceIte, q32, q64, kI_lt_t, kI_lt_f, kI_le_t, kI_le_f, kI_eq_t, kI_eq_f, kL_lt_t, kL_lt_f, kL_le_t, kL_le_f, kL_eq_t, kL_eq_f, kI_m1, kI_m1', m1_m1, kI_n1, kI_n1', n1_add', eq_self, inb_t, kI_nat, kI_add, kI_mul, kI_sub, kI_div, kI_mod, kI_long, kL_add, kL_mul, kL_sub, kL_div, kL_mod, kL_int, n1_add, not_false_eq_true, not_true_eq_false, and_true, true_and, and_false, false_and, or_true, true_or, or_false, false_or, Nat.reduceEqDiff, IN, IM, iI, c1, c2, and_false, and_true]
    · simp (disch := omega) only [↓nm_eq, ↓bd_x, bdx_s, ↓bx_x, bxx_r, bxx_l, ↓bn_x, bnx_r, chk_t, ↓reduceIte, q32, q64, kI_lt_t, kI_lt_f, kI_le_t, kI_le_f, kI_eq_t, kI_eq_f, kL_lt_t, kL_lt_f, kL_le_t, kL_le_f, kL_eq_t, kL_eq_f, kI_m1, kI_m1', m1_m1, kI_n1, kI_n1', n1_add', eq_self, inb_t, kI_nat, kI_add, kI_mul, kI_sub, kI_div, kI_mod, kI_long, kL_add, kL_mul, kL_sub, kL_div, kL_mod, kL_int, n1_add, not_false_eq_true, not_true_eq_false, and_true, true_and, and_false, false_and, or_true, true_or, or_false, false_or, Nat.reduceEqDiff, IN, IM, iI, c1, false_and]
  · simp (disch := omega) only [↓nm_eq, ↓bd_x, bdx_s, ↓bx_x, bxx_r, bxx_l, ↓bn_x, bnx_r, chk_t, ↓reduceIte, q32, q64, kI_lt_t, kI_lt_f, kI_le_t, kI_le_f, kI_eq_t, kI_eq_f, kL_lt_t, kL_lt_f, kL_le_t, kL_le_f, kL_eq_t, kL_eq_f, kI_m1, kI_m1', m1_m1, kI_n1, kI_n1', n1_add', eq_self, inb_t, kI_nat, kI_add, kI_mul, kI_sub, kI_div, kI_mod, kI_long, kL_add, kL_mul, kL_sub, kL_div, kL_mod, kL_int, n1_add, not_false_eq_true, not_true_eq_false, and_true, true_and, and_false, false_and, or_true, true_or, or_false, false_or, Nat.reduceEqDiff, IN, IM, ev_isPart hn hm, c0]
theorem ev_wPul (hb : b.OK) {m : Nat → Int64} (hm : m 20 = kL b.np) : Rf_whyNoPulse m x1 x2 = some (kI (cA (vPul b x1 x2))) := by
  have hn : b.np ≤ 4 := hb.2.2.2.2.2.2.1
  unfold Rf_whyNoPulse Rf_whyNoPulse_24 Rf_whyNoPulse_47 vPul cA
  by_cases c1 : IN x1 0 100
  · by_cases c2 : IN x2 1 1000000
    · by_cases c3 : b.np = 4
      · simp (disch := omega) only [↓nm_eq, ↓bd_x, bdx_s, ↓bx_x, bxx_r, bxx_l, ↓bn_x, bnx_r, chk_t, ↓reduceIte, q32, q64, kI_lt_t, kI_lt_f, kI_le_t, kI_le_f, kI_eq_t, kI_eq_f, kL_lt_t, kL_lt_f, kL_le_t, kL_le_f, kL_eq_t, kL_eq_f, kI_m1, kI_m1', m1_m1, kI_n1, kI_n1', n1_add', eq_self, inb_t, kI_nat, kI_add, kI_mul, kI_sub, kI_div, kI_mod, kI_long, kL_add, kL_mul, kL_sub, kL_div, kL_mod, kL_int, n1_add, not_false_eq_true, not_true_eq_false, and_true, true_and, and_false, false_and, or_true, true_or, or_false, false_or, Nat.reduceEqDiff, IN, IM, iI, c1, c2, c3, and_self, hm]
      · simp (disch := omega) only [↓nm_eq, ↓bd_x, bdx_s, ↓bx_x, bxx_r, bxx_l, ↓bn_x, bnx_r, chk_t, ↓reduceIte, q32, q64, kI_lt_t, kI_lt_f, kI_le_t, kI_le_f, kI_eq_t, kI_eq_f, kL_lt_t, kL_lt_f, kL_le_t, kL_le_f, kL_eq_t, kL_eq_f, kI_m1, kI_m1', m1_m1, kI_n1, kI_n1', n1_add', eq_self, inb_t, kI_nat, kI_add, kI_mul, kI_sub, kI_div, kI_mod, kI_long, kL_add, kL_mul, kL_sub, kL_div, kL_mod, kL_int, n1_add, not_false_eq_true, not_true_eq_false, and_true, true_and, and_false, false_and, or_true, true_or, or_false, false_or, Nat.reduceEqDiff, IN, IM, iI, c1, c2, c3, and_self, hm]
    · simp (disch := omega) only [↓nm_eq, ↓bd_x, bdx_s, ↓bx_x, bxx_r, bxx_l, ↓bn_x, bnx_r, chk_t, ↓reduceIte, q32, q64, kI_lt_t, kI_lt_f, kI_le_t, kI_le_f, kI_eq_t, kI_eq_f, kL_lt_t, kL_lt_f, kL_le_t, kL_le_f, kL_eq_t, kL_eq_f, kI_m1, kI_m1', m1_m1, kI_n1, kI_n1', n1_add', eq_self, inb_t, kI_nat, kI_add, kI_mul, kI_sub, kI_div, kI_mod, kI_long, kL_add, kL_mul, kL_sub, kL_div, kL_mod, kL_int, n1_add, not_false_eq_true, not_true_eq_false, and_true, true_and, and_false, false_and, or_true, true_or, or_false, false_or, Nat.reduceEqDiff, IN, IM, iI, c1, c2, and_false, and_true]
  · simp (disch := omega) only [↓nm_eq, ↓bd_x, bdx_s, ↓bx_x, bxx_r, bxx_l, ↓bn_x, bnx_r, chk_t, ↓reduceIte, q32, q64, kI_lt_t, kI_lt_f, kI_le_t, kI_le_f, kI_eq_t, kI_eq_f, kL_lt_t, kL_lt_f, kL_le_t, kL_le_f, kL_eq_t, kL_eq_f, kI_m1, kI_m1', m1_m1, kI_n1, kI_n1', n1_add', eq_self, inb_t, kI_nat, kI_add, kI_mul, kI_sub, kI_div, kI_mod, kI_long, kL_add, kL_mul, kL_sub, kL_div, kL_mod, kL_int, n1_add, not_false_eq_true, not_true_eq_false, and_true, true_and, and_false, false_and, or_true, true_or, or_false, false_or, Nat.reduceEqDiff, IN, IM, iI, c1, false_and]
end VD
