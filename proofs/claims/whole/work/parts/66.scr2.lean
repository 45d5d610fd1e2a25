section SCR2
variable {L : Nat} {bt : Nat → Nat}
theorem skp_le {P : Nat → Prop} [DecidablePred P] {N k p : Nat} (hP : ∀ u, P u → u < N) (h : p ≤ N) : skp P k p ≤ N := by
  by_cases c : skp P k p ≤ N
  · exact c
  · exact absurd (hP N (skp_in P k p N h (by omega))) (Nat.lt_irrefl N)
theorem sks_le {p : Nat} (h : p ≤ L) : sks L bt p ≤ L := skp_le (fun u q => q.1) h
theorem skl_le {p : Nat} (h : p ≤ L) : skl L bt p ≤ L := skp_le (fun u q => q.1) h
theorem sks_ge (p : Nat) : p ≤ sks L bt p := (skp_ge _ _ _).1
theorem skl_ge (p : Nat) : p ≤ skl L bt p := (skp_ge _ _ _).1
theorem sks_sp (hL : SOK L bt) {p : Nat} (h : p ≤ L) : ¬ SP L bt (sks L bt p) := skp_out _ _ _ fun q => by have := q.1; have := hL.1; omega
theorem skl_le' (hL : SOK L bt) {p : Nat} (h : p ≤ L) : ¬ LTR L bt (skl L bt p) := skp_out _ _ _ fun q => by have := q.1; have := hL.1; omega
theorem dg_b (hL : SOK L bt) : ∀ k p v, p ≤ L → p ≤ (dg L bt k p v).1 ∧ (dg L bt k p v).1 ≤ L ∧ (dg L bt k p v).2 < (v + 1) * 10 ^ k := by
  intro k
  induction k with
  | zero => intro p v h; simp only [dg]; omega
  | succ k ih =>
    intro p v h
    simp only [dg]
    by_cases c : DG L bt p
    · rw [if_pos c]
      have h1 := c.1
      obtain ⟨a1, a2, a3⟩ := ih (p + 1) (10 * v + bt p - 48) (by omega)
      refine ⟨by omega, a2, Nat.lt_of_lt_of_le a3 ?_⟩
      have h2 := c.2.1
      have h3 := c.2.2
      rw [Nat.pow_succ, ← Nat.mul_assoc, Nat.mul_right_comm]
      exact Nat.mul_le_mul_right _ (by omega)
    · rw [if_neg c]
      refine ⟨Nat.le_refl _, h, ?_⟩
      have : 0 < 10 ^ (k + 1) := Nat.pow_pos (by decide)
      calc v < v + 1 := by omega
        _ ≤ (v + 1) * 10 ^ (k + 1) := Nat.le_mul_of_pos_right _ this
theorem wch_k : ∀ i, i < 8 → ∀ k, k < wL8 i → wch i k = kI (wB8 i k) := by decide
theorem wL8_b : ∀ i, i < 8 → 3 ≤ wL8 i ∧ wL8 i ≤ 5 := by decide
theorem cmdN_k : ∀ i, i < 8 → cmdN i = kI (cn8 i) := by decide
theorem cn8_b : ∀ i, i < 8 → cn8 i ≤ 3 := by decide
theorem wB8_b : ∀ i, i < 8 → ∀ k, k < wL8 i → wB8 i k ≤ 127 := by decide
theorem wlen_n : ∀ i, i < 8 → nI (wlen.getD i 0) = kI (wL8 i) := by decide
section CLS
variable {B : Nat → Int32} (hL : SOK L bt) (hB : ∀ u, u < L → B u = kI (bt u))
theorem ev_isSpelled (hL : SOK L bt) (hB : ∀ u, u < L → B u = kI (bt u)) {i p q : Nat} (hi : i < 8) (hpq : p ≤ q) (hq : q ≤ L) : Cf_K_isSpelled_s_bytes B i (kI p) (kI q) = some (if Wd bt i p q then kI 1 else kI 0) := by
  have h1 := hL.1
  have w1 := wL8_b i hi
  unfold Cf_K_isSpelled_s_bytes Cf_K_isSpelled_s_bytes_23
  by_cases c : q = p + wL8 i
  · have hlp : ∃ o, Cl_K_isSpelled_s_bytes_28 B i (kI p) FUEL (kI 0) = some o ∧ o = if Wd bt i p q then Sum.inr () else Sum.inl () := by
      refine loop_gen (L := fun fu (_ : Unit) x => Cl_K_isSpelled_s_bytes_28 B i (kI p) fu x) (fun j _ => ∀ k, k < j → bt (p + k) = wB8 i k) (fun o => o = if Wd bt i p q then Sum.inr () else Sum.inl ()) (wL8 i) (fun fu j _ hj hs => ?_) (fun fu _ hs => ⟨Sum.inr (), ?_, ?_⟩) FUEL 0 () (by have : FUEL = 4096 := rfl; omega) (by omega) (fun k hk => by omega)
      · have e1 := wch_k i hi j hj
        have e2 := wlen_n i hi
        have e3 := wB8_b i hi j hj
        have e4 := hL.2 (p + j) (by omega)
        have e5 : wlen.getD i 0 = wL8 i := rfl
        have e6 : (i < 8) = True := eq_true hi
        by_cases d : bt (p + j) = wB8 i j
        · refine Or.inr ⟨(), ?_, fun k hk => ?_⟩
          · simp only [Cl_K_isSpelled_s_bytes_28]
            rw [e2, e5]
            simp (disch := omega) only [↓nm_eq, ↓bd_x, bdx_s, ↓bx_x, bxx_r, bxx_l, ↓bn_x, bnx_r, chk_t, ↓reduceIte, q32, q64, kI_lt_t, kI_lt_f, kI_le_t, kI_le_f, kI_eq_t, kI_eq_f, kL_lt_t, kL_lt_f, kL_le_t, kL_le_f, kL_eq_t, kL_eq_f, kI_m1, kI_m1', m1_m1, kI_n1, kI_n1', n1_add', eq_self, inb_t, kI_nat, kI_add, kI_mul, kI_sub, kI_div, kI_mod, kI_long, kL_add, kL_mul, kL_sub, kL_div, kL_mod, kL_int, n1_add, not_false_eq_true, not_true_eq_false, and_true, true_and, and_false, false_and, or_true, true_or, or_false, false_or, Nat.reduceEqDiff, IN, IM, e6, e1, hB, d]
          · by_cases k1 : k = j
            · rw [k1]; exact d
            · exact hs k (by omega)
        · refine Or.inl ⟨Sum.inl (), ?_, ?_⟩
          · simp only [Cl_K_isSpelled_s_bytes_28]
            rw [e2, e5]
            simp (disch := omega) only [↓nm_eq, ↓bd_x, bdx_s, ↓bx_x, bxx_r, bxx_l, ↓bn_x, bnx_r, chk_t, ↓reduceIte, q32, q64, kI_lt_t, kI_lt_f, kI_le_t, kI_le_f, kI_eq_t, kI_eq_f, kL_lt_t, kL_lt_f, kL_le_t, kL_le_f, kL_eq_t, kL_eq_f, kI_m1, kI_m1', m1_m1, kI_n1, kI_n1', n1_add', eq_self, inb_t, kI_nat, kI_add, kI_mul, kI_sub, kI_div, kI_mod, kI_long, kL_add, kL_mul, kL_sub, kL_div, kL_mod, kL_int, n1_add, not_false_eq_true, not_true_eq_false, and_true, true_and, and_false, false_and, or_true, true_or, or_false, false_or, Nat.reduceEqDiff, IN, IM, e6, e1, hB]
          · rw [if_neg (fun w => d (w.2 j hj))]
      · have e2 := wlen_n i hi
        have e6 : (i < 8) = True := eq_true hi
        simp only [Cl_K_isSpelled_s_bytes_28]
        rw [e2]
        simp (disch := omega) only [↓nm_eq, ↓bd_x, bdx_s, ↓bx_x, bxx_r, bxx_l, ↓bn_x, bnx_r, chk_t, ↓reduceIte, q32, q64, kI_lt_t, kI_lt_f, kI_le_t, kI_le_f, kI_eq_t, kI_eq_f, kL_lt_t, kL_lt_f, kL_le_t, kL_le_f, kL_eq_t, kL_eq_f, kI_m1, kI_m1', m1_m1, kI_n1, kI_n1', n1_add', eq_self, inb_t, kI_nat, kI_add, kI_mul, kI_sub, kI_div, kI_mod, kI_long, kL_add, kL_mul, kL_sub, kL_div, kL_mod, kL_int, n1_add, not_false_eq_true, not_true_eq_false, and_true, true_and, and_false, false_and, or_true, true_or, or_false, false_or, Nat.reduceEqDiff, IN, IM, e6]
      · rw [if_pos ⟨c, hs⟩]
    obtain ⟨o, e, eo⟩ := hlp
    have e2 := wlen_n i hi
    have e6 : (i < 8) = True := eq_true hi
    have e7 : q - p = wL8 i := by omega
    rw [e2]
    by_cases w : Wd bt i p q
    · rw [if_pos w] at eo ⊢
      subst eo
      simp (disch := omega) only [↓nm_eq, ↓bd_x, bdx_s, ↓bx_x, bxx_r, bxx_l, ↓bn_x, bnx_r, chk_t, ↓reduceIte, q32, q64, kI_lt_t, kI_lt_f, kI_le_t, kI_le_f, kI_eq_t, kI_eq_f, kL_lt_t, kL_lt_f, kL_le_t, kL_le_f, kL_eq_t, kL_eq_f, kI_m1, kI_m1', m1_m1, kI_n1, kI_n1', n1_add', eq_self, inb_t, kI_nat, kI_add, kI_mul, kI_sub, kI_div, kI_mod, kI_long, kL_add, kL_mul, kL_sub, kL_div, kL_mod, kL_int, n1_add, not_false_eq_true, not_true_eq_false, and_true, true_and, and_false, false_and, or_true, true_or, or_false, false_or, Nat.reduceEqDiff, IN, IM, e6, e7, e]
    · rw [if_neg w] at eo ⊢
      subst eo
      simp (disch := omega) only [↓nm_eq, ↓bd_x, bdx_s, ↓bx_x, bxx_r, bxx_l, ↓bn_x, bnx_r, chk_t, ↓reduceIte, q32, q64, kI_lt_t, kI_lt_f, kI_le_t, kI_le_f, kI_eq_t, kI_eq_f, kL_lt_t, kL_lt_f, kL_le_t, kL_le_f, kL_eq_t, kL_eq_f, kI_m1, kI_m1', m1_m1, kI_n1, kI_n1', n1_add', eq_self, inb_t, kI_nat, kI_add, kI_mul, kI_sub, kI_div, kI_mod, kI_long, kL_add, kL_mul, kL_sub, kL_div, kL_mod, kL_int, n1_add, not_false_eq_true, not_true_eq_false, and_true, true_and, and_false, false_and, or_true, true_or, or_false, false_or, Nat.reduceEqDiff, IN, IM, e6, e7, e]
  · have e2 := wlen_n i hi
    have e6 : (i < 8) = True := eq_true hi
    have e7 : ¬ q - p = wL8 i := by omega
    rw [e2, if_neg (show ¬ Wd bt i p q from fun w => c w.1)]
    simp (disch := omega) only [↓nm_eq, ↓bd_x, bdx_s, ↓bx_x, bxx_r, bxx_l, ↓bn_x, bnx_r, chk_t, ↓reduceIte, q32, q64, kI_lt_t, kI_lt_f, kI_le_t, kI_le_f, kI_eq_t, kI_eq_f, kL_lt_t, kL_lt_f, kL_le_t, kL_le_f, kL_eq_t, kL_eq_f, kI_m1, kI_m1', m1_m1, kI_n1, kI_n1', n1_add', eq_self, inb_t, kI_nat, kI_add, kI_mul, kI_sub, kI_div, kI_mod, kI_long, kL_add, kL_mul, kL_sub, kL_div, kL_mod, kL_int, n1_add, not_false_eq_true, not_true_eq_false, and_true, true_and, and_false, false_and, or_true, true_or, or_false, false_or, Nat.reduceEqDiff, IN, IM, e6, e7]
theorem ev_spelled (hL : SOK L bt) (hB : ∀ u, u < L → B u = kI (bt u)) {p q : Nat} (hpq : p ≤ q) (hq : q ≤ L) : Cf_K_spelled_s_bytes B (kI p) (kI q) = some (wi bt p q) := by
  have h1 := hL.1
  have hl : ∀ k i fu, i + k = 8 → k < fu → ∃ o, Cl_K_spelled_s_bytes_2 B (kI p) (kI q) fu (kI i) = some o ∧ o = match fw (fun i => Wd bt i p q) k i with | none => Sum.inr () | some κ => Sum.inl (kI κ) := by
    intro k
    induction k with
    | zero =>
      intro i fu a1 a2
      obtain ⟨g, rfl⟩ : ∃ g, fu = g + 1 := ⟨fu - 1, by omega⟩
      exact ⟨Sum.inr (), by simp only [Cl_K_spelled_s_bytes_2]; simp (disch := omega) only [↓nm_eq, ↓bd_x, bdx_s, ↓bx_x, bxx_r, bxx_l, ↓bn_x, bnx_r, chk_t, ↓reduceIte, q32, q64, kI_lt_t, kI_lt_f, kI_le_t, kI_le_f, kI_eq_t, kI_eq_f, kL_lt_t, kL_lt_f, kL_le_t, kL_le_f, kL_eq_t, kL_eq_f, kI_m1, kI_m1', m1_m1, kI_n1, kI_n1', n1_add', eq_self, inb_t, kI_nat, kI_add, kI_mul, kI_sub, kI_div, kI_mod, kI_long, kL_add, kL_mul, kL_sub, kL_div, kL_mod, kL_int, n1_add, not_false_eq_true, not_true_eq_false, and_true, true_and, and_false, false_and, or_true, true_or, or_false, false_or, Nat.reduceEqDiff, IN, IM], rfl⟩
    | succ k ih =>
      intro i fu a1 a2
      obtain ⟨g, rfl⟩ : ∃ g, fu = g + 1 := ⟨fu - 1, by omega⟩
      have e := ev_isSpelled hL hB (show i < 8 by omega) hpq hq
      have e6 : (i < 8) = True := eq_true (by omega)
      simp only [Cl_K_spelled_s_bytes_2, fw]
      by_cases w : Wd bt i p q
      · rw [if_pos w] at e ⊢
        exact ⟨Sum.inl (kI i), by simp (disch := omega) only [↓nm_eq, ↓bd_x, bdx_s, ↓bx_x, bxx_r, bxx_l, ↓bn_x, bnx_r, chk_t, ↓reduceIte, q32, q64, kI_lt_t, kI_lt_f, kI_le_t, kI_le_f, kI_eq_t, kI_eq_f, kL_lt_t, kL_lt_f, kL_le_t, kL_le_f, kL_eq_t, kL_eq_f, kI_m1, kI_m1', m1_m1, kI_n1, kI_n1', n1_add', eq_self, inb_t, kI_nat, kI_add, kI_mul, kI_sub, kI_div, kI_mod, kI_long, kL_add, kL_mul, kL_sub, kL_div, kL_mod, kL_int, n1_add, not_false_eq_true, not_true_eq_false, and_true, true_and, and_false, false_and, or_true, true_or, or_false, false_or, Nat.reduceEqDiff, IN, IM, e, e6], rfl⟩
      · rw [if_neg w] at e ⊢
        obtain ⟨o, o1, o2⟩ := ih (i + 1) g (by omega) (by omega)
        exact ⟨o, by simp (disch := omega) only [↓nm_eq, ↓bd_x, bdx_s, ↓bx_x, bxx_r, bxx_l, ↓bn_x, bnx_r, chk_t, ↓reduceIte, q32, q64, kI_lt_t, kI_lt_f, kI_le_t, kI_le_f, kI_eq_t, kI_eq_f, kL_lt_t, kL_lt_f, kL_le_t, kL_le_f, kL_eq_t, kL_eq_f, kI_m1, kI_m1', m1_m1, kI_n1, kI_n1', n1_add', eq_self, inb_t, kI_nat, kI_add, kI_mul, kI_sub, kI_div, kI_mod, kI_long, kL_add, kL_mul, kL_sub, kL_div, kL_mod, kL_int, n1_add, not_false_eq_true, not_true_eq_false, and_true, true_and, and_false, false_and, or_true, true_or, or_false, false_or, Nat.reduceEqDiff, IN, IM, e, e6, o1], o2⟩
  obtain ⟨o, e, eo⟩ := hl 8 0 FUEL rfl (by have : FUEL = 4096 := rfl; omega)
  unfold Cf_K_spelled_s_bytes
  rw [q32_0, e, bd_s, eo]
  show _ = some (fw (fun i => Wd bt i p q) 8 0)
  cases hw : fw (fun i => Wd bt i p q) 8 0 with
  | none => rfl
  | some κ =>
    have := (wi_lt hw).1
    simp (disch := omega) only [↓nm_eq, ↓bd_x, bdx_s, ↓bx_x, bxx_r, bxx_l, ↓bn_x, bnx_r, chk_t, ↓reduceIte, q32, q64, kI_lt_t, kI_lt_f, kI_le_t, kI_le_f, kI_eq_t, kI_eq_f, kL_lt_t, kL_lt_f, kL_le_t, kL_le_f, kL_eq_t, kL_eq_f, kI_m1, kI_m1', m1_m1, kI_n1, kI_n1', n1_add', eq_self, inb_t, kI_nat, kI_add, kI_mul, kI_sub, kI_div, kI_mod, kI_long, kL_add, kL_mul, kL_sub, kL_div, kL_mod, kL_int, n1_add, not_false_eq_true, not_true_eq_false, and_true, true_and, and_false, false_and, or_true, true_or, or_false, false_or, Nat.reduceEqDiff, IN, IM]
theorem ev_digits (hL : SOK L bt) (hB : ∀ u, u < L → B u = kI (bt u)) {x1 : Int32} : ∀ k p v fu, p ≤ L → k ≤ 6 → k < fu → Cl_C_readNumber_scr_34 (kI L) B x1 fu (kI p) (kI v) (kI (6 - k)) = some (kI (dg L bt k p v).1, kI (dg L bt k p v).2) := by
  have h1 := hL.1
  intro k
  induction k with
  | zero =>
    intro p v fu a0 a1 a2
    obtain ⟨g, rfl⟩ : ∃ g, fu = g + 1 := ⟨fu - 1, by omega⟩
    simp only [Cl_C_readNumber_scr_34, dg]
    simp (disch := omega) only [↓nm_eq, ↓bd_x, bdx_s, ↓bx_x, bxx_r, bxx_l, ↓bn_x, bnx_r, chk_t, ↓reduceIte, q32, q64, kI_lt_t, kI_lt_f, kI_le_t, kI_le_f, kI_eq_t, kI_eq_f, kL_lt_t, kL_lt_f, kL_le_t, kL_le_f, kL_eq_t, kL_eq_f, kI_m1, kI_m1', m1_m1, kI_n1, kI_n1', n1_add', eq_self, inb_t, kI_nat, kI_add, kI_mul, kI_sub, kI_div, kI_mod, kI_long, kL_add, kL_mul, kL_sub, kL_div, kL_mod, kL_int, n1_add, not_false_eq_true, not_true_eq_false, and_true, true_and, and_false, false_and, or_true, true_or, or_false, false_or, Nat.reduceEqDiff, IN, IM]
  | succ k ih =>
    intro p v fu a0 a1 a2
    obtain ⟨g, rfl⟩ : ∃ g, fu = g + 1 := ⟨fu - 1, by omega⟩
    have e := ev_isDigit hL hB (p := p) (by omega)
    simp only [Cl_C_readNumber_scr_34, dg]
    by_cases c : DG L bt p
    · rw [if_pos c] at e ⊢
      have e2 := ev_bh hL hB (p := p) (by omega)
      rw [if_pos c.1] at e2
      have c1 := c.1
      have c2 := c.2.1
      have c3 := c.2.2
      have e3 : 6 - (k + 1) + 1 = 6 - k := by omega
      simp (disch := omega) only [↓nm_eq, ↓bd_x, bdx_s, ↓bx_x, bxx_r, bxx_l, ↓bn_x, bnx_r, chk_t, ↓reduceIte, q32, q64, kI_lt_t, kI_lt_f, kI_le_t, kI_le_f, kI_eq_t, kI_eq_f, kL_lt_t, kL_lt_f, kL_le_t, kL_le_f, kL_eq_t, kL_eq_f, kI_m1, kI_m1', m1_m1, kI_n1, kI_n1', n1_add', eq_self, inb_t, kI_nat, kI_add, kI_mul, kI_sub, kI_div, kI_mod, kI_long, kL_add, kL_mul, kL_sub, kL_div, kL_mod, kL_int, n1_add, not_false_eq_true, not_true_eq_false, and_true, true_and, and_false, false_and, or_true, true_or, or_false, false_or, Nat.reduceEqDiff, IN, IM, e, e2, e3]
      exact ih (p + 1) (10 * v + bt p - 48) g (by omega) (by omega) (by omega)
    · rw [if_neg c] at e ⊢
      simp (disch := omega) only [↓nm_eq, ↓bd_x, bdx_s, ↓bx_x, bxx_r, bxx_l, ↓bn_x, bnx_r, chk_t, ↓reduceIte, q32, q64, kI_lt_t, kI_lt_f, kI_le_t, kI_le_f, kI_eq_t, kI_eq_f, kL_lt_t, kL_lt_f, kL_le_t, kL_le_f, kL_eq_t, kL_eq_f, kI_m1, kI_m1', m1_m1, kI_n1, kI_n1', n1_add', eq_self, inb_t, kI_nat, kI_add, kI_mul, kI_sub, kI_div, kI_mod, kI_long, kL_add, kL_mul, kL_sub, kL_div, kL_mod, kL_int, n1_add, not_false_eq_true, not_true_eq_false, and_true, true_and, and_false, false_and, or_true, true_or, or_false, false_or, Nat.reduceEqDiff, IN, IM, e]
theorem ev_readNumber (hL : SOK L bt) (hB : ∀ u, u < L → B u = kI (bt u)) {p j : Nat} (hp : p ≤ L) (hj : j < 3) {ft : Int32} {N : Nat → Int32} : Cf_C_readNumber_scr (kI L) (kI p) ft B N (kI j) = some (if SP L bt p then (if DG L bt (sks L bt p) then (kI (dg L bt 6 (sks L bt p) 0).1, ft, upd N j (kI (dg L bt 6 (sks L bt p) 0).2), kI 1) else (kI (sks L bt p), kI (sks L bt p), N, kI 0)) else (kI p, kI p, N, kI 0)) := by
  have h1 := hL.1
  have e1 := ev_bh hL hB (p := p) (by omega)
  have s1 := sks_le (bt := bt) hp
  unfold Cf_C_readNumber_scr Cf_C_readNumber_scr_76 Cf_C_failHere_scr
  rw [e1, bd_s]
  by_cases c : SP L bt p
  · have e2 := ev_skipSpaces hL hB hp
    have e3 := ev_isDigit hL hB (p := sks L bt p) (by omega)
    have e4 := ev_digits hL hB (x1 := kI j) 6 (sks L bt p) 0 FUEL s1 (by omega) (by have : FUEL = 4096 := rfl; omega)
    rw [Nat.sub_self] at e4
    rw [if_pos c.1, if_pos c, c.2]
    by_cases d : DG L bt (sks L bt p)
    · rw [if_pos d] at e3 ⊢
      simp (disch := omega) only [↓nm_eq, ↓bd_x, bdx_s, ↓bx_x, bxx_r, bxx_l, ↓bn_x, bnx_r, chk_t, ↓reduceIte, q32, q64, kI_lt_t, kI_lt_f, kI_le_t, kI_le_f, kI_eq_t, kI_eq_f, kL_lt_t, kL_lt_f, kL_le_t, kL_le_f, kL_eq_t, kL_eq_f, kI_m1, kI_m1', m1_m1, kI_n1, kI_n1', n1_add', eq_self, inb_t, kI_nat, kI_add, kI_mul, kI_sub, kI_div, kI_mod, kI_long, kL_add, kL_mul, kL_sub, kL_div, kL_mod, kL_int, n1_add, not_false_eq_true, not_true_eq_false, and_true, true_and, and_false, false_and, or_true, true_or, or_false, false_or, Nat.reduceEqDiff, IN, IM, e2, e3, e4]
    · rw [if_neg d] at e3 ⊢
      simp (disch := omega) only [↓nm_eq, ↓bd_x, bdx_s, ↓bx_x, bxx_r, bxx_l, ↓bn_x, bnx_r, chk_t, ↓reduceIte, q32, q64, kI_lt_t, kI_lt_f, kI_le_t, kI_le_f, kI_eq_t, kI_eq_f, kL_lt_t, kL_lt_f, kL_le_t, kL_le_f, kL_eq_t, kL_eq_f, kI_m1, kI_m1', m1_m1, kI_n1, kI_n1', n1_add', eq_self, inb_t, kI_nat, kI_add, kI_mul, kI_sub, kI_div, kI_mod, kI_long, kL_add, kL_mul, kL_sub, kL_div, kL_mod, kL_int, n1_add, not_false_eq_true, not_true_eq_false, and_true, true_and, and_false, false_and, or_true, true_or, or_false, false_or, Nat.reduceEqDiff, IN, IM, e2, e3]
  · rw [if_neg c]
    by_cases d : p < L
    · have d2 : bt p ≠ 32 := fun q => c ⟨d, q⟩
      have d3 := hL.2 p d
      rw [if_pos d]
      simp (disch := omega) only [↓nm_eq, ↓bd_x, bdx_s, ↓bx_x, bxx_r, bxx_l, ↓bn_x, bnx_r, chk_t, ↓reduceIte, q32, q64, kI_lt_t, kI_lt_f, kI_le_t, kI_le_f, kI_eq_t, kI_eq_f, kL_lt_t, kL_lt_f, kL_le_t, kL_le_f, kL_eq_t, kL_eq_f, kI_m1, kI_m1', m1_m1, kI_n1, kI_n1', n1_add', eq_self, inb_t, kI_nat, kI_add, kI_mul, kI_sub, kI_div, kI_mod, kI_long, kL_add, kL_mul, kL_sub, kL_div, kL_mod, kL_int, n1_add, not_false_eq_true, not_true_eq_false, and_true, true_and, and_false, false_and, or_true, true_or, or_false, false_or, Nat.reduceEqDiff, IN, IM]
    · rw [if_neg d]
      simp (disch := omega) only [↓nm_eq, ↓bd_x, bdx_s, ↓bx_x, bxx_r, bxx_l, ↓bn_x, bnx_r, chk_t, ↓reduceIte, q32, q64, kI_lt_t, kI_lt_f, kI_le_t, kI_le_f, kI_eq_t, kI_eq_f, kL_lt_t, kL_lt_f, kL_le_t, kL_le_f, kL_eq_t, kL_eq_f, kI_m1, kI_m1', m1_m1, kI_n1, kI_n1', n1_add', eq_self, inb_t, kI_nat, kI_add, kI_mul, kI_sub, kI_div, kI_mod, kI_long, kL_add, kL_mul, kL_sub, kL_div, kL_mod, kL_int, n1_add, not_false_eq_true, not_true_eq_false, and_true, true_and, and_false, false_and, or_true, true_or, or_false, false_or, Nat.reduceEqDiff, IN, IM]
theorem ev_readRest (hL : SOK L bt) (hB : ∀ u, u < L → B u = kI (bt u)) {κ : Nat} (hκ : κ < 8) : ∀ c j p fu (ft : Int32) (N : Nat → Int32), j + c = cn8 κ → c < fu → p ≤ L → ∃ pos fl N' b, (bd (Cl_C_readCommand_scr_57 (kI L) κ B fu (kI p) ft N (kI j)) fun o9 => match o9 with
      | .inl (o_s_position_57, o_s_fault_57, o_s_numbers_57) =>
        chk ((0 : Int32) = 0 ∨ (0 : Int32) = 1) <| some (κ, o_s_position_57, o_s_fault_57, o_s_numbers_57, (0 : Int32))
      | .inr (o_s_position_57, o_s_fault_57, o_s_numbers_57) =>
        Cf_C_readCommand_scr_89 (kI L) κ o_s_position_57 o_s_fault_57 B o_s_numbers_57) = some (κ, kI pos, fl, N', b) ∧ pos ≤ L ∧ p ≤ pos ∧ (∀ u, u < j → N' u = N u) ∧ (match rns L bt c p with
      | (r, none) => b = kI 0 ∧ fl = kI r
      | (r, some l) => if sks L bt r < L ∧ bt (sks L bt r) = 59 then pos = sks L bt r + 1 ∧ b = kI 1 ∧ fl = ft ∧ l.length = c ∧ ∀ u, u < c → N' (j + u) = kI (l.getD u 0) else b = kI 0 ∧ fl = kI (sks L bt r)) := by
  have h1 := hL.1
  have n1 := cn8_b κ hκ
  have n2 := cmdN_k κ hκ
  have e6 : (κ < 8) = True := eq_true hκ
  intro c
  induction c with
  | zero =>
    intro j p fu ft N a1 a2 a3
    obtain ⟨g, rfl⟩ : ∃ g, fu = g + 1 := ⟨fu - 1, by omega⟩
    have s1 := sks_le (bt := bt) a3
    have s2 := sks_ge (L := L) (bt := bt) p
    have e1 := ev_skipSpaces hL hB a3
    have e2 := ev_bh hL hB (p := sks L bt p) (by omega)
    simp only [Cl_C_readCommand_scr_57, rns, Cf_C_readCommand_scr_89, Cf_C_failHere_scr]
    rw [n2]
    by_cases d : sks L bt p < L ∧ bt (sks L bt p) = 59
    · rw [if_pos d.1, d.2] at e2
      refine ⟨sks L bt p + 1, ft, N, kI 1, by simp (disch := omega) only [↓nm_eq, ↓bd_x, bdx_s, ↓bx_x, bxx_r, bxx_l, ↓bn_x, bnx_r, chk_t, ↓reduceIte, q32, q64, kI_lt_t, kI_lt_f, kI_le_t, kI_le_f, kI_eq_t, kI_eq_f, kL_lt_t, kL_lt_f, kL_le_t, kL_le_f, kL_eq_t, kL_eq_f, kI_m1, kI_m1', m1_m1, kI_n1, kI_n1', n1_add', eq_self, inb_t, kI_nat, kI_add, kI_mul, kI_sub, kI_div, kI_mod, kI_long, kL_add, kL_mul, kL_sub, kL_div, kL_mod, kL_int, n1_add, not_false_eq_true, not_true_eq_false, and_true, true_and, and_false, false_and, or_true, true_or, or_false, false_or, Nat.reduceEqDiff, IN, IM, e6, e1, e2], by omega, by omega, fun _ _ => rfl, ?_⟩
      rw [if_pos d]
      exact ⟨rfl, rfl, rfl, rfl, fun u hu => by omega⟩
    · refine ⟨sks L bt p, kI (sks L bt p), N, kI 0, ?_, by omega, by omega, fun _ _ => rfl, ?_⟩
      · by_cases d1 : sks L bt p < L
        · have d2 : ¬ bt (sks L bt p) = 59 := fun q => d ⟨d1, q⟩
          have d3 := hL.2 _ d1
          rw [if_pos d1] at e2
          simp (disch := omega) only [↓nm_eq, ↓bd_x, bdx_s, ↓bx_x, bxx_r, bxx_l, ↓bn_x, bnx_r, chk_t, ↓reduceIte, q32, q64, kI_lt_t, kI_lt_f, kI_le_t, kI_le_f, kI_eq_t, kI_eq_f, kL_lt_t, kL_lt_f, kL_le_t, kL_le_f, kL_eq_t, kL_eq_f, kI_m1, kI_m1', m1_m1, kI_n1, kI_n1', n1_add', eq_self, inb_t, kI_nat, kI_add, kI_mul, kI_sub, kI_div, kI_mod, kI_long, kL_add, kL_mul, kL_sub, kL_div, kL_mod, kL_int, n1_add, not_false_eq_true, not_true_eq_false, and_true, true_and, and_false, false_and, or_true, true_or, or_false, false_or, Nat.reduceEqDiff, IN, IM, e6, e1, e2]
        · rw [if_neg d1] at e2
          simp (disch := omega) only [↓nm_eq, ↓bd_x, bdx_s, ↓bx_x, bxx_r, bxx_l, ↓bn_x, bnx_r, chk_t, ↓reduceIte, q32, q64, kI_lt_t, kI_lt_f, kI_le_t, kI_le_f, kI_eq_t, kI_eq_f, kL_lt_t, kL_lt_f, kL_le_t, kL_le_f, kL_eq_t, kL_eq_f, kI_m1, kI_m1', m1_m1, kI_n1, kI_n1', n1_add', eq_self, inb_t, kI_nat, kI_add, kI_mul, kI_sub, kI_div, kI_mod, kI_long, kL_add, kL_mul, kL_sub, kL_div, kL_mod, kL_int, n1_add, not_false_eq_true, not_true_eq_false, and_true, true_and, and_false, false_and, or_true, true_or, or_false, false_or, Nat.reduceEqDiff, IN, IM, e6, e1, e2]
      · rw [if_neg d]
        exact ⟨rfl, rfl⟩
  | succ c ih =>
    intro j p fu ft N a1 a2 a3
    obtain ⟨g, rfl⟩ : ∃ g, fu = g + 1 := ⟨fu - 1, by omega⟩
    have e1 := ev_readNumber hL hB (p := p) (j := j) a3 (by omega) (ft := ft) (N := N)
    have s1 := sks_le (bt := bt) a3
    have s2 := sks_ge (L := L) (bt := bt) p
    simp only [Cl_C_readCommand_scr_57, rns]
    rw [n2]
    unfold rn
    by_cases c1 : SP L bt p
    · rw [if_pos c1] at e1 ⊢
      by_cases c2 : DG L bt (sks L bt p)
      · rw [if_pos c2] at e1 ⊢
        have dgb := dg_b hL 6 (sks L bt p) 0 s1
        obtain ⟨pos, fl, N', b, i1, i2, i3, i4, i5⟩ := ih (j + 1) (dg L bt 6 (sks L bt p) 0).1 g ft (upd N j (kI (dg L bt 6 (sks L bt p) 0).2)) (by omega) (by omega) dgb.2.1
        refine ⟨pos, fl, N', b, ?_, i2, by omega, fun u hu => ?_, ?_⟩
        · simp (disch := omega) only [↓nm_eq, ↓bd_x, bdx_s, ↓bx_x, bxx_r, bxx_l, ↓bn_x, bnx_r, chk_t, ↓reduceIte, q32, q64, kI_lt_t, kI_lt_f, kI_le_t, kI_le_f, kI_eq_t, kI_eq_f, kL_lt_t, kL_lt_f, kL_le_t, kL_le_f, kL_eq_t, kL_eq_f, kI_m1, kI_m1', m1_m1, kI_n1, kI_n1', n1_add', eq_self, inb_t, kI_nat, kI_add, kI_mul, kI_sub, kI_div, kI_mod, kI_long, kL_add, kL_mul, kL_sub, kL_div, kL_mod, kL_int, n1_add, not_false_eq_true, not_true_eq_false, and_true, true_and, and_false, false_and, or_true, true_or, or_false, false_or, Nat.reduceEqDiff, IN, IM, e6, e1]
          exact i1
        · rw [i4 u (by omega), up32_ne (by omega)]
        · by_cases c3 : DG L bt (dg L bt 6 (sks L bt p) 0).1
          · rw [if_pos c3]
            have nsp : ¬ SP L bt (dg L bt 6 (sks L bt p) 0).1 := fun q => by have := q.2; have := c3.2.1; omega
            cases c with
            | zero =>
              simp only [rns] at i5
              have e5 : sks L bt (dg L bt 6 (sks L bt p) 0).1 = (dg L bt 6 (sks L bt p) 0).1 := skp_no _ _ _ nsp
              rw [e5, if_neg (fun q => by have := q.2; have := c3.2.2; omega)] at i5
              exact i5
            | succ c =>
              simp only [rns] at i5
              unfold rn at i5
              rw [if_neg nsp] at i5
              exact i5
          · rw [if_neg c3]
            (try dsimp only)
            have hN' := i4 j (by omega)
            rw [up32_at] at hN'
            cases hr : rns L bt c (dg L bt 6 (sks L bt p) 0).1 with
            | mk r o =>
              rw [hr] at i5
              cases o with
              | none => exact i5
              | some l =>
                (try dsimp only at i5 ⊢)
                by_cases c4 : sks L bt r < L ∧ bt (sks L bt r) = 59
                · rw [if_pos c4] at i5 ⊢
                  obtain ⟨k1, k2, k3, k4, k5⟩ := i5
                  refine ⟨k1, k2, k3, by rw [List.length_cons, k4], fun u hu => ?_⟩
                  cases u with
                  | zero => exact hN'
                  | succ u =>
                    rw [show j + (u + 1) = j + 1 + u from by omega, k5 u (by omega)]
                    rfl
                · rw [if_neg c4] at i5 ⊢
                  exact i5
      · rw [if_neg c2] at e1 ⊢
        refine ⟨sks L bt p, kI (sks L bt p), N, kI 0, ?_, s1, s2, fun _ _ => rfl, rfl, rfl⟩
        simp (disch := omega) only [↓nm_eq, ↓bd_x, bdx_s, ↓bx_x, bxx_r, bxx_l, ↓bn_x, bnx_r, chk_t, ↓reduceIte, q32, q64, kI_lt_t, kI_lt_f, kI_le_t, kI_le_f, kI_eq_t, kI_eq_f, kL_lt_t, kL_lt_f, kL_le_t, kL_le_f, kL_eq_t, kL_eq_f, kI_m1, kI_m1', m1_m1, kI_n1, kI_n1', n1_add', eq_self, inb_t, kI_nat, kI_add, kI_mul, kI_sub, kI_div, kI_mod, kI_long, kL_add, kL_mul, kL_sub, kL_div, kL_mod, kL_int, n1_add, not_false_eq_true, not_true_eq_false, and_true, true_and, and_false, false_and, or_true, true_or, or_false, false_or, Nat.reduceEqDiff, IN, IM, e6, e1]
    · rw [if_neg c1] at e1 ⊢
      refine ⟨p, kI p, N, kI 0, ?_, a3, Nat.le_refl _, fun _ _ => rfl, rfl, rfl⟩
      simp (disch := omega) only [↓nm_eq, ↓bd_x, bdx_s, ↓bx_x, bxx_r, bxx_l, ↓bn_x, bnx_r, chk_t, ↓reduceIte, q32, q64, kI_lt_t, kI_lt_f, kI_le_t, kI_le_f, kI_eq_t, kI_eq_f, kL_lt_t, kL_lt_f, kL_le_t, kL_le_f, kL_eq_t, kL_eq_f, kI_m1, kI_m1', m1_m1, kI_n1, kI_n1', n1_add', eq_self, inb_t, kI_nat, kI_add, kI_mul, kI_sub, kI_div, kI_mod, kI_long, kL_add, kL_mul, kL_sub, kL_div, kL_mod, kL_int, n1_add, not_false_eq_true, not_true_eq_false, and_true, true_and, and_false, false_and, or_true, true_or, or_false, false_or, Nat.reduceEqDiff, IN, IM, e6, e1]
theorem rn_b (hL : SOK L bt) {p : Nat} (hp : p ≤ L) : p ≤ (rn L bt p).1 ∧ (rn L bt p).1 ≤ L := by
  have s1 := sks_le (bt := bt) hp
  have s2 := sks_ge (L := L) (bt := bt) p
  have dgb := dg_b hL 6 (sks L bt p) 0 s1
  unfold rn
  split
  · split
    · split
      · (try dsimp only); omega
      · (try dsimp only); omega
    · (try dsimp only); omega
  · (try dsimp only); omega
theorem rns_b (hL : SOK L bt) : ∀ c p, p ≤ L → p ≤ (rns L bt c p).1 ∧ (rns L bt c p).1 ≤ L := by
  intro c
  induction c with
  | zero => intro p hp; exact ⟨Nat.le_refl _, hp⟩
  | succ c ih =>
    intro p hp
    have h1 := rn_b hL hp
    simp only [rns]
    cases hr : rn L bt p with
    | mk q o =>
      rw [hr] at h1
      cases o with
      | none => exact h1
      | some v =>
        (try dsimp only at h1 ⊢)
        have h2 := ih q h1.2
        cases hr2 : rns L bt c q with
        | mk r o2 =>
          rw [hr2] at h2
          cases o2 with
          | none => (try dsimp only at h2 ⊢); omega
          | some l => (try dsimp only at h2 ⊢); omega
theorem ev_readCommand (hL : SOK L bt) (hB : ∀ u, u < L → B u = kI (bt u)) {p κ0 : Nat} (hp : p ≤ L) {ft : Int32} {N : Nat → Int32} : ∃ κ pos fl N' b, Cf_C_readCommand_scr (kI L) κ0 (kI p) ft B N = some (κ, kI pos, fl, N', b) ∧ pos ≤ L ∧ (if L ≤ sks L bt p then b = kI 0 ∧ fl = ft else match rc L bt (sks L bt p) with
      | (r, none) => b = kI 0 ∧ fl = kI r ∧ r ≤ L
      | (r, some c) => pos = r ∧ b = kI 1 ∧ fl = ft ∧ κ = c.1 ∧ κ < 8 ∧ sks L bt p + 4 ≤ r ∧ c.2.length = cn8 κ ∧ ∀ u, u < cn8 κ → N' u = kI (c.2.getD u 0)) := by
  have h1 := hL.1
  have s1 := sks_le (bt := bt) hp
  have s2 := sks_ge (L := L) (bt := bt) p
  have e1 := ev_skipSpaces hL hB hp
  unfold Cf_C_readCommand_scr
  rw [e1, bd_s]
  by_cases c1 : L ≤ sks L bt p
  · refine ⟨κ0, sks L bt p, ft, N, kI 0, by simp (disch := omega) only [↓nm_eq, ↓bd_x, bdx_s, ↓bx_x, bxx_r, bxx_l, ↓bn_x, bnx_r, chk_t, ↓reduceIte, q32, q64, kI_lt_t, kI_lt_f, kI_le_t, kI_le_f, kI_eq_t, kI_eq_f, kL_lt_t, kL_lt_f, kL_le_t, kL_le_f, kL_eq_t, kL_eq_f, kI_m1, kI_m1', m1_m1, kI_n1, kI_n1', n1_add', eq_self, inb_t, kI_nat, kI_add, kI_mul, kI_sub, kI_div, kI_mod, kI_long, kL_add, kL_mul, kL_sub, kL_div, kL_mod, kL_int, n1_add, not_false_eq_true, not_true_eq_false, and_true, true_and, and_false, false_and, or_true, true_or, or_false, false_or, Nat.reduceEqDiff, IN, IM], s1, ?_⟩
    rw [if_pos c1]
    exact ⟨rfl, rfl⟩
  · rw [if_pos (show kI (sks L bt p) < kI L from by rw [kI_lt (by omega) (by omega)]; omega)]
    have e2 := ev_skipLetters hL hB s1
    have l1 := skl_le (bt := bt) s1
    have l2 := skl_ge (L := L) (bt := bt) (sks L bt p)
    have e3 := ev_spelled hL hB l2 l1
    rw [e2, bd_s, e3, bd_s]
    cases hw : wi bt (sks L bt p) (skl L bt (sks L bt p)) with
    | none =>
      refine ⟨κ0, skl L bt (sks L bt p), kI (sks L bt p), N, kI 0, by simp (disch := omega) only [↓nm_eq, ↓bd_x, bdx_s, ↓bx_x, bxx_r, bxx_l, ↓bn_x, bnx_r, chk_t, ↓reduceIte, q32, q64, kI_lt_t, kI_lt_f, kI_le_t, kI_le_f, kI_eq_t, kI_eq_f, kL_lt_t, kL_lt_f, kL_le_t, kL_le_f, kL_eq_t, kL_eq_f, kI_m1, kI_m1', m1_m1, kI_n1, kI_n1', n1_add', eq_self, inb_t, kI_nat, kI_add, kI_mul, kI_sub, kI_div, kI_mod, kI_long, kL_add, kL_mul, kL_sub, kL_div, kL_mod, kL_int, n1_add, not_false_eq_true, not_true_eq_false, and_true, true_and, and_false, false_and, or_true, true_or, or_false, false_or, Nat.reduceEqDiff, IN, IM], l1, ?_⟩
      rw [if_neg c1]
      unfold rc
      rw [hw]
      exact ⟨rfl, rfl, s1⟩
    | some κ =>
      obtain ⟨w1, w2⟩ := wi_lt hw
      have w3 := wL8_b κ w1
      have w4 := w2.1
      obtain ⟨pos, fl, N', b, i1, i2, i3, i4, i5⟩ := ev_readRest hL hB w1 (cn8 κ) 0 (skl L bt (sks L bt p)) FUEL ft N (by omega) (by have := cn8_b κ w1; have : FUEL = 4096 := rfl; omega) l1
      refine ⟨κ, pos, fl, N', b, i1, i2, ?_⟩
      have hb := rns_b hL (cn8 κ) _ l1
      rw [if_neg c1]
      unfold rc
      rw [hw]
      (try dsimp only)
      cases hr : rns L bt (cn8 κ) (skl L bt (sks L bt p)) with
      | mk r o =>
        rw [hr] at i5 hb
        cases o with
        | none => exact ⟨i5.1, i5.2, hb.2⟩
        | some l =>
          (try dsimp only at i5 hb ⊢)
          have q1 := sks_le (bt := bt) hb.2
          have q2 := sks_ge (L := L) (bt := bt) r
          by_cases c4 : sks L bt r < L ∧ bt (sks L bt r) = 59
          · rw [if_pos c4] at i5 ⊢
            obtain ⟨k1, k2, k3, k4, k5⟩ := i5
            exact ⟨k1, k2, k3, rfl, w1, by omega, k4, fun u hu => by rw [← k5 u hu, Nat.zero_add]⟩
          · rw [if_neg c4] at i5 ⊢
            exact ⟨i5.1, i5.2, q1⟩
theorem ev_firstFaultLoop (hL : SOK L bt) (hB : ∀ u, u < L → B u = kI (bt u)) : ∀ k p κ0 i fu (N : Nat → Int32), L ≤ p + 4 * k → k + i ≤ 40 → 2 + k < fu → p ≤ L → ∃ κ pos N', Cl_C_firstFault_scr_8 (kI L) B fu κ0 (kI p) (-1) N (kI 1) (kI i) = some (κ, pos, (match ra L bt (k + 1) p with | .inl f => kI f | .inr _ => -1), N') ∧ ∀ f, ra L bt (k + 1) p = .inl f → f ≤ L := by
  have h1 := hL.1
  intro k
  induction k with
  | zero =>
    intro p κ0 i fu N a1 a2 a3 a4
    obtain ⟨g, rfl⟩ : ∃ g, fu = g + 2 := ⟨fu - 2, by omega⟩
    obtain ⟨κ, pos, fl, N', b, i1, i2, i3⟩ := ev_readCommand hL hB a4 (κ0 := κ0) (ft := -1) (N := N)
    have s2 := sks_ge (L := L) (bt := bt) p
    rw [if_pos (by omega)] at i3
    obtain ⟨b1, b2⟩ := i3
    subst b1
    subst b2
    simp only [ra]
    rw [if_pos (by omega)]
    refine ⟨κ, kI pos, N', ?_, fun f hf => by cases hf⟩
    simp only [Cl_C_firstFault_scr_8]
    rw [i1]
    simp (disch := omega) only [↓nm_eq, ↓bd_x, bdx_s, ↓bx_x, bxx_r, bxx_l, ↓bn_x, bnx_r, chk_t, ↓reduceIte, q32, q64, kI_lt_t, kI_lt_f, kI_le_t, kI_le_f, kI_eq_t, kI_eq_f, kL_lt_t, kL_lt_f, kL_le_t, kL_le_f, kL_eq_t, kL_eq_f, kI_m1, kI_m1', m1_m1, kI_n1, kI_n1', n1_add', eq_self, inb_t, kI_nat, kI_add, kI_mul, kI_sub, kI_div, kI_mod, kI_long, kL_add, kL_mul, kL_sub, kL_div, kL_mod, kL_int, n1_add, not_false_eq_true, not_true_eq_false, and_true, true_and, and_false, false_and, or_true, true_or, or_false, false_or, Nat.reduceEqDiff, IN, IM]
  | succ k ih =>
    intro p κ0 i fu N a1 a2 a3 a4
    obtain ⟨g, rfl⟩ : ∃ g, fu = g + 1 := ⟨fu - 1, by omega⟩
    obtain ⟨κ, pos, fl, N', b, i1, i2, i3⟩ := ev_readCommand hL hB a4 (κ0 := κ0) (ft := -1) (N := N)
    have s2 := sks_ge (L := L) (bt := bt) p
    rw [show ra L bt (k + 1 + 1) p = if L ≤ sks L bt p then .inr [] else match rc L bt (sks L bt p) with | (r, none) => .inl r | (r, some c) => match ra L bt (k + 1) r with | .inl f => .inl f | .inr l => .inr (c :: l) from rfl]
    by_cases c1 : L ≤ sks L bt p
    · rw [if_pos c1] at i3 ⊢
      obtain ⟨b1, b2⟩ := i3
      subst b1
      subst b2
      obtain ⟨g', rfl⟩ : ∃ g', g = g' + 1 := ⟨g - 1, by omega⟩
      refine ⟨κ, kI pos, N', ?_, fun f hf => by cases hf⟩
      simp only [Cl_C_firstFault_scr_8]
      rw [i1]
      simp (disch := omega) only [↓nm_eq, ↓bd_x, bdx_s, ↓bx_x, bxx_r, bxx_l, ↓bn_x, bnx_r, chk_t, ↓reduceIte, q32, q64, kI_lt_t, kI_lt_f, kI_le_t, kI_le_f, kI_eq_t, kI_eq_f, kL_lt_t, kL_lt_f, kL_le_t, kL_le_f, kL_eq_t, kL_eq_f, kI_m1, kI_m1', m1_m1, kI_n1, kI_n1', n1_add', eq_self, inb_t, kI_nat, kI_add, kI_mul, kI_sub, kI_div, kI_mod, kI_long, kL_add, kL_mul, kL_sub, kL_div, kL_mod, kL_int, n1_add, not_false_eq_true, not_true_eq_false, and_true, true_and, and_false, false_and, or_true, true_or, or_false, false_or, Nat.reduceEqDiff, IN, IM]
    · rw [if_neg c1] at i3 ⊢
      cases hr : rc L bt (sks L bt p) with
      | mk r o =>
        rw [hr] at i3
        cases o with
        | none =>
          (try dsimp only at i3 ⊢)
          obtain ⟨b1, b2, b3⟩ := i3
          subst b1
          subst b2
          obtain ⟨g', rfl⟩ : ∃ g', g = g' + 1 := ⟨g - 1, by omega⟩
          refine ⟨κ, kI pos, N', ?_, fun f hf => by injection hf with hf; omega⟩
          simp only [Cl_C_firstFault_scr_8]
          rw [i1]
          simp (disch := omega) only [↓nm_eq, ↓bd_x, bdx_s, ↓bx_x, bxx_r, bxx_l, ↓bn_x, bnx_r, chk_t, ↓reduceIte, q32, q64, kI_lt_t, kI_lt_f, kI_le_t, kI_le_f, kI_eq_t, kI_eq_f, kL_lt_t, kL_lt_f, kL_le_t, kL_le_f, kL_eq_t, kL_eq_f, kI_m1, kI_m1', m1_m1, kI_n1, kI_n1', n1_add', eq_self, inb_t, kI_nat, kI_add, kI_mul, kI_sub, kI_div, kI_mod, kI_long, kL_add, kL_mul, kL_sub, kL_div, kL_mod, kL_int, n1_add, not_false_eq_true, not_true_eq_false, and_true, true_and, and_false, false_and, or_true, true_or, or_false, false_or, Nat.reduceEqDiff, IN, IM]
        | some c =>
          (try dsimp only at i3 ⊢)
          obtain ⟨b1, b2, b3, b4, b5, b6, b7, b8⟩ := i3
          subst b1
          subst b2
          subst b3
          obtain ⟨κ', pos', N'', j1, j2⟩ := ih pos κ (i + 1) g N' (by omega) (by omega) (by omega) i2
          cases hra : ra L bt (k + 1) pos with
          | inl f =>
            rw [hra] at j1
            refine ⟨κ', pos', N'', ?_, fun f' hf => by injection hf with hf; rw [← hf]; exact j2 f hra⟩
            simp only [Cl_C_firstFault_scr_8]
            rw [i1]
            simp (disch := omega) only [↓nm_eq, ↓bd_x, bdx_s, ↓bx_x, bxx_r, bxx_l, ↓bn_x, bnx_r, chk_t, ↓reduceIte, q32, q64, kI_lt_t, kI_lt_f, kI_le_t, kI_le_f, kI_eq_t, kI_eq_f, kL_lt_t, kL_lt_f, kL_le_t, kL_le_f, kL_eq_t, kL_eq_f, kI_m1, kI_m1', m1_m1, kI_n1, kI_n1', n1_add', eq_self, inb_t, kI_nat, kI_add, kI_mul, kI_sub, kI_div, kI_mod, kI_long, kL_add, kL_mul, kL_sub, kL_div, kL_mod, kL_int, n1_add, not_false_eq_true, not_true_eq_false, and_true, true_and, and_false, false_and, or_true, true_or, or_false, false_or, Nat.reduceEqDiff, IN, IM]
            exact j1
          | inr l =>
            rw [hra] at j1
            refine ⟨κ', pos', N'', ?_, fun f' hf => by cases hf⟩
            simp only [Cl_C_firstFault_scr_8]
            rw [i1]
            simp (disch := omega) only [↓nm_eq, ↓bd_x, bdx_s, ↓bx_x, bxx_r, bxx_l, ↓bn_x, bnx_r, chk_t, ↓reduceIte, q32, q64, kI_lt_t, kI_lt_f, kI_le_t, kI_le_f, kI_eq_t, kI_eq_f, kL_lt_t, kL_lt_f, kL_le_t, kL_le_f, kL_eq_t, kL_eq_f, kI_m1, kI_m1', m1_m1, kI_n1, kI_n1', n1_add', eq_self, inb_t, kI_nat, kI_add, kI_mul, kI_sub, kI_div, kI_mod, kI_long, kL_add, kL_mul, kL_sub, kL_div, kL_mod, kL_int, n1_add, not_false_eq_true, not_true_eq_false, and_true, true_and, and_false, false_and, or_true, true_or, or_false, false_or, Nat.reduceEqDiff, IN, IM]
            exact j1
end CLS
end SCR2
