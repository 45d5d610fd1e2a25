section SCR5
variable {L : Nat} {bt : Nat → Nat} {B : Nat → Int32} (hL : SOK L bt) (hB : ∀ u, u < L → B u = kI (bt u))
theorem ev_readCommandR (hL : SOK L bt) (hB : ∀ u, u < L → B u = kI (bt u)) {p c : Nat} (hp : p ≤ L) (hc : 4 * c + 3 < 120) {D : Nat → Int32} : ∃ D', Rf_readCommand B (kI L) (kI p) (kI c) D = some (match rc L bt p with
      | (r, none) => (kI r, kI c, D', kI 0)
      | (r, some _) => (kI r, kI (c + 1), D', kI 1)) ∧ (∀ u, u < 4 * c → D' u = D u) ∧ (rc L bt p).1 ≤ L ∧ ∀ r κ l, rc L bt p = (r, some (κ, l)) → κ < 8 ∧ p + 4 ≤ r ∧ D' (4 * c) = kI (kd κ) ∧ l.length = cn8 κ ∧ ∀ u, u < cn8 κ → D' (4 * c + 1 + u) = kI (l.getD u 0) := by
  have h1 := hL.1
  obtain ⟨D1, e1, q1, q2⟩ := ev_readWordR hL hB hp (row := 4 * c) (by omega) (D := D)
  have l1 := skl_le (bt := bt) hp
  have l2 := skl_ge (L := L) (bt := bt) p
  cases hw : wi bt p (skl L bt p) with
  | none =>
    have e1' : Rf_readWord B (kI L) (kI p) D (kI (4 * c)) = some (kI p, D1, kI 0) := by rw [e1, hw]
    have hrc : rc L bt p = (p, none) := by
      unfold rc
      rw [hw]
    rw [hrc]
    refine ⟨D1, ?_, fun u hu => q1 u (by omega), hp, fun r κ l h => by injection h with h1 h2; cases h2⟩
    unfold Rf_readCommand
    simp (disch := omega) only [↓nm_eq, ↓bd_x, bdx_s, ↓bx_x, bxx_r, bxx_l, ↓bn_x, bnx_r, chk_t, ↓reduceIte, q32, q64, kI_lt_t, kI_lt_f, kI_le_t, kI_le_f, kI_eq_t, kI_eq_f, kL_lt_t, kL_lt_f, kL_le_t, kL_le_f, kL_eq_t, kL_eq_f, kI_m1, kI_m1', m1_m1, kI_n1, kI_n1', n1_add', eq_self, inb_t, kI_nat, kI_add, kI_mul, kI_sub, kI_div, kI_mod, kI_long, kL_add, kL_mul, kL_sub, kL_div, kL_mod, kL_int, n1_add, not_false_eq_true, not_true_eq_false, and_true, true_and, and_false, false_and, or_true, true_or, or_false, false_or, Nat.reduceEqDiff, IN, IM, e1']
  | some κ =>
    obtain ⟨w1, w2⟩ := wi_lt hw
    have w3 := wL8_b κ w1
    have w4 := w2.1
    have hD := q2 κ hw
    have nb := cn8_b κ w1
    obtain ⟨D2, e2, p1, p2⟩ := ev_numbersR hL hB (row := 4 * c) (cN := cn8 κ) (by omega) nb (cn8 κ) 0 (skl L bt p) FUEL D1 (by omega) (by have : FUEL = 4096 := rfl; omega) l1
    have hb := rns_b hL (cn8 κ) _ l1
    have e1' : Rf_readWord B (kI L) (kI p) D (kI (4 * c)) = some (kI (skl L bt p), D1, kI 1) := by rw [e1, hw]
    have hsel : Rf_readCommand B (kI L) (kI p) (kI c) D = Rf_readCommand_52 B (kI L) (kI (skl L bt p)) (kI c) D1 (kI (4 * c)) (kI (cn8 κ)) := by
      unfold Rf_readCommand
      obtain h | h | h | h | h | h | h | h : κ = 0 ∨ κ = 1 ∨ κ = 2 ∨ κ = 3 ∨ κ = 4 ∨ κ = 5 ∨ κ = 6 ∨ κ = 7 := by omega
      · have hD' : D1 (4 * c) = kI 2 := by rw [hD, h]; rfl
        have hn : cn8 κ = 2 := by rw [h]; rfl
        rw [hn]
        simp (disch := omega) only [↓nm_eq, ↓bd_x, bdx_s, ↓bx_x, bxx_r, bxx_l, ↓bn_x, bnx_r, chk_t, ↓reduceIte, q32, q64, kI_lt_t, kI_lt_f, kI_le_t, kI_le_f, kI_eq_t, kI_eq_f, kL_lt_t, kL_lt_f, kL_le_t, kL_le_f, kL_eq_t, kL_eq_f, kI_m1, kI_m1', m1_m1, kI_n1, kI_n1', n1_add', eq_self, inb_t, kI_nat, kI_add, kI_mul, kI_sub, kI_div, kI_mod, kI_long, kL_add, kL_mul, kL_sub, kL_div, kL_mod, kL_int, n1_add, not_false_eq_true, not_true_eq_false, and_true, true_and, and_false, false_and, or_true, true_or, or_false, false_or, Nat.reduceEqDiff, IN, IM, e1', hD']
      · have hD' : D1 (4 * c) = kI 0 := by rw [hD, h]; rfl
        have hn : cn8 κ = 3 := by rw [h]; rfl
        rw [hn]
        simp (disch := omega) only [↓nm_eq, ↓bd_x, bdx_s, ↓bx_x, bxx_r, bxx_l, ↓bn_x, bnx_r, chk_t, ↓reduceIte, q32, q64, kI_lt_t, kI_lt_f, kI_le_t, kI_le_f, kI_eq_t, kI_eq_f, kL_lt_t, kL_lt_f, kL_le_t, kL_le_f, kL_eq_t, kL_eq_f, kI_m1, kI_m1', m1_m1, kI_n1, kI_n1', n1_add', eq_self, inb_t, kI_nat, kI_add, kI_mul, kI_sub, kI_div, kI_mod, kI_long, kL_add, kL_mul, kL_sub, kL_div, kL_mod, kL_int, n1_add, not_false_eq_true, not_true_eq_false, and_true, true_and, and_false, false_and, or_true, true_or, or_false, false_or, Nat.reduceEqDiff, IN, IM, e1', hD']
      · have hD' : D1 (4 * c) = kI 4 := by rw [hD, h]; rfl
        have hn : cn8 κ = 1 := by rw [h]; rfl
        rw [hn]
        simp (disch := omega) only [↓nm_eq, ↓bd_x, bdx_s, ↓bx_x, bxx_r, bxx_l, ↓bn_x, bnx_r, chk_t, ↓reduceIte, q32, q64, kI_lt_t, kI_lt_f, kI_le_t, kI_le_f, kI_eq_t, kI_eq_f, kL_lt_t, kL_lt_f, kL_le_t, kL_le_f, kL_eq_t, kL_eq_f, kI_m1, kI_m1', m1_m1, kI_n1, kI_n1', n1_add', eq_self, inb_t, kI_nat, kI_add, kI_mul, kI_sub, kI_div, kI_mod, kI_long, kL_add, kL_mul, kL_sub, kL_div, kL_mod, kL_int, n1_add, not_false_eq_true, not_true_eq_false, and_true, true_and, and_false, false_and, or_true, true_or, or_false, false_or, Nat.reduceEqDiff, IN, IM, e1', hD']
      · have hD' : D1 (4 * c) = kI 1 := by rw [hD, h]; rfl
        have hn : cn8 κ = 3 := by rw [h]; rfl
        rw [hn]
        simp (disch := omega) only [↓nm_eq, ↓bd_x, bdx_s, ↓bx_x, bxx_r, bxx_l, ↓bn_x, bnx_r, chk_t, ↓reduceIte, q32, q64, kI_lt_t, kI_lt_f, kI_le_t, kI_le_f, kI_eq_t, kI_eq_f, kL_lt_t, kL_lt_f, kL_le_t, kL_le_f, kL_eq_t, kL_eq_f, kI_m1, kI_m1', m1_m1, kI_n1, kI_n1', n1_add', eq_self, inb_t, kI_nat, kI_add, kI_mul, kI_sub, kI_div, kI_mod, kI_long, kL_add, kL_mul, kL_sub, kL_div, kL_mod, kL_int, n1_add, not_false_eq_true, not_true_eq_false, and_true, true_and, and_false, false_and, or_true, true_or, or_false, false_or, Nat.reduceEqDiff, IN, IM, e1', hD']
      · have hD' : D1 (4 * c) = kI 3 := by rw [hD, h]; rfl
        have hn : cn8 κ = 2 := by rw [h]; rfl
        rw [hn]
        simp (disch := omega) only [↓nm_eq, ↓bd_x, bdx_s, ↓bx_x, bxx_r, bxx_l, ↓bn_x, bnx_r, chk_t, ↓reduceIte, q32, q64, kI_lt_t, kI_lt_f, kI_le_t, kI_le_f, kI_eq_t, kI_eq_f, kL_lt_t, kL_lt_f, kL_le_t, kL_le_f, kL_eq_t, kL_eq_f, kI_m1, kI_m1', m1_m1, kI_n1, kI_n1', n1_add', eq_self, inb_t, kI_nat, kI_add, kI_mul, kI_sub, kI_div, kI_mod, kI_long, kL_add, kL_mul, kL_sub, kL_div, kL_mod, kL_int, n1_add, not_false_eq_true, not_true_eq_false, and_true, true_and, and_false, false_and, or_true, true_or, or_false, false_or, Nat.reduceEqDiff, IN, IM, e1', hD']
      · have hD' : D1 (4 * c) = kI 5 := by rw [hD, h]; rfl
        have hn : cn8 κ = 0 := by rw [h]; rfl
        rw [hn]
        simp (disch := omega) only [↓nm_eq, ↓bd_x, bdx_s, ↓bx_x, bxx_r, bxx_l, ↓bn_x, bnx_r, chk_t, ↓reduceIte, q32, q64, kI_lt_t, kI_lt_f, kI_le_t, kI_le_f, kI_eq_t, kI_eq_f, kL_lt_t, kL_lt_f, kL_le_t, kL_le_f, kL_eq_t, kL_eq_f, kI_m1, kI_m1', m1_m1, kI_n1, kI_n1', n1_add', eq_self, inb_t, kI_nat, kI_add, kI_mul, kI_sub, kI_div, kI_mod, kI_long, kL_add, kL_mul, kL_sub, kL_div, kL_mod, kL_int, n1_add, not_false_eq_true, not_true_eq_false, and_true, true_and, and_false, false_and, or_true, true_or, or_false, false_or, Nat.reduceEqDiff, IN, IM, e1', hD']
      · have hD' : D1 (4 * c) = kI 6 := by rw [hD, h]; rfl
        have hn : cn8 κ = 0 := by rw [h]; rfl
        rw [hn]
        simp (disch := omega) only [↓nm_eq, ↓bd_x, bdx_s, ↓bx_x, bxx_r, bxx_l, ↓bn_x, bnx_r, chk_t, ↓reduceIte, q32, q64, kI_lt_t, kI_lt_f, kI_le_t, kI_le_f, kI_eq_t, kI_eq_f, kL_lt_t, kL_lt_f, kL_le_t, kL_le_f, kL_eq_t, kL_eq_f, kI_m1, kI_m1', m1_m1, kI_n1, kI_n1', n1_add', eq_self, inb_t, kI_nat, kI_add, kI_mul, kI_sub, kI_div, kI_mod, kI_long, kL_add, kL_mul, kL_sub, kL_div, kL_mod, kL_int, n1_add, not_false_eq_true, not_true_eq_false, and_true, true_and, and_false, false_and, or_true, true_or, or_false, false_or, Nat.reduceEqDiff, IN, IM, e1', hD']
      · have hD' : D1 (4 * c) = kI 7 := by rw [hD, h]; rfl
        have hn : cn8 κ = 0 := by rw [h]; rfl
        rw [hn]
        simp (disch := omega) only [↓nm_eq, ↓bd_x, bdx_s, ↓bx_x, bxx_r, bxx_l, ↓bn_x, bnx_r, chk_t, ↓reduceIte, q32, q64, kI_lt_t, kI_lt_f, kI_le_t, kI_le_f, kI_eq_t, kI_eq_f, kL_lt_t, kL_lt_f, kL_le_t, kL_le_f, kL_eq_t, kL_eq_f, kI_m1, kI_m1', m1_m1, kI_n1, kI_n1', n1_add', eq_self, inb_t, kI_nat, kI_add, kI_mul, kI_sub, kI_div, kI_mod, kI_long, kL_add, kL_mul, kL_sub, kL_div, kL_mod, kL_int, n1_add, not_false_eq_true, not_true_eq_false, and_true, true_and, and_false, false_and, or_true, true_or, or_false, false_or, Nat.reduceEqDiff, IN, IM, e1', hD']
    rw [hsel]
    unfold Rf_readCommand_52
    rw [q32_0, e2, bd_s]
    have hD2 := p1 (4 * c) (by omega)
    rw [hD] at hD2
    cases hr : rns L bt (cn8 κ) (skl L bt p) with
    | mk r o =>
      rw [hr] at hb
      cases o with
      | none =>
        have hrc : rc L bt p = (r, none) := by
          unfold rc
          rw [hw]
          (try dsimp only)
          rw [hr]
        rw [hrc]
        refine ⟨D2, ?_, fun u hu => (p1 u (by omega)).trans (q1 u (by omega)), hb.2, fun r κ l h => by injection h with h1 h2; cases h2⟩
        simp (disch := omega) only [↓nm_eq, ↓bd_x, bdx_s, ↓bx_x, bxx_r, bxx_l, ↓bn_x, bnx_r, chk_t, ↓reduceIte, q32, q64, kI_lt_t, kI_lt_f, kI_le_t, kI_le_f, kI_eq_t, kI_eq_f, kL_lt_t, kL_lt_f, kL_le_t, kL_le_f, kL_eq_t, kL_eq_f, kI_m1, kI_m1', m1_m1, kI_n1, kI_n1', n1_add', eq_self, inb_t, kI_nat, kI_add, kI_mul, kI_sub, kI_div, kI_mod, kI_long, kL_add, kL_mul, kL_sub, kL_div, kL_mod, kL_int, n1_add, not_false_eq_true, not_true_eq_false, and_true, true_and, and_false, false_and, or_true, true_or, or_false, false_or, Nat.reduceEqDiff, IN, IM]
      | some l =>
        (try dsimp only at hb)
        have s1 := sks_le (bt := bt) hb.2
        have s2 := sks_ge (L := L) (bt := bt) r
        have e3 := ev_spacesR hL hB hb.2
        have e4 := ev_hereR hL hB (p := sks L bt r) (by omega)
        obtain ⟨k1, k2⟩ := p2 r l hr
        (try dsimp only)
        rw [e3, bd_s]
        (try dsimp only)
        rw [e4, bd_s]
        by_cases c4 : sks L bt r < L ∧ bt (sks L bt r) = 59
        · have hrc : rc L bt p = (sks L bt r + 1, some (κ, l)) := by
            unfold rc
            rw [hw]
            (try dsimp only)
            rw [hr]
            (try dsimp only)
            rw [if_pos c4]
          rw [hrc]
          refine ⟨D2, ?_, fun u hu => (p1 u (by omega)).trans (q1 u (by omega)), c4.1, fun r' κ' l' h => ?_⟩
          · rw [if_pos c4.1, c4.2]
            simp (disch := omega) only [↓nm_eq, ↓bd_x, bdx_s, ↓bx_x, bxx_r, bxx_l, ↓bn_x, bnx_r, chk_t, ↓reduceIte, q32, q64, kI_lt_t, kI_lt_f, kI_le_t, kI_le_f, kI_eq_t, kI_eq_f, kL_lt_t, kL_lt_f, kL_le_t, kL_le_f, kL_eq_t, kL_eq_f, kI_m1, kI_m1', m1_m1, kI_n1, kI_n1', n1_add', eq_self, inb_t, kI_nat, kI_add, kI_mul, kI_sub, kI_div, kI_mod, kI_long, kL_add, kL_mul, kL_sub, kL_div, kL_mod, kL_int, n1_add, not_false_eq_true, not_true_eq_false, and_true, true_and, and_false, false_and, or_true, true_or, or_false, false_or, Nat.reduceEqDiff, IN, IM]
          · injection h with h1 h2
            injection h2 with h2
            injection h2 with h2 h3
            subst h2
            subst h3
            exact ⟨w1, by omega, hD2, k1, fun u hu => by rw [← k2 u hu, Nat.add_zero]⟩
        · have hrc : rc L bt p = (sks L bt r, none) := by
            unfold rc
            rw [hw]
            (try dsimp only)
            rw [hr]
            (try dsimp only)
            rw [if_neg c4]
          rw [hrc]
          refine ⟨D2, ?_, fun u hu => (p1 u (by omega)).trans (q1 u (by omega)), s1, fun r κ l h => by injection h with h1 h2; cases h2⟩
          by_cases d1 : sks L bt r < L
          · have d2 : ¬ bt (sks L bt r) = 59 := fun q => c4 ⟨d1, q⟩
            have d3 := hL.2 _ d1
            rw [if_pos d1]
            simp (disch := omega) only [↓nm_eq, ↓bd_x, bdx_s, ↓bx_x, bxx_r, bxx_l, ↓bn_x, bnx_r, chk_t, ↓reduceIte, q32, q64, kI_lt_t, kI_lt_f, kI_le_t, kI_le_f, kI_eq_t, kI_eq_f, kL_lt_t, kL_lt_f, kL_le_t, kL_le_f, kL_eq_t, kL_eq_f, kI_m1, kI_m1', m1_m1, kI_n1, kI_n1', n1_add', eq_self, inb_t, kI_nat, kI_add, kI_mul, kI_sub, kI_div, kI_mod, kI_long, kL_add, kL_mul, kL_sub, kL_div, kL_mod, kL_int, n1_add, not_false_eq_true, not_true_eq_false, and_true, true_and, and_false, false_and, or_true, true_or, or_false, false_or, Nat.reduceEqDiff, IN, IM]
          · rw [if_neg d1]
            simp (disch := omega) only [↓nm_eq, ↓bd_x, bdx_s, ↓bx_x, bxx_r, bxx_l, ↓bn_x, bnx_r, chk_t, ↓reduceIte, q32, q64, kI_lt_t, kI_lt_f, kI_le_t, kI_le_f, kI_eq_t, kI_eq_f, kL_lt_t, kL_lt_f, kL_le_t, kL_le_f, kL_eq_t, kL_eq_f, kI_m1, kI_m1', m1_m1, kI_n1, kI_n1', n1_add', eq_self, inb_t, kI_nat, kI_add, kI_mul, kI_sub, kI_div, kI_mod, kI_long, kL_add, kL_mul, kL_sub, kL_div, kL_mod, kL_int, n1_add, not_false_eq_true, not_true_eq_false, and_true, true_and, and_false, false_and, or_true, true_or, or_false, false_or, Nat.reduceEqDiff, IN, IM]
def DR (D : Nat → Int32) (c : Nat) (l : List (Nat × List Nat)) : Prop := ∀ i κ ns, l[i]? = some (κ, ns) → κ < 8 ∧ D (4 * (c + i)) = kI (kd κ) ∧ ns.length = cn8 κ ∧ ∀ u, u < cn8 κ → D (4 * (c + i) + 1 + u) = kI (ns.getD u 0)
theorem ev_readAllLoop (hL : SOK L bt) (hB : ∀ u, u < L → B u = kI (bt u)) : ∀ k p c fu (D : Nat → Int32), L ≤ p + 4 * k → 4 * c ≤ p → k + 1 < fu → p ≤ L → ∃ D' x, Rl_readAll_15 B (kI L) fu (kI (sks L bt p)) (kI c) D = some (match ra L bt (k + 1) p with
      | .inl f => Sum.inl (kI f, x, D')
      | .inr l => Sum.inr (kI L, kI (c + l.length), D')) ∧ (∀ u, u < 4 * c → D' u = D u) ∧ ∀ l, ra L bt (k + 1) p = .inr l → DR D' c l ∧ c + l.length ≤ 30 := by
  have h1 := hL.1
  intro k
  induction k with
  | zero =>
    intro p c fu D a1 a2 a3 a4
    obtain ⟨g, rfl⟩ : ∃ g, fu = g + 1 := ⟨fu - 1, by omega⟩
    have s2 := sks_ge (L := L) (bt := bt) p
    have s1 := sks_le (bt := bt) a4
    have hra : ra L bt (0 + 1) p = .inr [] := by
      simp only [ra]
      rw [if_pos (by omega)]
    rw [hra]
    refine ⟨D, kI 0, ?_, fun _ _ => rfl, fun l h => ?_⟩
    · simp only [Rl_readAll_15]
      rw [show sks L bt p = L from by omega]
      simp (disch := omega) only [↓nm_eq, ↓bd_x, bdx_s, ↓bx_x, bxx_r, bxx_l, ↓bn_x, bnx_r, chk_t, ↓reduceIte, q32, q64, kI_lt_t, kI_lt_f, kI_le_t, kI_le_f, kI_eq_t, kI_eq_f, kL_lt_t, kL_lt_f, kL_le_t, kL_le_f, kL_eq_t, kL_eq_f, kI_m1, kI_m1', m1_m1, kI_n1, kI_n1', n1_add', eq_self, inb_t, kI_nat, kI_add, kI_mul, kI_sub, kI_div, kI_mod, kI_long, kL_add, kL_mul, kL_sub, kL_div, kL_mod, kL_int, n1_add, not_false_eq_true, not_true_eq_false, and_true, true_and, and_false, false_and, or_true, true_or, or_false, false_or, Nat.reduceEqDiff, IN, IM, List.length_nil, Nat.add_zero]
    · injection h with h
      subst h
      exact ⟨fun i κ ns h => by simp at h, by simp; omega⟩
  | succ k ih =>
    intro p c fu D a1 a2 a3 a4
    obtain ⟨g, rfl⟩ : ∃ g, fu = g + 1 := ⟨fu - 1, by omega⟩
    have s2 := sks_ge (L := L) (bt := bt) p
    have s1 := sks_le (bt := bt) a4
    have hra0 : ra L bt (k + 1 + 1) p = if L ≤ sks L bt p then .inr [] else match rc L bt (sks L bt p) with | (r, none) => .inl r | (r, some c) => match ra L bt (k + 1) r with | .inl f => .inl f | .inr l => .inr (c :: l) := rfl
    simp only [Rl_readAll_15]
    by_cases c1 : L ≤ sks L bt p
    · rw [if_pos c1] at hra0
      rw [hra0]
      refine ⟨D, kI 0, ?_, fun _ _ => rfl, fun l h => ?_⟩
      · rw [show sks L bt p = L from by omega]
        simp (disch := omega) only [↓nm_eq, ↓bd_x, bdx_s, ↓bx_x, bxx_r, bxx_l, ↓bn_x, bnx_r, chk_t, ↓reduceIte, q32, q64, kI_lt_t, kI_lt_f, kI_le_t, kI_le_f, kI_eq_t, kI_eq_f, kL_lt_t, kL_lt_f, kL_le_t, kL_le_f, kL_eq_t, kL_eq_f, kI_m1, kI_m1', m1_m1, kI_n1, kI_n1', n1_add', eq_self, inb_t, kI_nat, kI_add, kI_mul, kI_sub, kI_div, kI_mod, kI_long, kL_add, kL_mul, kL_sub, kL_div, kL_mod, kL_int, n1_add, not_false_eq_true, not_true_eq_false, and_true, true_and, and_false, false_and, or_true, true_or, or_false, false_or, Nat.reduceEqDiff, IN, IM, List.length_nil, Nat.add_zero]
      · injection h with h
        subst h
        exact ⟨fun i κ ns h => by simp at h, by simp; omega⟩
    · rw [if_neg c1] at hra0
      obtain ⟨D1, e1, q1, q0, q2⟩ := ev_readCommandR hL hB (p := sks L bt p) (c := c) s1 (by omega) (D := D)
      cases hr : rc L bt (sks L bt p) with
      | mk r o =>
        rw [hr] at hra0 e1 q0
        cases o with
        | none =>
          (try dsimp only at hra0 e1 q0)
          rw [hra0]
          refine ⟨D1, kI c, ?_, q1, fun l h => by cases h⟩
          simp (disch := omega) only [↓nm_eq, ↓bd_x, bdx_s, ↓bx_x, bxx_r, bxx_l, ↓bn_x, bnx_r, chk_t, ↓reduceIte, q32, q64, kI_lt_t, kI_lt_f, kI_le_t, kI_le_f, kI_eq_t, kI_eq_f, kL_lt_t, kL_lt_f, kL_le_t, kL_le_f, kL_eq_t, kL_eq_f, kI_m1, kI_m1', m1_m1, kI_n1, kI_n1', n1_add', eq_self, inb_t, kI_nat, kI_add, kI_mul, kI_sub, kI_div, kI_mod, kI_long, kL_add, kL_mul, kL_sub, kL_div, kL_mod, kL_int, n1_add, not_false_eq_true, not_true_eq_false, and_true, true_and, and_false, false_and, or_true, true_or, or_false, false_or, Nat.reduceEqDiff, IN, IM, e1]
        | some cc =>
          obtain ⟨κ, ns⟩ := cc
          (try dsimp only at hra0 e1 q0)
          obtain ⟨w1, w2, w3, w4, w5⟩ := q2 r κ ns hr
          have e3 := ev_spacesR hL hB q0
          obtain ⟨D2, x, i1, i2, i3⟩ := ih r (c + 1) g D1 (by omega) (by omega) (by omega) q0
          cases hra : ra L bt (k + 1) r with
          | inl f =>
            rw [hra] at hra0 i1
            rw [hra0]
            refine ⟨D2, x, ?_, fun u hu => (i2 u (by omega)).trans (q1 u hu), fun l h => by cases h⟩
            simp (disch := omega) only [↓nm_eq, ↓bd_x, bdx_s, ↓bx_x, bxx_r, bxx_l, ↓bn_x, bnx_r, chk_t, ↓reduceIte, q32, q64, kI_lt_t, kI_lt_f, kI_le_t, kI_le_f, kI_eq_t, kI_eq_f, kL_lt_t, kL_lt_f, kL_le_t, kL_le_f, kL_eq_t, kL_eq_f, kI_m1, kI_m1', m1_m1, kI_n1, kI_n1', n1_add', eq_self, inb_t, kI_nat, kI_add, kI_mul, kI_sub, kI_div, kI_mod, kI_long, kL_add, kL_mul, kL_sub, kL_div, kL_mod, kL_int, n1_add, not_false_eq_true, not_true_eq_false, and_true, true_and, and_false, false_and, or_true, true_or, or_false, false_or, Nat.reduceEqDiff, IN, IM, e1, e3, i1]
          | inr l =>
            rw [hra] at hra0 i1
            obtain ⟨j1, j2⟩ := i3 l hra
            (try dsimp only at hra0 i1)
            rw [hra0]
            refine ⟨D2, x, ?_, fun u hu => (i2 u (by omega)).trans (q1 u hu), fun l' h => ?_⟩
            · (try dsimp only)
              rw [List.length_cons, show c + (l.length + 1) = c + 1 + l.length from by omega]
              simp (disch := omega) only [↓nm_eq, ↓bd_x, bdx_s, ↓bx_x, bxx_r, bxx_l, ↓bn_x, bnx_r, chk_t, ↓reduceIte, q32, q64, kI_lt_t, kI_lt_f, kI_le_t, kI_le_f, kI_eq_t, kI_eq_f, kL_lt_t, kL_lt_f, kL_le_t, kL_le_f, kL_eq_t, kL_eq_f, kI_m1, kI_m1', m1_m1, kI_n1, kI_n1', n1_add', eq_self, inb_t, kI_nat, kI_add, kI_mul, kI_sub, kI_div, kI_mod, kI_long, kL_add, kL_mul, kL_sub, kL_div, kL_mod, kL_int, n1_add, not_false_eq_true, not_true_eq_false, and_true, true_and, and_false, false_and, or_true, true_or, or_false, false_or, Nat.reduceEqDiff, IN, IM, e1, e3, i1]
            · injection h with h
              subst h
              refine ⟨fun i κ' ns' hi => ?_, by rw [List.length_cons]; omega⟩
              cases i with
              | zero =>
                simp only [List.getElem?_cons_zero] at hi
                injection hi with hi
                injection hi with hi1 hi2
                subst hi1
                subst hi2
                refine ⟨w1, ?_, w4, fun u hu => ?_⟩
                · rw [Nat.add_zero, i2 _ (by omega), w3]
                · have := cn8_b κ w1
                  show D2 (4 * c + 1 + u) = _
                  rw [i2 _ (by omega), w5 u hu]
              | succ i =>
                simp only [List.getElem?_cons_succ] at hi
                have := j1 i κ' ns' hi
                rw [show c + (i + 1) = c + 1 + i from by omega]
                exact this
theorem ev_readAllR (hL : SOK L bt) (hB : ∀ u, u < L → B u = kI (bt u)) {x0 x1 : Int32} {D : Nat → Int32} : ∃ D' at' cm' b, Rf_readAll B (kI L) x0 x1 D = some (at', cm', D', b) ∧ match ra L bt 31 0 with
      | .inl f => at' = kI f ∧ b = kI 0
      | .inr l => cm' = kI l.length ∧ b = kI 1 ∧ DR D' 0 l ∧ l.length ≤ 30 := by
  have h1 := hL.1
  have e1 := ev_spacesR hL hB (p := 0) (Nat.zero_le _)
  obtain ⟨D', x, i1, i2, i3⟩ := ev_readAllLoop hL hB 30 0 0 FUEL D (by omega) (by omega) (by have : FUEL = 4096 := rfl; omega) (Nat.zero_le _)
  unfold Rf_readAll
  rw [q32_0, e1, bd_s]
  (try dsimp only)
  rw [i1, bd_s]
  cases hra : ra L bt 31 0 with
  | inl f => exact ⟨D', kI f, x, kI 0, by simp (disch := omega) only [↓nm_eq, ↓bd_x, bdx_s, ↓bx_x, bxx_r, bxx_l, ↓bn_x, bnx_r, chk_t, ↓reduceIte, q32, q64, kI_lt_t, kI_lt_f, kI_le_t, kI_le_f, kI_eq_t, kI_eq_f, kL_lt_t, kL_lt_f, kL_le_t, kL_le_f, kL_eq_t, kL_eq_f, kI_m1, kI_m1', m1_m1, kI_n1, kI_n1', n1_add', eq_self, inb_t, kI_nat, kI_add, kI_mul, kI_sub, kI_div, kI_mod, kI_long, kL_add, kL_mul, kL_sub, kL_div, kL_mod, kL_int, n1_add, not_false_eq_true, not_true_eq_false, and_true, true_and, and_false, false_and, or_true, true_or, or_false, false_or, Nat.reduceEqDiff, IN, IM], rfl, rfl⟩
  | inr l =>
    obtain ⟨j1, j2⟩ := i3 l hra
    refine ⟨D', kI L, kI l.length, kI 1, ?_, rfl, rfl, j1, by omega⟩
    simp (disch := omega) only [↓nm_eq, ↓bd_x, bdx_s, ↓bx_x, bxx_r, bxx_l, ↓bn_x, bnx_r, chk_t, ↓reduceIte, q32, q64, kI_lt_t, kI_lt_f, kI_le_t, kI_le_f, kI_eq_t, kI_eq_f, kL_lt_t, kL_lt_f, kL_le_t, kL_le_f, kL_eq_t, kL_eq_f, kI_m1, kI_m1', m1_m1, kI_n1, kI_n1', n1_add', eq_self, inb_t, kI_nat, kI_add, kI_mul, kI_sub, kI_div, kI_mod, kI_long, kL_add, kL_mul, kL_sub, kL_div, kL_mod, kL_int, n1_add, not_false_eq_true, not_true_eq_false, and_true, true_and, and_false, false_and, or_true, true_or, or_false, false_or, Nat.reduceEqDiff, IN, IM, Nat.zero_add]
end SCR5
