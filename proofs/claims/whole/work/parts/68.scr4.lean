section SCR4
variable {L : Nat} {bt : Nat → Nat} {B : Nat → Int32} (hL : SOK L bt) (hB : ∀ u, u < L → B u = kI (bt u))
theorem ev_hereR (hL : SOK L bt) (hB : ∀ u, u < L → B u = kI (bt u)) {p : Nat} (hp : p < 1000) : Rf_here B (kI L) (kI p) = some (if p < L then kI (bt p) else -1) := by
  have h1 := hL.1
  unfold Rf_here Rf_here_24
  by_cases c : p < L
  · rw [if_pos c]
    simp (disch := omega) only [↓nm_eq, ↓bd_x, bdx_s, ↓bx_x, bxx_r, bxx_l, ↓bn_x, bnx_r, chk_t, ↓reduceIte, q32, q64, kI_lt_t, kI_lt_f, kI_le_t, kI_le_f, kI_eq_t, kI_eq_f, kL_lt_t, kL_lt_f, kL_le_t, kL_le_f, kL_eq_t, kL_eq_f, kI_m1, kI_m1', m1_m1, kI_n1, kI_n1', n1_add', eq_self, inb_t, kI_nat, kI_add, kI_mul, kI_sub, kI_div, kI_mod, kI_long, kL_add, kL_mul, kL_sub, kL_div, kL_mod, kL_int, n1_add, not_false_eq_true, not_true_eq_false, and_true, true_and, and_false, false_and, or_true, true_or, or_false, false_or, Nat.reduceEqDiff, IN, IM, hB]
  · rw [if_neg c]
    simp (disch := omega) only [↓nm_eq, ↓bd_x, bdx_s, ↓bx_x, bxx_r, bxx_l, ↓bn_x, bnx_r, chk_t, ↓reduceIte, q32, q64, kI_lt_t, kI_lt_f, kI_le_t, kI_le_f, kI_eq_t, kI_eq_f, kL_lt_t, kL_lt_f, kL_le_t, kL_le_f, kL_eq_t, kL_eq_f, kI_m1, kI_m1', m1_m1, kI_n1, kI_n1', n1_add', eq_self, inb_t, kI_nat, kI_add, kI_mul, kI_sub, kI_div, kI_mod, kI_long, kL_add, kL_mul, kL_sub, kL_div, kL_mod, kL_int, n1_add, not_false_eq_true, not_true_eq_false, and_true, true_and, and_false, false_and, or_true, true_or, or_false, false_or, Nat.reduceEqDiff, IN, IM]
theorem ev_spacesR (hL : SOK L bt) (hB : ∀ u, u < L → B u = kI (bt u)) {p : Nat} (hp : p ≤ L) : Rf_spaces B (kI L) (kI p) = some (kI (sks L bt p), if SP L bt p then kI 1 else kI 0) := by
  have h1 := hL.1
  have hl : ∀ k p fu (x : Int32), L ≤ p + k → p + k < 900 → k < fu → Rl_spaces_5 B (kI L) x fu (kI p) = some (kI (skp (SP L bt) k p)) := by
    intro k
    induction k with
    | zero =>
      intro p fu x a1 a2 a3
      obtain ⟨g, rfl⟩ : ∃ g, fu = g + 1 := ⟨fu - 1, by omega⟩
      have e := ev_hereR hL hB (p := p) (by omega)
      rw [if_neg (by omega)] at e
      simp only [Rl_spaces_5, skp]
      simp (disch := omega) only [↓nm_eq, ↓bd_x, bdx_s, ↓bx_x, bxx_r, bxx_l, ↓bn_x, bnx_r, chk_t, ↓reduceIte, q32, q64, kI_lt_t, kI_lt_f, kI_le_t, kI_le_f, kI_eq_t, kI_eq_f, kL_lt_t, kL_lt_f, kL_le_t, kL_le_f, kL_eq_t, kL_eq_f, kI_m1, kI_m1', m1_m1, kI_n1, kI_n1', n1_add', eq_self, inb_t, kI_nat, kI_add, kI_mul, kI_sub, kI_div, kI_mod, kI_long, kL_add, kL_mul, kL_sub, kL_div, kL_mod, kL_int, n1_add, not_false_eq_true, not_true_eq_false, and_true, true_and, and_false, false_and, or_true, true_or, or_false, false_or, Nat.reduceEqDiff, IN, IM, e]
    | succ k ih =>
      intro p fu x a1 a2 a3
      obtain ⟨g, rfl⟩ : ∃ g, fu = g + 1 := ⟨fu - 1, by omega⟩
      simp only [Rl_spaces_5, skp]
      have e := ev_hereR hL hB (p := p) (by omega)
      by_cases c : p < L
      · have h2 := hL.2 p c
        rw [if_pos c] at e
        by_cases d : bt p = 32
        · rw [if_pos (show SP L bt p from ⟨c, d⟩)]
          simp (disch := omega) only [↓nm_eq, ↓bd_x, bdx_s, ↓bx_x, bxx_r, bxx_l, ↓bn_x, bnx_r, chk_t, ↓reduceIte, q32, q64, kI_lt_t, kI_lt_f, kI_le_t, kI_le_f, kI_eq_t, kI_eq_f, kL_lt_t, kL_lt_f, kL_le_t, kL_le_f, kL_eq_t, kL_eq_f, kI_m1, kI_m1', m1_m1, kI_n1, kI_n1', n1_add', eq_self, inb_t, kI_nat, kI_add, kI_mul, kI_sub, kI_div, kI_mod, kI_long, kL_add, kL_mul, kL_sub, kL_div, kL_mod, kL_int, n1_add, not_false_eq_true, not_true_eq_false, and_true, true_and, and_false, false_and, or_true, true_or, or_false, false_or, Nat.reduceEqDiff, IN, IM, e]
          exact ih (p + 1) g x (by omega) (by omega) (by omega)
        · rw [if_neg (show ¬ SP L bt p from fun q => d q.2)]
          simp (disch := omega) only [↓nm_eq, ↓bd_x, bdx_s, ↓bx_x, bxx_r, bxx_l, ↓bn_x, bnx_r, chk_t, ↓reduceIte, q32, q64, kI_lt_t, kI_lt_f, kI_le_t, kI_le_f, kI_eq_t, kI_eq_f, kL_lt_t, kL_lt_f, kL_le_t, kL_le_f, kL_eq_t, kL_eq_f, kI_m1, kI_m1', m1_m1, kI_n1, kI_n1', n1_add', eq_self, inb_t, kI_nat, kI_add, kI_mul, kI_sub, kI_div, kI_mod, kI_long, kL_add, kL_mul, kL_sub, kL_div, kL_mod, kL_int, n1_add, not_false_eq_true, not_true_eq_false, and_true, true_and, and_false, false_and, or_true, true_or, or_false, false_or, Nat.reduceEqDiff, IN, IM, e]
      · rw [if_neg c] at e
        rw [if_neg (show ¬ SP L bt p from fun q => c q.1)]
        simp (disch := omega) only [↓nm_eq, ↓bd_x, bdx_s, ↓bx_x, bxx_r, bxx_l, ↓bn_x, bnx_r, chk_t, ↓reduceIte, q32, q64, kI_lt_t, kI_lt_f, kI_le_t, kI_le_f, kI_eq_t, kI_eq_f, kL_lt_t, kL_lt_f, kL_le_t, kL_le_f, kL_eq_t, kL_eq_f, kI_m1, kI_m1', m1_m1, kI_n1, kI_n1', n1_add', eq_self, inb_t, kI_nat, kI_add, kI_mul, kI_sub, kI_div, kI_mod, kI_long, kL_add, kL_mul, kL_sub, kL_div, kL_mod, kL_int, n1_add, not_false_eq_true, not_true_eq_false, and_true, true_and, and_false, false_and, or_true, true_or, or_false, false_or, Nat.reduceEqDiff, IN, IM, e]
  have h0 := hl 121 p FUEL (kI p) (by omega) (by omega) (by have : FUEL = 4096 := rfl; omega)
  have s1 := sks_le (bt := bt) hp
  have s2 := sks_ge (L := L) (bt := bt) p
  unfold Rf_spaces Rf_spaces_40
  rw [h0, bd_s]
  by_cases c : SP L bt p
  · rw [if_pos c]
    have : p < sks L bt p := by
      have h3 : sks L bt p = skp (SP L bt) 120 (p + 1) := by
        show (if SP L bt p then skp (SP L bt) 120 (p + 1) else p) = _
        rw [if_pos c]
      have h4 := (skp_ge (SP L bt) 120 (p + 1)).1
      omega
    have this : p < skp (SP L bt) 121 p := this
    have s1 : skp (SP L bt) 121 p ≤ L := s1
    simp (disch := omega) only [↓nm_eq, ↓bd_x, bdx_s, ↓bx_x, bxx_r, bxx_l, ↓bn_x, bnx_r, chk_t, ↓reduceIte, q32, q64, kI_lt_t, kI_lt_f, kI_le_t, kI_le_f, kI_eq_t, kI_eq_f, kL_lt_t, kL_lt_f, kL_le_t, kL_le_f, kL_eq_t, kL_eq_f, kI_m1, kI_m1', m1_m1, kI_n1, kI_n1', n1_add', eq_self, inb_t, kI_nat, kI_add, kI_mul, kI_sub, kI_div, kI_mod, kI_long, kL_add, kL_mul, kL_sub, kL_div, kL_mod, kL_int, n1_add, not_false_eq_true, not_true_eq_false, and_true, true_and, and_false, false_and, or_true, true_or, or_false, false_or, Nat.reduceEqDiff, IN, IM]
  · rw [if_neg c]
    have : sks L bt p = p := skp_no _ _ _ c
    simp (disch := omega) only [↓nm_eq, ↓bd_x, bdx_s, ↓bx_x, bxx_r, bxx_l, ↓bn_x, bnx_r, chk_t, ↓reduceIte, q32, q64, kI_lt_t, kI_lt_f, kI_le_t, kI_le_f, kI_eq_t, kI_eq_f, kL_lt_t, kL_lt_f, kL_le_t, kL_le_f, kL_eq_t, kL_eq_f, kI_m1, kI_m1', m1_m1, kI_n1, kI_n1', n1_add', eq_self, inb_t, kI_nat, kI_add, kI_mul, kI_sub, kI_div, kI_mod, kI_long, kL_add, kL_mul, kL_sub, kL_div, kL_mod, kL_int, n1_add, not_false_eq_true, not_true_eq_false, and_true, true_and, and_false, false_and, or_true, true_or, or_false, false_or, Nat.reduceEqDiff, IN, IM, this]
theorem ev_digitR (hL : SOK L bt) (hB : ∀ u, u < L → B u = kI (bt u)) {p : Nat} (hp : p < 1000) : ∃ x : Int32, Rf_here B (kI L) (kI p) = some x ∧ Rf_in x.toInt64 (kL 48) (kL 57) = some (if DG L bt p then kI 1 else kI 0) := by
  have e := ev_hereR hL hB hp
  refine ⟨_, e, ?_⟩
  rw [iI (by omega) (by omega)]
  refine congrArg some (ite_cg (Iff.trans IN_iff ?_))
  unfold DG
  by_cases c : p < L
  · have h2 := hL.2 p c
    rw [if_pos c, kI_toInt (by omega)]
    omega
  · rw [if_neg c, m1_toInt]
    omega
theorem ev_letterR (hL : SOK L bt) (hB : ∀ u, u < L → B u = kI (bt u)) {p : Nat} (hp : p < 1000) : ∃ x : Int32, Rf_here B (kI L) (kI p) = some x ∧ Rf_in x.toInt64 (kL 97) (kL 122) = some (if LTR L bt p then kI 1 else kI 0) := by
  have e := ev_hereR hL hB hp
  refine ⟨_, e, ?_⟩
  rw [iI (by omega) (by omega)]
  refine congrArg some (ite_cg (Iff.trans IN_iff ?_))
  unfold LTR
  by_cases c : p < L
  · have h2 := hL.2 p c
    rw [if_pos c, kI_toInt (by omega)]
    omega
  · rw [if_neg c, m1_toInt]
    omega
theorem enc_s (bt : Nat → Nat) (f k : Nat) : enc bt f (k + 1) = enc bt f k * 128 + bt (f + k) := rfl
def wv (bt : Nat → Nat) (f p : Nat) : Int64 := if p - f ≤ 5 then kL (enc bt f (p - f)) else -1
theorem ev_wordLoop (hL : SOK L bt) (hB : ∀ u, u < L → B u = kI (bt u)) {x1 : Int32} {f : Nat} (hf : f ≤ L) : ∀ k p fu, f ≤ p → L ≤ p + k → p + k < 900 → k < fu → Rl_readWord_7 B (kI L) x1 (kI f) fu (kI p) (wv bt f p) = some (kI (skp (LTR L bt) k p), wv bt f (skp (LTR L bt) k p)) := by
  have h1 := hL.1
  intro k
  induction k with
  | zero =>
    intro p fu a0 a1 a2 a3
    obtain ⟨g, rfl⟩ : ∃ g, fu = g + 1 := ⟨fu - 1, by omega⟩
    obtain ⟨x, e1, e2⟩ := ev_letterR hL hB (p := p) (by omega)
    rw [if_neg (show ¬ LTR L bt p from fun q => by have := q.1; omega)] at e2
    simp only [Rl_readWord_7, skp]
    rw [e1, bd_s, nm_eq, q64_97, q64_122, e2, bd_s]
    simp (disch := omega) only [↓nm_eq, ↓bd_x, bdx_s, ↓bx_x, bxx_r, bxx_l, ↓bn_x, bnx_r, chk_t, ↓reduceIte, q32, q64, kI_lt_t, kI_lt_f, kI_le_t, kI_le_f, kI_eq_t, kI_eq_f, kL_lt_t, kL_lt_f, kL_le_t, kL_le_f, kL_eq_t, kL_eq_f, kI_m1, kI_m1', m1_m1, kI_n1, kI_n1', n1_add', eq_self, inb_t, kI_nat, kI_add, kI_mul, kI_sub, kI_div, kI_mod, kI_long, kL_add, kL_mul, kL_sub, kL_div, kL_mod, kL_int, n1_add, not_false_eq_true, not_true_eq_false, and_true, true_and, and_false, false_and, or_true, true_or, or_false, false_or, Nat.reduceEqDiff, IN, IM]
  | succ k ih =>
    intro p fu a0 a1 a2 a3
    obtain ⟨g, rfl⟩ : ∃ g, fu = g + 1 := ⟨fu - 1, by omega⟩
    obtain ⟨x, e1, e2⟩ := ev_letterR hL hB (p := p) (by omega)
    simp only [Rl_readWord_7, Rf_readWord_51]
    by_cases c : LTR L bt p
    · rw [if_pos c] at e2
      have hsk : skp (LTR L bt) (k + 1) p = skp (LTR L bt) k (p + 1) := by
        show (if LTR L bt p then _ else _) = _
        rw [if_pos c]
      rw [hsk]
      have hb := ev_hereR hL hB (p := p) (by omega)
      rw [if_pos c.1, e1] at hb
      have hx : x = kI (bt p) := by injection hb
      subst hx
      have c2 := c.2.2
      have i1 := ih (p + 1) g (by omega) (by omega) (by omega) (by omega)
      rw [e1, bd_s, nm_eq, q64_97, q64_122, e2, bd_s]
      by_cases d : p - f < 5
      · have w1 : wv bt f (p + 1) = kL (enc bt f (p - f) * 128 + bt p) := by
          unfold wv
          rw [if_pos (show p + 1 - f ≤ 5 by omega), show p + 1 - f = (p - f) + 1 from by omega, enc_s, show f + (p - f) = p from by omega]
        have w2 : wv bt f p = kL (enc bt f (p - f)) := if_pos (by omega)
        rw [w1] at i1
        rw [w2]
        simp (disch := omega) only [↓nm_eq, ↓bd_x, bdx_s, ↓bx_x, bxx_r, bxx_l, ↓bn_x, bnx_r, chk_t, ↓reduceIte, q32, q64, kI_lt_t, kI_lt_f, kI_le_t, kI_le_f, kI_eq_t, kI_eq_f, kL_lt_t, kL_lt_f, kL_le_t, kL_le_f, kL_eq_t, kL_eq_f, kI_m1, kI_m1', m1_m1, kI_n1, kI_n1', n1_add', eq_self, inb_t, kI_nat, kI_add, kI_mul, kI_sub, kI_div, kI_mod, kI_long, kL_add, kL_mul, kL_sub, kL_div, kL_mod, kL_int, n1_add, not_false_eq_true, not_true_eq_false, and_true, true_and, and_false, false_and, or_true, true_or, or_false, false_or, Nat.reduceEqDiff, IN, IM, i1]
      · have w1 : wv bt f (p + 1) = -1 := if_neg (by omega)
        rw [w1] at i1
        rw [if_neg (show ¬ kI 1 = 0 by decide), nm_eq, kI_sub (by omega), if_pos (show (5 : Int32) ≤ kI (p - f) by rw [q32_5, kI_le (by omega) (by omega)]; omega), nm_eq, q32_1, kI_add]
        exact i1
    · rw [if_neg c] at e2
      have hsk : skp (LTR L bt) (k + 1) p = p := skp_no _ _ _ c
      rw [hsk, e1, bd_s, nm_eq, q64_97, q64_122, e2, bd_s]
      simp (disch := omega) only [↓nm_eq, ↓bd_x, bdx_s, ↓bx_x, bxx_r, bxx_l, ↓bn_x, bnx_r, chk_t, ↓reduceIte, q32, q64, kI_lt_t, kI_lt_f, kI_le_t, kI_le_f, kI_eq_t, kI_eq_f, kL_lt_t, kL_lt_f, kL_le_t, kL_le_f, kL_eq_t, kL_eq_f, kI_m1, kI_m1', m1_m1, kI_n1, kI_n1', n1_add', eq_self, inb_t, kI_nat, kI_add, kI_mul, kI_sub, kI_div, kI_mod, kI_long, kL_add, kL_mul, kL_sub, kL_div, kL_mod, kL_int, n1_add, not_false_eq_true, not_true_eq_false, and_true, true_and, and_false, false_and, or_true, true_or, or_false, false_or, Nat.reduceEqDiff, IN, IM]
theorem ev_readWordR (hL : SOK L bt) (hB : ∀ u, u < L → B u = kI (bt u)) {p row : Nat} (hp : p ≤ L) (hr : row < 120) {D : Nat → Int32} : ∃ D', Rf_readWord B (kI L) (kI p) D (kI row) = some (match wi bt p (skl L bt p) with
      | none => (kI p, D', kI 0)
      | some κ => (kI (skl L bt p), D', kI 1)) ∧ (∀ u, u ≠ row → D' u = D u) ∧ ∀ κ, wi bt p (skl L bt p) = some κ → D' row = kI (kd κ) := by
  have h1 := hL.1
  have l1 := skl_le (bt := bt) hp
  have l2 := skl_ge (L := L) (bt := bt) p
  have h0 := ev_wordLoop hL hB (x1 := kI row) hp 121 p FUEL (Nat.le_refl p) (by omega) (by omega) (by have : FUEL = 4096 := rfl; omega)
  have w0 : wv bt p p = kL 0 := by unfold wv; rw [Nat.sub_self, if_pos (Nat.zero_le 5)]; rfl
  rw [w0] at h0
  have h0' : Rl_readWord_7 B (kI L) (kI row) (kI p) FUEL (kI p) (kL 0) = some (kI (skl L bt p), wv bt p (skl L bt p)) := h0
  unfold Rf_readWord
  simp only [Rf_readWord_98, Rf_readWord_118, Rf_readWord_136]
  rw [q64_0, h0', bd_s]
  (try dsimp only)
  by_cases c : skl L bt p = p
  · have hw : wi bt p (skl L bt p) = none := by
      cases hw : wi bt p (skl L bt p) with
      | none => rfl
      | some κ =>
        obtain ⟨w1, w2⟩ := wi_lt hw
        have w3 := wL8_b κ w1
        have w4 := w2.1
        omega
    refine ⟨D, ?_, fun _ _ => rfl, fun κ hκ => ?_⟩
    · rw [hw, c]
      simp (disch := omega) only [↓nm_eq, ↓bd_x, bdx_s, ↓bx_x, bxx_r, bxx_l, ↓bn_x, bnx_r, chk_t, ↓reduceIte, q32, q64, kI_lt_t, kI_lt_f, kI_le_t, kI_le_f, kI_eq_t, kI_eq_f, kL_lt_t, kL_lt_f, kL_le_t, kL_le_f, kL_eq_t, kL_eq_f, kI_m1, kI_m1', m1_m1, kI_n1, kI_n1', n1_add', eq_self, inb_t, kI_nat, kI_add, kI_mul, kI_sub, kI_div, kI_mod, kI_long, kL_add, kL_mul, kL_sub, kL_div, kL_mod, kL_int, n1_add, not_false_eq_true, not_true_eq_false, and_true, true_and, and_false, false_and, or_true, true_or, or_false, false_or, Nat.reduceEqDiff, IN, IM]
    · rw [hw] at hκ
      cases hκ
  · by_cases d : skl L bt p - p ≤ 5
    · have e := ev_kindOf (bt := bt) (f := p) (n := skl L bt p - p) (by omega) d (fun k hk => (skp_in (LTR L bt) 121 p (p + k) (by omega) (show p + k < skl L bt p by omega)).2)
      rw [show p + (skl L bt p - p) = skl L bt p from by omega] at e
      have w1 : wv bt p (skl L bt p) = kL (enc bt p (skl L bt p - p)) := if_pos d
      rw [w1]
      cases hw : wi bt p (skl L bt p) with
      | none =>
        rw [hw] at e
        have e' : Rf_kindOf (kL (enc bt p (skl L bt p - p))) = some (-1) := e
        refine ⟨upd D row (-1), ?_, fun u hu => up32_ne hu, fun κ hκ => by cases hκ⟩
        simp (disch := omega) only [↓nm_eq, ↓bd_x, bdx_s, ↓bx_x, bxx_r, bxx_l, ↓bn_x, bnx_r, chk_t, ↓reduceIte, q32, q64, kI_lt_t, kI_lt_f, kI_le_t, kI_le_f, kI_eq_t, kI_eq_f, kL_lt_t, kL_lt_f, kL_le_t, kL_le_f, kL_eq_t, kL_eq_f, kI_m1, kI_m1', m1_m1, kI_n1, kI_n1', n1_add', eq_self, inb_t, kI_nat, kI_add, kI_mul, kI_sub, kI_div, kI_mod, kI_long, kL_add, kL_mul, kL_sub, kL_div, kL_mod, kL_int, n1_add, not_false_eq_true, not_true_eq_false, and_true, true_and, and_false, false_and, or_true, true_or, or_false, false_or, Nat.reduceEqDiff, IN, IM, e', up32_at]
      | some κ =>
        rw [hw] at e
        have e' : Rf_kindOf (kL (enc bt p (skl L bt p - p))) = some (kI (kd κ)) := e
        have k1 := kd_b κ (wi_lt hw).1
        refine ⟨upd D row (kI (kd κ)), ?_, fun u hu => up32_ne hu, fun κ' hκ => by injection hκ with hκ; rw [← hκ]; exact up32_at⟩
        simp (disch := omega) only [↓nm_eq, ↓bd_x, bdx_s, ↓bx_x, bxx_r, bxx_l, ↓bn_x, bnx_r, chk_t, ↓reduceIte, q32, q64, kI_lt_t, kI_lt_f, kI_le_t, kI_le_f, kI_eq_t, kI_eq_f, kL_lt_t, kL_lt_f, kL_le_t, kL_le_f, kL_eq_t, kL_eq_f, kI_m1, kI_m1', m1_m1, kI_n1, kI_n1', n1_add', eq_self, inb_t, kI_nat, kI_add, kI_mul, kI_sub, kI_div, kI_mod, kI_long, kL_add, kL_mul, kL_sub, kL_div, kL_mod, kL_int, n1_add, not_false_eq_true, not_true_eq_false, and_true, true_and, and_false, false_and, or_true, true_or, or_false, false_or, Nat.reduceEqDiff, IN, IM, e', up32_at]
    · have hw : wi bt p (skl L bt p) = none := by
        cases hw : wi bt p (skl L bt p) with
        | none => rfl
        | some κ =>
          obtain ⟨w1, w2⟩ := wi_lt hw
          have w3 := wL8_b κ w1
          have w4 := w2.1
          omega
      rw [hw]
      refine ⟨upd D row (-1), ?_, fun u hu => up32_ne hu, fun κ hκ => by cases hκ⟩
      simp (disch := omega) only [↓nm_eq, ↓bd_x, bdx_s, ↓bx_x, bxx_r, bxx_l, ↓bn_x, bnx_r, chk_t, ↓reduceIte, q32, q64, kI_lt_t, kI_lt_f, kI_le_t, kI_le_f, kI_eq_t, kI_eq_f, kL_lt_t, kL_lt_f, kL_le_t, kL_le_f, kL_eq_t, kL_eq_f, kI_m1, kI_m1', m1_m1, kI_n1, kI_n1', n1_add', eq_self, inb_t, kI_nat, kI_add, kI_mul, kI_sub, kI_div, kI_mod, kI_long, kL_add, kL_mul, kL_sub, kL_div, kL_mod, kL_int, n1_add, not_false_eq_true, not_true_eq_false, and_true, true_and, and_false, false_and, or_true, true_or, or_false, false_or, Nat.reduceEqDiff, IN, IM, up32_at]
theorem ev_digitsR (hL : SOK L bt) (hB : ∀ u, u < L → B u = kI (bt u)) {x1 : Int32} {f : Nat} (hf : f ≤ L) : ∀ k p v fu, p + k = f + 6 → p ≤ L → k < fu → Rl_readNumber_16 B (kI L) x1 (kI f) fu (kI p) (kI v) = some (kI (dg L bt k p v).1, kI (dg L bt k p v).2) := by
  have h1 := hL.1
  intro k
  induction k with
  | zero =>
    intro p v fu a0 a1 a2
    obtain ⟨g, rfl⟩ : ∃ g, fu = g + 1 := ⟨fu - 1, by omega⟩
    simp only [Rl_readNumber_16, dg]
    simp (disch := omega) only [↓nm_eq, ↓bd_x, bdx_s, ↓bx_x, bxx_r, bxx_l, ↓bn_x, bnx_r, chk_t, ↓reduceIte, q32, q64, kI_lt_t, kI_lt_f, kI_le_t, kI_le_f, kI_eq_t, kI_eq_f, kL_lt_t, kL_lt_f, kL_le_t, kL_le_f, kL_eq_t, kL_eq_f, kI_m1, kI_m1', m1_m1, kI_n1, kI_n1', n1_add', eq_self, inb_t, kI_nat, kI_add, kI_mul, kI_sub, kI_div, kI_mod, kI_long, kL_add, kL_mul, kL_sub, kL_div, kL_mod, kL_int, n1_add, not_false_eq_true, not_true_eq_false, and_true, true_and, and_false, false_and, or_true, true_or, or_false, false_or, Nat.reduceEqDiff, IN, IM]
  | succ k ih =>
    intro p v fu a0 a1 a2
    obtain ⟨g, rfl⟩ : ∃ g, fu = g + 1 := ⟨fu - 1, by omega⟩
    obtain ⟨x, e1, e2⟩ := ev_digitR hL hB (p := p) (by omega)
    simp only [Rl_readNumber_16, dg]
    by_cases c : DG L bt p
    · rw [if_pos c] at e2 ⊢
      have hb := ev_hereR hL hB (p := p) (by omega)
      rw [if_pos c.1, e1] at hb
      have hx : x = kI (bt p) := by injection hb
      subst hx
      have c1 := c.1
      have c2 := c.2.1
      have c3 := c.2.2
      rw [nm_eq, q32_6, kI_add, if_neg (by rw [kI_le (by omega) (by omega)]; omega), e1, bd_s, nm_eq, q64_48, q64_57, e2, bd_s]
      simp (disch := omega) only [↓nm_eq, ↓bd_x, bdx_s, ↓bx_x, bxx_r, bxx_l, ↓bn_x, bnx_r, chk_t, ↓reduceIte, q32, q64, kI_lt_t, kI_lt_f, kI_le_t, kI_le_f, kI_eq_t, kI_eq_f, kL_lt_t, kL_lt_f, kL_le_t, kL_le_f, kL_eq_t, kL_eq_f, kI_m1, kI_m1', m1_m1, kI_n1, kI_n1', n1_add', eq_self, inb_t, kI_nat, kI_add, kI_mul, kI_sub, kI_div, kI_mod, kI_long, kL_add, kL_mul, kL_sub, kL_div, kL_mod, kL_int, n1_add, not_false_eq_true, not_true_eq_false, and_true, true_and, and_false, false_and, or_true, true_or, or_false, false_or, Nat.reduceEqDiff, IN, IM]
      exact ih (p + 1) (10 * v + bt p - 48) g (by omega) (by omega) (by omega)
    · rw [if_neg c] at e2 ⊢
      rw [nm_eq, q32_6, kI_add, if_neg (by rw [kI_le (by omega) (by omega)]; omega), e1, bd_s, nm_eq, q64_48, q64_57, e2, bd_s]
      simp (disch := omega) only [↓nm_eq, ↓bd_x, bdx_s, ↓bx_x, bxx_r, bxx_l, ↓bn_x, bnx_r, chk_t, ↓reduceIte, q32, q64, kI_lt_t, kI_lt_f, kI_le_t, kI_le_f, kI_eq_t, kI_eq_f, kL_lt_t, kL_lt_f, kL_le_t, kL_le_f, kL_eq_t, kL_eq_f, kI_m1, kI_m1', m1_m1, kI_n1, kI_n1', n1_add', eq_self, inb_t, kI_nat, kI_add, kI_mul, kI_sub, kI_div, kI_mod, kI_long, kL_add, kL_mul, kL_sub, kL_div, kL_mod, kL_int, n1_add, not_false_eq_true, not_true_eq_false, and_true, true_and, and_false, false_and, or_true, true_or, or_false, false_or, Nat.reduceEqDiff, IN, IM]
theorem ev_readNumberR (hL : SOK L bt) (hB : ∀ u, u < L → B u = kI (bt u)) {p j : Nat} (hp : p ≤ L) (hj : j < 120) {D : Nat → Int32} : ∃ D', Rf_readNumber B (kI L) (kI p) D (kI j) = some (kI (rn L bt p).1, D', if (rn L bt p).2.isSome then kI 1 else kI 0) ∧ (∀ u, u ≠ j → D' u = D u) ∧ ∀ v, (rn L bt p).2 = some v → D' j = kI v := by
  have h1 := hL.1
  have s1 := sks_le (bt := bt) hp
  have s2 := sks_ge (L := L) (bt := bt) p
  have e1 := ev_spacesR hL hB hp
  unfold Rf_readNumber
  simp only [Rf_readNumber_70, Rf_readNumber_106, Rf_readNumber_107]
  rw [e1, bd_s]
  (try dsimp only)
  by_cases c : SP L bt p
  · have e2 := ev_digitsR hL hB (x1 := kI j) s1 6 (sks L bt p) 0 FUEL rfl s1 (by have : FUEL = 4096 := rfl; omega)
    have dgb := dg_b hL 6 (sks L bt p) 0 s1
    obtain ⟨x, g1, g2⟩ := ev_digitR hL hB (p := (dg L bt 6 (sks L bt p) 0).1) (by omega)
    rw [if_pos c]
    rw [if_neg (show ¬ kI 1 = 0 by decide), q32_0, e2, bd_s]
    (try dsimp only)
    by_cases d : DG L bt (sks L bt p)
    · have d0 : sks L bt p < (dg L bt 6 (sks L bt p) 0).1 := by
        have h3 : dg L bt 6 (sks L bt p) 0 = dg L bt 5 (sks L bt p + 1) (10 * 0 + bt (sks L bt p) - 48) := by
          show (if DG L bt (sks L bt p) then _ else _) = _
          rw [if_pos d]
        rw [h3]
        have d1 := d.1
        have h4 := (dg_b hL 5 (sks L bt p + 1) (10 * 0 + bt (sks L bt p) - 48) (by omega)).1
        omega
      by_cases w : DG L bt (dg L bt 6 (sks L bt p) 0).1
      · have hrn : rn L bt p = ((dg L bt 6 (sks L bt p) 0).1, none) := by
          unfold rn
          rw [if_pos c, if_pos d, if_pos w]
        rw [if_pos w] at g2
        rw [hrn]
        refine ⟨upd D j (kI (dg L bt 6 (sks L bt p) 0).2), ?_, fun u hu => up32_ne hu, fun v hv => by cases hv⟩
        rw [chk_true ((inb_kI (by omega)).mpr hj), nm_eq, kI_nat (by omega), if_neg (by rw [kI_le (by omega) (by omega)]; omega), g1, bd_s, nm_eq, q64_48, q64_57, g2, bd_s]
        simp (disch := omega) only [↓nm_eq, ↓bd_x, bdx_s, ↓bx_x, bxx_r, bxx_l, ↓bn_x, bnx_r, chk_t, ↓reduceIte, q32, q64, kI_lt_t, kI_lt_f, kI_le_t, kI_le_f, kI_eq_t, kI_eq_f, kL_lt_t, kL_lt_f, kL_le_t, kL_le_f, kL_eq_t, kL_eq_f, kI_m1, kI_m1', m1_m1, kI_n1, kI_n1', n1_add', eq_self, inb_t, kI_nat, kI_add, kI_mul, kI_sub, kI_div, kI_mod, kI_long, kL_add, kL_mul, kL_sub, kL_div, kL_mod, kL_int, n1_add, not_false_eq_true, not_true_eq_false, and_true, true_and, and_false, false_and, or_true, true_or, or_false, false_or, Nat.reduceEqDiff, IN, IM]
        rfl
      · have hrn : rn L bt p = ((dg L bt 6 (sks L bt p) 0).1, some (dg L bt 6 (sks L bt p) 0).2) := by
          unfold rn
          rw [if_pos c, if_pos d, if_neg w]
        rw [if_neg w] at g2
        rw [hrn]
        refine ⟨upd D j (kI (dg L bt 6 (sks L bt p) 0).2), ?_, fun u hu => up32_ne hu, fun v hv => by injection hv with hv; rw [← hv]; exact up32_at⟩
        rw [chk_true ((inb_kI (by omega)).mpr hj), nm_eq, kI_nat (by omega), if_neg (by rw [kI_le (by omega) (by omega)]; omega), g1, bd_s, nm_eq, q64_48, q64_57, g2, bd_s]
        simp (disch := omega) only [↓nm_eq, ↓bd_x, bdx_s, ↓bx_x, bxx_r, bxx_l, ↓bn_x, bnx_r, chk_t, ↓reduceIte, q32, q64, kI_lt_t, kI_lt_f, kI_le_t, kI_le_f, kI_eq_t, kI_eq_f, kL_lt_t, kL_lt_f, kL_le_t, kL_le_f, kL_eq_t, kL_eq_f, kI_m1, kI_m1', m1_m1, kI_n1, kI_n1', n1_add', eq_self, inb_t, kI_nat, kI_add, kI_mul, kI_sub, kI_div, kI_mod, kI_long, kL_add, kL_mul, kL_sub, kL_div, kL_mod, kL_int, n1_add, not_false_eq_true, not_true_eq_false, and_true, true_and, and_false, false_and, or_true, true_or, or_false, false_or, Nat.reduceEqDiff, IN, IM]
        rfl
    · have d0 : dg L bt 6 (sks L bt p) 0 = (sks L bt p, 0) := by
        show (if DG L bt (sks L bt p) then _ else _) = _
        rw [if_neg d]
      have hrn : rn L bt p = (sks L bt p, none) := by
        unfold rn
        rw [if_pos c, if_neg d]
      rw [hrn, d0]
      refine ⟨upd D j (kI 0), ?_, fun u hu => up32_ne hu, fun v hv => by cases hv⟩
      rw [chk_true ((inb_kI (by omega)).mpr hj), nm_eq, kI_nat (by omega), if_pos (by rw [kI_le (by omega) (by omega)]; exact Nat.le_refl _)]
      simp (disch := omega) only [↓nm_eq, ↓bd_x, bdx_s, ↓bx_x, bxx_r, bxx_l, ↓bn_x, bnx_r, chk_t, ↓reduceIte, q32, q64, kI_lt_t, kI_lt_f, kI_le_t, kI_le_f, kI_eq_t, kI_eq_f, kL_lt_t, kL_lt_f, kL_le_t, kL_le_f, kL_eq_t, kL_eq_f, kI_m1, kI_m1', m1_m1, kI_n1, kI_n1', n1_add', eq_self, inb_t, kI_nat, kI_add, kI_mul, kI_sub, kI_div, kI_mod, kI_long, kL_add, kL_mul, kL_sub, kL_div, kL_mod, kL_int, n1_add, not_false_eq_true, not_true_eq_false, and_true, true_and, and_false, false_and, or_true, true_or, or_false, false_or, Nat.reduceEqDiff, IN, IM]
      rfl
  · have hrn : rn L bt p = (p, none) := by
      unfold rn
      rw [if_neg c]
    rw [if_neg c]
    have : sks L bt p = p := skp_no _ _ _ c
    rw [hrn, this]
    refine ⟨D, ?_, fun _ _ => rfl, fun v hv => by cases hv⟩
    simp (disch := omega) only [↓nm_eq, ↓bd_x, bdx_s, ↓bx_x, bxx_r, bxx_l, ↓bn_x, bnx_r, chk_t, ↓reduceIte, q32, q64, kI_lt_t, kI_lt_f, kI_le_t, kI_le_f, kI_eq_t, kI_eq_f, kL_lt_t, kL_lt_f, kL_le_t, kL_le_f, kL_eq_t, kL_eq_f, kI_m1, kI_m1', m1_m1, kI_n1, kI_n1', n1_add', eq_self, inb_t, kI_nat, kI_add, kI_mul, kI_sub, kI_div, kI_mod, kI_long, kL_add, kL_mul, kL_sub, kL_div, kL_mod, kL_int, n1_add, not_false_eq_true, not_true_eq_false, and_true, true_and, and_false, false_and, or_true, true_or, or_false, false_or, Nat.reduceEqDiff, IN, IM]
    rfl
theorem ev_numbersR (hL : SOK L bt) (hB : ∀ u, u < L → B u = kI (bt u)) {row cN : Nat} (hrow : row + 3 < 120) (hc : cN ≤ 3) : ∀ c j p fu (D : Nat → Int32), j + c = cN → c < fu → p ≤ L → ∃ D', (Rl_readCommand_56 B (kI L) (kI row) (kI cN) fu (kI p) D (kI j) = some (match rns L bt c p with
      | (r, none) => Sum.inl (kI r, D')
      | (r, some _) => Sum.inr (kI r, D'))) ∧ (∀ u, u < row + 1 + j ∨ row + 4 ≤ u → D' u = D u) ∧ ∀ r l, rns L bt c p = (r, some l) → l.length = c ∧ ∀ u, u < c → D' (row + 1 + j + u) = kI (l.getD u 0) := by
  intro c
  induction c with
  | zero =>
    intro j p fu D a1 a2 a3
    obtain ⟨g, rfl⟩ : ∃ g, fu = g + 1 := ⟨fu - 1, by omega⟩
    refine ⟨D, ?_, fun _ _ => rfl, fun r l h => ?_⟩
    · simp only [Rl_readCommand_56, rns]
      simp (disch := omega) only [↓nm_eq, ↓bd_x, bdx_s, ↓bx_x, bxx_r, bxx_l, ↓bn_x, bnx_r, chk_t, ↓reduceIte, q32, q64, kI_lt_t, kI_lt_f, kI_le_t, kI_le_f, kI_eq_t, kI_eq_f, kL_lt_t, kL_lt_f, kL_le_t, kL_le_f, kL_eq_t, kL_eq_f, kI_m1, kI_m1', m1_m1, kI_n1, kI_n1', n1_add', eq_self, inb_t, kI_nat, kI_add, kI_mul, kI_sub, kI_div, kI_mod, kI_long, kL_add, kL_mul, kL_sub, kL_div, kL_mod, kL_int, n1_add, not_false_eq_true, not_true_eq_false, and_true, true_and, and_false, false_and, or_true, true_or, or_false, false_or, Nat.reduceEqDiff, IN, IM]
    · simp only [rns] at h
      injection h with h1 h2
      injection h2 with h2
      subst h2
      exact ⟨rfl, fun u hu => by omega⟩
  | succ c ih =>
    intro j p fu D a1 a2 a3
    obtain ⟨g, rfl⟩ : ∃ g, fu = g + 1 := ⟨fu - 1, by omega⟩
    obtain ⟨D1, e1, q1, q2⟩ := ev_readNumberR hL hB (p := p) (j := row + 1 + j) a3 (by omega) (D := D)
    have hb := rn_b hL a3
    simp only [Rl_readCommand_56, rns]
    cases hr : rn L bt p with
    | mk q o =>
      rw [hr] at e1 q2 hb
      cases o with
      | none =>
        have e1' : Rf_readNumber B (kI L) (kI p) D (kI (row + 1 + j)) = some (kI q, D1, kI 0) := e1
        refine ⟨D1, ?_, fun u hu => q1 u (by omega), fun r l h => by injection h with h1 h2; cases h2⟩
        simp (disch := omega) only [↓nm_eq, ↓bd_x, bdx_s, ↓bx_x, bxx_r, bxx_l, ↓bn_x, bnx_r, chk_t, ↓reduceIte, q32, q64, kI_lt_t, kI_lt_f, kI_le_t, kI_le_f, kI_eq_t, kI_eq_f, kL_lt_t, kL_lt_f, kL_le_t, kL_le_f, kL_eq_t, kL_eq_f, kI_m1, kI_m1', m1_m1, kI_n1, kI_n1', n1_add', eq_self, inb_t, kI_nat, kI_add, kI_mul, kI_sub, kI_div, kI_mod, kI_long, kL_add, kL_mul, kL_sub, kL_div, kL_mod, kL_int, n1_add, not_false_eq_true, not_true_eq_false, and_true, true_and, and_false, false_and, or_true, true_or, or_false, false_or, Nat.reduceEqDiff, IN, IM, e1']
      | some v =>
        have e1' : Rf_readNumber B (kI L) (kI p) D (kI (row + 1 + j)) = some (kI q, D1, kI 1) := e1
        (try dsimp only at hb)
        obtain ⟨D2, e2, p1, p2⟩ := ih (j + 1) q g D1 (by omega) (by omega) hb.2
        refine ⟨D2, ?_, fun u hu => (p1 u (by omega)).trans (q1 u (by omega)), fun r l h => ?_⟩
        · simp (disch := omega) only [↓nm_eq, ↓bd_x, bdx_s, ↓bx_x, bxx_r, bxx_l, ↓bn_x, bnx_r, chk_t, ↓reduceIte, q32, q64, kI_lt_t, kI_lt_f, kI_le_t, kI_le_f, kI_eq_t, kI_eq_f, kL_lt_t, kL_lt_f, kL_le_t, kL_le_f, kL_eq_t, kL_eq_f, kI_m1, kI_m1', m1_m1, kI_n1, kI_n1', n1_add', eq_self, inb_t, kI_nat, kI_add, kI_mul, kI_sub, kI_div, kI_mod, kI_long, kL_add, kL_mul, kL_sub, kL_div, kL_mod, kL_int, n1_add, not_false_eq_true, not_true_eq_false, and_true, true_and, and_false, false_and, or_true, true_or, or_false, false_or, Nat.reduceEqDiff, IN, IM, e1', e2]
          cases hr2 : rns L bt c q with
          | mk r o2 =>
            cases o2 with
            | none => rfl
            | some l => rfl
        · (try dsimp only at h)
          cases hr2 : rns L bt c q with
          | mk r2 o2 =>
            rw [hr2] at h
            cases o2 with
            | none => injection h with h1 h2; cases h2
            | some l2 =>
              (try dsimp only at h)
              injection h with h1 h2
              injection h2 with h2
              obtain ⟨k1, k2⟩ := p2 r2 l2 hr2
              subst h2
              refine ⟨by rw [List.length_cons, k1], fun u hu => ?_⟩
              cases u with
              | zero =>
                have := p1 (row + 1 + j) (by omega)
                rw [Nat.add_zero, this]
                exact q2 v rfl
              | succ u =>
                rw [show row + 1 + j + (u + 1) = row + 1 + (j + 1) + u from by omega, k2 u (by omega)]
                rfl
end SCR4
