def skp (P : Nat → Prop) [DecidablePred P] : Nat → Nat → Nat
  | 0, p => p
  | k + 1, p => if P p then skp P k (p + 1) else p
theorem skp_ge (P : Nat → Prop) [DecidablePred P] : ∀ k p, p ≤ skp P k p ∧ skp P k p ≤ p + k := by
  intro k
  induction k with
  | zero => intro p; exact ⟨Nat.le_refl _, Nat.le_refl _⟩
  | succ k ih =>
    intro p
    simp only [skp]
    split
    · have := ih (p + 1)
      omega
    · omega
theorem skp_in (P : Nat → Prop) [DecidablePred P] : ∀ k p u, p ≤ u → u < skp P k p → P u := by
  intro k
  induction k with
  | zero => intro p u h1 h2; simp only [skp] at h2; omega
  | succ k ih =>
    intro p u h1 h2
    simp only [skp] at h2
    by_cases c : P p
    · rw [if_pos c] at h2
      by_cases e : u = p
      · rw [e]; exact c
      · exact ih (p + 1) u (by omega) h2
    · rw [if_neg c] at h2
      omega
theorem skp_out (P : Nat → Prop) [DecidablePred P] : ∀ k p, ¬ P (p + k) → ¬ P (skp P k p) := by
  intro k
  induction k with
  | zero => intro p h; exact h
  | succ k ih =>
    intro p h
    simp only [skp]
    by_cases c : P p
    · rw [if_pos c]
      exact ih (p + 1) (by rw [show p + 1 + k = p + (k + 1) from by omega]; exact h)
    · rw [if_neg c]
      exact c
theorem skp_no (P : Nat → Prop) [DecidablePred P] (k p : Nat) (h : ¬ P p) : skp P k p = p := by
  cases k with
  | zero => rfl
  | succ k => simp only [skp]; rw [if_neg h]
section SCR
variable (L : Nat) (bt : Nat → Nat)
abbrev SP (u : Nat) : Prop := u < L ∧ bt u = 32
abbrev LTR (u : Nat) : Prop := u < L ∧ 97 ≤ bt u ∧ bt u ≤ 122
abbrev DG (u : Nat) : Prop := u < L ∧ 48 ≤ bt u ∧ bt u ≤ 57
abbrev sks (p : Nat) : Nat := skp (SP L bt) 121 p
abbrev skl (p : Nat) : Nat := skp (LTR L bt) 121 p
def dg : Nat → Nat → Nat → Nat × Nat
  | 0, p, v => (p, v)
  | k + 1, p, v => if DG L bt p then dg k (p + 1) (10 * v + bt p - 48) else (p, v)
def rn (p : Nat) : Nat × Option Nat := if SP L bt p then (if DG L bt (sks L bt p) then (if DG L bt (dg L bt 6 (sks L bt p) 0).1 then ((dg L bt 6 (sks L bt p) 0).1, none) else ((dg L bt 6 (sks L bt p) 0).1, some (dg L bt 6 (sks L bt p) 0).2)) else (sks L bt p, none)) else (p, none)
def rns : Nat → Nat → Nat × Option (List Nat)
  | 0, p => (p, some [])
  | c + 1, p => match rn L bt p with
    | (q, none) => (q, none)
    | (q, some v) => match rns c q with
      | (r, none) => (r, none)
      | (r, some l) => (r, some (v :: l))
def wL8 (i : Nat) : Nat := wlen.getD i 0
def wB8 (i k : Nat) : Nat := (([[112, 97, 114, 116], [115, 101, 116], [99, 117, 116], [115, 112, 108, 105, 116], [112, 117, 108, 115, 101], [115, 111, 117, 110, 100], [108, 111, 111, 107], [97, 100, 111, 112, 116]] : List (List Nat)).getD i []).getD k 0
def cn8 (i : Nat) : Nat := ([2, 3, 1, 3, 2, 0, 0, 0] : List Nat).getD i 0
abbrev Wd (i p q : Nat) : Prop := q = p + wL8 i ∧ ∀ k, k < wL8 i → bt (p + k) = wB8 i k
def fw (P : Nat → Prop) [DecidablePred P] : Nat → Nat → Option Nat
  | 0, _ => none
  | k + 1, i => if P i then some i else fw P k (i + 1)
def wi (p q : Nat) : Option Nat := fw (fun i => Wd bt i p q) 8 0
def rc (p : Nat) : Nat × Option (Nat × List Nat) := match wi bt p (skl L bt p) with
  | none => (p, none)
  | some κ => match rns L bt (cn8 κ) (skl L bt p) with
    | (r, none) => (r, none)
    | (r, some l) => if sks L bt r < L ∧ bt (sks L bt r) = 59 then (sks L bt r + 1, some (κ, l)) else (sks L bt r, none)
def ra : Nat → Nat → Nat ⊕ List (Nat × List Nat)
  | 0, _ => .inr []
  | k + 1, p => if L ≤ sks L bt p then .inr [] else match rc L bt (sks L bt p) with
    | (r, none) => .inl r
    | (r, some c) => match ra k r with
      | .inl f => .inl f
      | .inr l => .inr (c :: l)
variable {L bt}
theorem fw_lt (P : Nat → Prop) [DecidablePred P] : ∀ k i κ, fw P k i = some κ → i ≤ κ ∧ κ < i + k ∧ P κ := by
  intro k
  induction k with
  | zero => intro i κ h; simp [fw] at h
  | succ k ih =>
    intro i κ h
    simp only [fw] at h
    by_cases c : P i
    · rw [if_pos c] at h
      have : i = κ := by injection h
      subst this
      exact ⟨Nat.le_refl _, by omega, c⟩
    · rw [if_neg c] at h
      obtain ⟨a, b, d⟩ := ih (i + 1) κ h
      exact ⟨by omega, by omega, d⟩
theorem wi_lt {p q κ : Nat} (h : wi bt p q = some κ) : κ < 8 ∧ Wd bt κ p q := by
  obtain ⟨a, b, d⟩ := fw_lt _ 8 0 κ h
  exact ⟨by omega, d⟩
def SOK (L : Nat) (bt : Nat → Nat) : Prop := L ≤ 120 ∧ ∀ u, u < L → bt u ≤ 127
section CLS
variable {B : Nat → Int32} (hL : SOK L bt) (hB : ∀ u, u < L → B u = kI (bt u))
theorem ev_bh (hL : SOK L bt) (hB : ∀ u, u < L → B u = kI (bt u)) {p : Nat} (hp : p < 1000) : Cf_C_byteHere_scr (kI L) (kI p) B = some (if p < L then kI (bt p) else -1) := by
  have h1 := hL.1
  unfold Cf_C_byteHere_scr Cf_C_byteHere_scr_32 Cf_C_byteHere_scr_33
  by_cases c : p < L
  · rw [if_pos c]
    simp (disch := omega) only [↓nm_eq, ↓bd_x, bdx_s, ↓bx_x, bxx_r, bxx_l, ↓bn_x, bnx_r, chk_t, ↓reduceIte, q32, q64, kI_lt_t, kI_lt_f, kI_le_t, kI_le_f, kI_eq_t, kI_eq_f, kL_lt_t, kL_lt_f, kL_le_t, kL_le_f, kL_eq_t, kL_eq_f, kI_m1, kI_m1', m1_m1, kI_n1, kI_n1', n1_add', eq_self, inb_t, kI_nat, kI_add, kI_mul, kI_sub, kI_div, kI_mod, kI_long, kL_add, kL_mul, kL_sub, kL_div, kL_mod, kL_int, n1_add, not_false_eq_true, not_true_eq_false, and_true, true_and, and_false, false_and, or_true, true_or, or_false, false_or, Nat.reduceEqDiff, IN, IM, hB]
  · rw [if_neg c]
    simp (disch := omega) only [↓nm_eq, ↓bd_x, bdx_s, ↓bx_x, bxx_r, bxx_l, ↓bn_x, bnx_r, chk_t, ↓reduceIte, q32, q64, kI_lt_t, kI_lt_f, kI_le_t, kI_le_f, kI_eq_t, kI_eq_f, kL_lt_t, kL_lt_f, kL_le_t, kL_le_f, kL_eq_t, kL_eq_f, kI_m1, kI_m1', m1_m1, kI_n1, kI_n1', n1_add', eq_self, inb_t, kI_nat, kI_add, kI_mul, kI_sub, kI_div, kI_mod, kI_long, kL_add, kL_mul, kL_sub, kL_div, kL_mod, kL_int, n1_add, not_false_eq_true, not_true_eq_false, and_true, true_and, and_false, false_and, or_true, true_or, or_false, false_or, Nat.reduceEqDiff, IN, IM]
theorem ev_isDigit (hL : SOK L bt) (hB : ∀ u, u < L → B u = kI (bt u)) {p : Nat} (hp : p < 1000) : Cf_C_isDigitHere_scr (kI L) (kI p) B = some (if DG L bt p then kI 1 else kI 0) := by
  have h1 := hL.1
  unfold Cf_C_isDigitHere_scr Cf_C_isDigitHere_scr_22 Cf_C_isDigitHere_scr_23
  rw [ev_bh hL hB hp, bd_s]
  by_cases c : p < L
  · have h2 := hL.2 p c
    rw [if_pos c]
    by_cases d1 : bt p < 48
    · rw [if_neg (show ¬ DG L bt p from fun q => by have := q.2.1; omega)]
      simp (disch := omega) only [↓nm_eq, ↓bd_x, bdx_s, ↓bx_x, bxx_r, bxx_l, ↓bn_x, bnx_r, chk_t, ↓reduceIte, q32, q64, kI_lt_t, kI_lt_f, kI_le_t, kI_le_f, kI_eq_t, kI_eq_f, kL_lt_t, kL_lt_f, kL_le_t, kL_le_f, kL_eq_t, kL_eq_f, kI_m1, kI_m1', m1_m1, kI_n1, kI_n1', n1_add', eq_self, inb_t, kI_nat, kI_add, kI_mul, kI_sub, kI_div, kI_mod, kI_long, kL_add, kL_mul, kL_sub, kL_div, kL_mod, kL_int, n1_add, not_false_eq_true, not_true_eq_false, and_true, true_and, and_false, false_and, or_true, true_or, or_false, false_or, Nat.reduceEqDiff, IN, IM]
    · by_cases d2 : 57 < bt p
      · rw [if_neg (show ¬ DG L bt p from fun q => by have := q.2.2; omega)]
        simp (disch := omega) only [↓nm_eq, ↓bd_x, bdx_s, ↓bx_x, bxx_r, bxx_l, ↓bn_x, bnx_r, chk_t, ↓reduceIte, q32, q64, kI_lt_t, kI_lt_f, kI_le_t, kI_le_f, kI_eq_t, kI_eq_f, kL_lt_t, kL_lt_f, kL_le_t, kL_le_f, kL_eq_t, kL_eq_f, kI_m1, kI_m1', m1_m1, kI_n1, kI_n1', n1_add', eq_self, inb_t, kI_nat, kI_add, kI_mul, kI_sub, kI_div, kI_mod, kI_long, kL_add, kL_mul, kL_sub, kL_div, kL_mod, kL_int, n1_add, not_false_eq_true, not_true_eq_false, and_true, true_and, and_false, false_and, or_true, true_or, or_false, false_or, Nat.reduceEqDiff, IN, IM]
      · rw [if_pos (show DG L bt p from ⟨c, by omega, by omega⟩)]
        simp (disch := omega) only [↓nm_eq, ↓bd_x, bdx_s, ↓bx_x, bxx_r, bxx_l, ↓bn_x, bnx_r, chk_t, ↓reduceIte, q32, q64, kI_lt_t, kI_lt_f, kI_le_t, kI_le_f, kI_eq_t, kI_eq_f, kL_lt_t, kL_lt_f, kL_le_t, kL_le_f, kL_eq_t, kL_eq_f, kI_m1, kI_m1', m1_m1, kI_n1, kI_n1', n1_add', eq_self, inb_t, kI_nat, kI_add, kI_mul, kI_sub, kI_div, kI_mod, kI_long, kL_add, kL_mul, kL_sub, kL_div, kL_mod, kL_int, n1_add, not_false_eq_true, not_true_eq_false, and_true, true_and, and_false, false_and, or_true, true_or, or_false, false_or, Nat.reduceEqDiff, IN, IM]
  · rw [if_neg c, if_neg (show ¬ DG L bt p from fun q => c q.1)]
    rfl
theorem ev_skipSpaces (hL : SOK L bt) (hB : ∀ u, u < L → B u = kI (bt u)) {p : Nat} (hp : p ≤ L) : Cf_C_skipSpaces_scr (kI L) (kI p) B = some (kI (sks L bt p)) := by
  have h1 := hL.1
  have hl : ∀ k p fu, L ≤ p + k → p + k < 900 → k < fu → Cl_C_skipSpaces_scr_0 (kI L) B fu (kI p) = some (kI (skp (SP L bt) k p)) := by
    intro k
    induction k with
    | zero =>
      intro p fu a1 a2 a3
      obtain ⟨g, rfl⟩ : ∃ g, fu = g + 1 := ⟨fu - 1, by omega⟩
      simp only [Cl_C_skipSpaces_scr_0, skp]
      simp (disch := omega) only [↓nm_eq, ↓bd_x, bdx_s, ↓bx_x, bxx_r, bxx_l, ↓bn_x, bnx_r, chk_t, ↓reduceIte, q32, q64, kI_lt_t, kI_lt_f, kI_le_t, kI_le_f, kI_eq_t, kI_eq_f, kL_lt_t, kL_lt_f, kL_le_t, kL_le_f, kL_eq_t, kL_eq_f, kI_m1, kI_m1', m1_m1, kI_n1, kI_n1', n1_add', eq_self, inb_t, kI_nat, kI_add, kI_mul, kI_sub, kI_div, kI_mod, kI_long, kL_add, kL_mul, kL_sub, kL_div, kL_mod, kL_int, n1_add, not_false_eq_true, not_true_eq_false, and_true, true_and, and_false, false_and, or_true, true_or, or_false, false_or, Nat.reduceEqDiff, IN, IM]
    | succ k ih =>
      intro p fu a1 a2 a3
      obtain ⟨g, rfl⟩ : ∃ g, fu = g + 1 := ⟨fu - 1, by omega⟩
      simp only [Cl_C_skipSpaces_scr_0, skp]
      by_cases c : p < L
      · have h2 := hL.2 p c
        have e := ev_bh hL hB (p := p) (by omega)
        rw [if_pos c] at e
        by_cases d : bt p = 32
        · rw [if_pos (show SP L bt p from ⟨c, d⟩)]
          simp (disch := omega) only [↓nm_eq, ↓bd_x, bdx_s, ↓bx_x, bxx_r, bxx_l, ↓bn_x, bnx_r, chk_t, ↓reduceIte, q32, q64, kI_lt_t, kI_lt_f, kI_le_t, kI_le_f, kI_eq_t, kI_eq_f, kL_lt_t, kL_lt_f, kL_le_t, kL_le_f, kL_eq_t, kL_eq_f, kI_m1, kI_m1', m1_m1, kI_n1, kI_n1', n1_add', eq_self, inb_t, kI_nat, kI_add, kI_mul, kI_sub, kI_div, kI_mod, kI_long, kL_add, kL_mul, kL_sub, kL_div, kL_mod, kL_int, n1_add, not_false_eq_true, not_true_eq_false, and_true, true_and, and_false, false_and, or_true, true_or, or_false, false_or, Nat.reduceEqDiff, IN, IM, e]
          exact ih (p + 1) g (by omega) (by omega) (by omega)
        · rw [if_neg (show ¬ SP L bt p from fun q => d q.2)]
          simp (disch := omega) only [↓nm_eq, ↓bd_x, bdx_s, ↓bx_x, bxx_r, bxx_l, ↓bn_x, bnx_r, chk_t, ↓reduceIte, q32, q64, kI_lt_t, kI_lt_f, kI_le_t, kI_le_f, kI_eq_t, kI_eq_f, kL_lt_t, kL_lt_f, kL_le_t, kL_le_f, kL_eq_t, kL_eq_f, kI_m1, kI_m1', m1_m1, kI_n1, kI_n1', n1_add', eq_self, inb_t, kI_nat, kI_add, kI_mul, kI_sub, kI_div, kI_mod, kI_long, kL_add, kL_mul, kL_sub, kL_div, kL_mod, kL_int, n1_add, not_false_eq_true, not_true_eq_false, and_true, true_and, and_false, false_and, or_true, true_or, or_false, false_or, Nat.reduceEqDiff, IN, IM, e]
      · rw [if_neg (show ¬ SP L bt p from fun q => c q.1)]
        simp (disch := omega) only [↓nm_eq, ↓bd_x, bdx_s, ↓bx_x, bxx_r, bxx_l, ↓bn_x, bnx_r, chk_t, ↓reduceIte, q32, q64, kI_lt_t, kI_lt_f, kI_le_t, kI_le_f, kI_eq_t, kI_eq_f, kL_lt_t, kL_lt_f, kL_le_t, kL_le_f, kL_eq_t, kL_eq_f, kI_m1, kI_m1', m1_m1, kI_n1, kI_n1', n1_add', eq_self, inb_t, kI_nat, kI_add, kI_mul, kI_sub, kI_div, kI_mod, kI_long, kL_add, kL_mul, kL_sub, kL_div, kL_mod, kL_int, n1_add, not_false_eq_true, not_true_eq_false, and_true, true_and, and_false, false_and, or_true, true_or, or_false, false_or, Nat.reduceEqDiff, IN, IM]
  have h0 := hl 121 p FUEL (by omega) (by omega) (by have : FUEL = 4096 := rfl; omega)
  unfold Cf_C_skipSpaces_scr Cf_C_skipSpaces_scr_33
  rw [h0, bd_s]
theorem ev_skipLetters (hL : SOK L bt) (hB : ∀ u, u < L → B u = kI (bt u)) {p : Nat} (hp : p ≤ L) : Cf_C_skipLetters_scr (kI L) (kI p) B = some (kI (skl L bt p)) := by
  have h1 := hL.1
  have hl : ∀ k p fu, L ≤ p + k → p + k < 900 → k < fu → Cl_C_skipLetters_scr_0 (kI L) B fu (kI p) = some (kI (skp (LTR L bt) k p)) := by
    intro k
    induction k with
    | zero =>
      intro p fu a1 a2 a3
      obtain ⟨g, rfl⟩ : ∃ g, fu = g + 1 := ⟨fu - 1, by omega⟩
      simp only [Cl_C_skipLetters_scr_0, skp]
      simp (disch := omega) only [↓nm_eq, ↓bd_x, bdx_s, ↓bx_x, bxx_r, bxx_l, ↓bn_x, bnx_r, chk_t, ↓reduceIte, q32, q64, kI_lt_t, kI_lt_f, kI_le_t, kI_le_f, kI_eq_t, kI_eq_f, kL_lt_t, kL_lt_f, kL_le_t, kL_le_f, kL_eq_t, kL_eq_f, kI_m1, kI_m1', m1_m1, kI_n1, kI_n1', n1_add', eq_self, inb_t, kI_nat, kI_add, kI_mul, kI_sub, kI_div, kI_mod, kI_long, kL_add, kL_mul, kL_sub, kL_div, kL_mod, kL_int, n1_add, not_false_eq_true, not_true_eq_false, and_true, true_and, and_false, false_and, or_true, true_or, or_false, false_or, Nat.reduceEqDiff, IN, IM]
    | succ k ih =>
      intro p fu a1 a2 a3
      obtain ⟨g, rfl⟩ : ∃ g, fu = g + 1 := ⟨fu - 1, by omega⟩
      simp only [Cl_C_skipLetters_scr_0, skp]
      by_cases c : p < L
      · have h2 := hL.2 p c
        have e := ev_bh hL hB (p := p) (by omega)
        rw [if_pos c] at e
        by_cases d : bt p < 97
        · rw [if_neg (show ¬ LTR L bt p from fun q => by have := q.2.1; omega)]
          simp (disch := omega) only [↓nm_eq, ↓bd_x, bdx_s, ↓bx_x, bxx_r, bxx_l, ↓bn_x, bnx_r, chk_t, ↓reduceIte, q32, q64, kI_lt_t, kI_lt_f, kI_le_t, kI_le_f, kI_eq_t, kI_eq_f, kL_lt_t, kL_lt_f, kL_le_t, kL_le_f, kL_eq_t, kL_eq_f, kI_m1, kI_m1', m1_m1, kI_n1, kI_n1', n1_add', eq_self, inb_t, kI_nat, kI_add, kI_mul, kI_sub, kI_div, kI_mod, kI_long, kL_add, kL_mul, kL_sub, kL_div, kL_mod, kL_int, n1_add, not_false_eq_true, not_true_eq_false, and_true, true_and, and_false, false_and, or_true, true_or, or_false, false_or, Nat.reduceEqDiff, IN, IM, e]
        · by_cases d2 : 122 < bt p
          · rw [if_neg (show ¬ LTR L bt p from fun q => by have := q.2.2; omega)]
            simp (disch := omega) only [↓nm_eq, ↓bd_x, bdx_s, ↓bx_x, bxx_r, bxx_l, ↓bn_x, bnx_r, chk_t, ↓reduceIte, q32, q64, kI_lt_t, kI_lt_f, kI_le_t, kI_le_f, kI_eq_t, kI_eq_f, kL_lt_t, kL_lt_f, kL_le_t, kL_le_f, kL_eq_t, kL_eq_f, kI_m1, kI_m1', m1_m1, kI_n1, kI_n1', n1_add', eq_self, inb_t, kI_nat, kI_add, kI_mul, kI_sub, kI_div, kI_mod, kI_long, kL_add, kL_mul, kL_sub, kL_div, kL_mod, kL_int, n1_add, not_false_eq_true, not_true_eq_false, and_true, true_and, and_false, false_and, or_true, true_or, or_false, false_or, Nat.reduceEqDiff, IN, IM, e]
          · rw [if_pos (show LTR L bt p from ⟨c, by omega, by omega⟩)]
            simp (disch := omega) only [↓nm_eq, ↓bd_x, bdx_s, ↓bx_x, bxx_r, bxx_l, ↓bn_x, bnx_r, chk_t, ↓reduceIte, q32, q64, kI_lt_t, kI_lt_f, kI_le_t, kI_le_f, kI_eq_t, kI_eq_f, kL_lt_t, kL_lt_f, kL_le_t, kL_le_f, kL_eq_t, kL_eq_f, kI_m1, kI_m1', m1_m1, kI_n1, kI_n1', n1_add', eq_self, inb_t, kI_nat, kI_add, kI_mul, kI_sub, kI_div, kI_mod, kI_long, kL_add, kL_mul, kL_sub, kL_div, kL_mod, kL_int, n1_add, not_false_eq_true, not_true_eq_false, and_true, true_and, and_false, false_and, or_true, true_or, or_false, false_or, Nat.reduceEqDiff, IN, IM, e]
            exact ih (p + 1) g (by omega) (by omega) (by omega)
      · rw [if_neg (show ¬ LTR L bt p from fun q => c q.1)]
        simp (disch := omega) only [↓nm_eq, ↓bd_x, bdx_s, ↓bx_x, bxx_r, bxx_l, ↓bn_x, bnx_r, chk_t, ↓reduceIte, q32, q64, kI_lt_t, kI_lt_f, kI_le_t, kI_le_f, kI_eq_t, kI_eq_f, kL_lt_t, kL_lt_f, kL_le_t, kL_le_f, kL_eq_t, kL_eq_f, kI_m1, kI_m1', m1_m1, kI_n1, kI_n1', n1_add', eq_self, inb_t, kI_nat, kI_add, kI_mul, kI_sub, kI_div, kI_mod, kI_long, kL_add, kL_mul, kL_sub, kL_div, kL_mod, kL_int, n1_add, not_false_eq_true, not_true_eq_false, and_true, true_and, and_false, false_and, or_true, true_or, or_false, false_or, Nat.reduceEqDiff, IN, IM]
  have h0 := hl 121 p FUEL (by omega) (by omega) (by have : FUEL = 4096 := rfl; omega)
  unfold Cf_C_skipLetters_scr Cf_C_skipLetters_scr_42
  rw [h0, bd_s]
end CLS
end SCR
