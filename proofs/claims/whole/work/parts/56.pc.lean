def upN (f : Nat → Nat) (i v : Nat) : Nat → Nat := fun k => if k = i then v else f k
theorem upN_at {f : Nat → Nat} {i v : Nat} : upN f i v i = v := if_pos rfl
theorem upN_ne {f : Nat → Nat} {i v k : Nat} (h : k ≠ i) : upN f i v k = f k := if_neg h
theorem least_ex {P : Nat → Prop} (h : ∃ n, P n) : ∃ n, P n ∧ ∀ m, m < n → ¬ P m := by
  obtain ⟨n, hn⟩ := h
  induction n using Nat.strongRecOn with
  | ind n ih =>
    by_cases q : ∃ m, m < n ∧ P m
    · obtain ⟨m, h1, h2⟩ := q
      exact ih m h1 h2
    · exact ⟨n, hn, fun m hm hp => q ⟨m, hm, hp⟩⟩
def FU (f g : Nat → Nat) (N t : Nat) : Prop := t ≤ N ∧ (∀ u, u < t → f u = g u) ∧ (t < N → f t ≠ g t)
theorem FU_ex (f g : Nat → Nat) (N : Nat) : ∃ t, FU f g N t := by
  obtain ⟨t, h1, h2⟩ := least_ex (P := fun t => t = N ∨ (t < N ∧ f t ≠ g t)) ⟨N, Or.inl rfl⟩
  refine ⟨t, by omega, fun u hu => ?_, fun ht => ?_⟩
  · by_cases q : f u = g u
    · exact q
    · exact absurd (Or.inr ⟨by omega, q⟩) (h2 u hu)
  · rcases h1 with h1 | h1
    · omega
    · exact h1.2
theorem FU_uniq {f g : Nat → Nat} {N t u : Nat} (h : FU f g N t) (k : FU f g N u) : t = u := by
  rcases Nat.lt_trichotomy t u with q | q | q
  · exact absurd (k.2.1 t q) (h.2.2 (by have := k.1; omega))
  · exact q
  · exact absurd (h.2.1 u q) (k.2.2 (by have := h.1; omega))
def pB (s : Sx) (n : Nat) (ln fr : Nat → Nat) : Bn := ⟨n, ln, fr, s.b.ft, s.b.ls, s.b.wn, 1, fun _ => 0, fun _ => s.b.pe 0⟩
def pE (s : Sx) (n : Nat) (ln fr : Nat → Nat) (len p : Nat) : Nat := eN n ln (pB s n ln fr).fq s.b.ls (puP 1 (fun _ => 0) fun _ => s.b.pe 0) len p
def LnOK (n : Nat) (ln fr : Nat → Nat) : Prop := n ≤ 8 ∧ ∀ k, k < n → 1 ≤ ln k ∧ ln k ≤ 20 ∧ fr k ≤ 1000
theorem pB_OK {s : Sx} (hs : s.OK) {n : Nat} {ln fr : Nat → Nat} (h : LnOK n ln fr) : (pB s n ln fr).OK := by
  obtain ⟨⟨h1, h2, h3, h4, h5, h6, h7⟩, h8⟩ := hs
  have hp := h7.2 0 (by omega)
  refine ⟨h.1, h.2, h3, h4, h5, Nat.le_refl 1, (by decide : 1 ≤ 4), fun i hi => ⟨Nat.zero_le 100, hp.2.1, hp.2.2⟩⟩
def PGo (s : Sx) (n : Nat) (ln fr : Nat → Nat) (t : Nat) : Prop := FU s.se (pB s n ln fr).ewB (s.b.wn + 1) t ∧ t ≤ s.b.wn ∧ ¬ s.se t < (pB s n ln fr).ewB t ∧ t % 2 = 0 ∧ 2 * sm ln n < t ∧ t / 2 - sm ln n ≤ 20 ∧ n < 8
def PStep (s : Sx) (n : Nat) (ln fr : Nat → Nat) (len p : Nat) : Prop := ∃ t, PGo s n ln fr t ∧ len = t / 2 - sm ln n ∧ 1 ≤ p ∧ p ≤ 1000 ∧ pE s n ln fr len p = s.se t ∧ ∀ q, 1 ≤ q → q < p → pE s n ln fr len q < s.se t
def PStop (s : Sx) (n : Nat) (ln fr : Nat → Nat) (r : Nat) (tm : Int32) : Prop := ∃ t, FU s.se (pB s n ln fr).ewB (s.b.wn + 1) t ∧ ((t = s.b.wn + 1 ∧ r = 0 ∧ tm = -1) ∨ (t ≤ s.b.wn ∧ tm = kI t ∧ (((s.se t < (pB s n ln fr).ewB t ∨ t % 2 = 1 ∨ t ≤ 2 * sm ln n) ∧ r = 1) ∨ (¬ (s.se t < (pB s n ln fr).ewB t ∨ t % 2 = 1 ∨ t ≤ 2 * sm ln n) ∧ (20 < t / 2 - sm ln n ∨ n = 8) ∧ r = 2) ∨ (PGo s n ln fr t ∧ (∀ p, 1 ≤ p → p ≤ 1000 → pE s n ln fr (t / 2 - sm ln n) p ≠ s.se t) ∧ r = 1))))
def PLk (s : Sx) : Nat → Nat → (Nat → Nat) → (Nat → Nat) → Nat → Int32 → Nat → (Nat → Nat) → (Nat → Nat) → Prop
  | 0, n, ln, fr, r, tm, n', ln', fr' => PStop s n ln fr r tm ∧ n' = n ∧ ln' = ln ∧ fr' = fr
  | k + 1, n, ln, fr, r, tm, n', ln', fr' => ∃ len p, PStep s n ln fr len p ∧ PLk s k (n + 1) (upN ln n len) (upN fr n p) r tm n' ln' fr'
def PL (s : Sx) (n : Nat) (ln fr : Nat → Nat) (r : Nat) (tm : Int32) (n' : Nat) (ln' fr' : Nat → Nat) : Prop := ∃ k, PLk s k n ln fr r tm n' ln' fr'
theorem PL_stop {s : Sx} {n : Nat} {ln fr : Nat → Nat} {r : Nat} {tm : Int32} (h : PStop s n ln fr r tm) : PL s n ln fr r tm n ln fr := ⟨0, h, rfl, rfl, rfl⟩
theorem PL_step {s : Sx} {n : Nat} {ln fr : Nat → Nat} {len p r : Nat} {tm : Int32} {n' : Nat} {ln' fr' : Nat → Nat} (h : PStep s n ln fr len p) (h2 : PL s (n + 1) (upN ln n len) (upN fr n p) r tm n' ln' fr') : PL s n ln fr r tm n' ln' fr' := by
  obtain ⟨k, h2⟩ := h2
  exact ⟨k + 1, len, p, h, h2⟩
theorem PL_ind {s : Sx} (M : Nat → (Nat → Nat) → (Nat → Nat) → Nat → Int32 → Nat → (Nat → Nat) → (Nat → Nat) → Prop) (h0 : ∀ n ln fr r tm, PStop s n ln fr r tm → M n ln fr r tm n ln fr) (h1 : ∀ n ln fr len p r tm n' ln' fr', PStep s n ln fr len p → PL s (n + 1) (upN ln n len) (upN fr n p) r tm n' ln' fr' → M (n + 1) (upN ln n len) (upN fr n p) r tm n' ln' fr' → M n ln fr r tm n' ln' fr') {n : Nat} {ln fr : Nat → Nat} {r : Nat} {tm : Int32} {n' : Nat} {ln' fr' : Nat → Nat} (h : PL s n ln fr r tm n' ln' fr') : M n ln fr r tm n' ln' fr' := by
  obtain ⟨k, h⟩ := h
  induction k generalizing n ln fr with
  | zero =>
    obtain ⟨a, b, c, e⟩ := h
    subst b
    subst c
    subst e
    exact h0 _ _ _ _ _ a
  | succ k ih =>
    obtain ⟨len, p, a, b⟩ := h
    exact h1 _ _ _ len p _ _ _ _ _ a ⟨k, b⟩ (ih b)
theorem PL_inv {s : Sx} {n : Nat} {ln fr : Nat → Nat} {r : Nat} {tm : Int32} {n' : Nat} {ln' fr' : Nat → Nat} (h : PL s n ln fr r tm n' ln' fr') : (PStop s n ln fr r tm ∧ n' = n ∧ ln' = ln ∧ fr' = fr) ∨ ∃ len p, PStep s n ln fr len p ∧ PL s (n + 1) (upN ln n len) (upN fr n p) r tm n' ln' fr' := by
  obtain ⟨k, h⟩ := h
  cases k with
  | zero => exact Or.inl h
  | succ k =>
    obtain ⟨len, p, a, b⟩ := h
    exact Or.inr ⟨len, p, a, k, b⟩
theorem fq_same (s : Sx) (n : Nat) (ln fr ln' fr' : Nat → Nat) (n' : Nat) (hn : n ≤ n') (h : ∀ k, k < n → fr' k = fr k) (j : Nat) (hj : j ≤ n) : (pB s n' ln' fr').fq j = (pB s n ln fr).fq j := by
  show (if j = 0 then s.b.ft else if j ≤ n' then fr' (j - 1) else 0) = if j = 0 then s.b.ft else if j ≤ n then fr (j - 1) else 0
  by_cases h0 : j = 0
  · rw [if_pos h0, if_pos h0]
  · rw [if_neg h0, if_neg h0, if_pos (by omega), if_pos hj, h _ (by omega)]
theorem LnOK_step {n : Nat} {ln fr : Nat → Nat} (h : LnOK n ln fr) (hn : n < 8) {len p : Nat} (h1 : 1 ≤ len) (h2 : len ≤ 20) (h3 : p ≤ 1000) : LnOK (n + 1) (upN ln n len) (upN fr n p) := by
  refine ⟨by omega, fun k hk => ?_⟩
  by_cases e : k = n
  · subst e
    rw [upN_at, upN_at]
    exact ⟨h1, h2, h3⟩
  · rw [upN_ne e, upN_ne e]
    exact h.2 k (by omega)
theorem PStep.ok {s : Sx} {n : Nat} {ln fr : Nat → Nat} {len p : Nat} (hl : LnOK n ln fr) (h : PStep s n ln fr len p) : LnOK (n + 1) (upN ln n len) (upN fr n p) := by
  obtain ⟨t, ⟨h1, h2, h3, h4, h5, h6, h7⟩, h8, h9, h10, h11, h12⟩ := h
  exact LnOK_step hl h7 (by omega) (by omega) h10
theorem pE_mono {s : Sx} (hs : s.OK) {n : Nat} {ln fr : Nat → Nat} (hl : LnOK n ln fr) {len p q : Nat} (h : p ≤ q) : pE s n ln fr len p ≤ pE s n ln fr len q := eN_mono (Bn.fq_le (pB_OK hs hl)) h
theorem PL_ex {s : Sx} (hs : s.OK) : ∀ d n ln fr, 8 - n = d → LnOK n ln fr → ∃ r tm n' ln' fr', PL s n ln fr r tm n' ln' fr' := by
  intro d
  induction d with
  | zero =>
    intro n ln fr hd hl
    have := hl.1
    obtain ⟨t, ht⟩ := FU_ex s.se (pB s n ln fr).ewB (s.b.wn + 1)
    have h1 := ht.1
    by_cases c1 : t = s.b.wn + 1
    · exact ⟨0, -1, n, ln, fr, PL_stop ⟨t, ht, Or.inl ⟨c1, rfl, rfl⟩⟩⟩
    · by_cases c2 : s.se t < (pB s n ln fr).ewB t ∨ t % 2 = 1 ∨ t ≤ 2 * sm ln n
      · exact ⟨1, kI t, n, ln, fr, PL_stop ⟨t, ht, Or.inr ⟨by omega, rfl, Or.inl ⟨c2, rfl⟩⟩⟩⟩
      · exact ⟨2, kI t, n, ln, fr, PL_stop ⟨t, ht, Or.inr ⟨by omega, rfl, Or.inr (Or.inl ⟨c2, by omega, rfl⟩)⟩⟩⟩
  | succ d ih =>
    intro n ln fr hd hl
    obtain ⟨t, ht⟩ := FU_ex s.se (pB s n ln fr).ewB (s.b.wn + 1)
    have h1 := ht.1
    by_cases c1 : t = s.b.wn + 1
    · exact ⟨0, -1, n, ln, fr, PL_stop ⟨t, ht, Or.inl ⟨c1, rfl, rfl⟩⟩⟩
    · by_cases c2 : s.se t < (pB s n ln fr).ewB t ∨ t % 2 = 1 ∨ t ≤ 2 * sm ln n
      · exact ⟨1, kI t, n, ln, fr, PL_stop ⟨t, ht, Or.inr ⟨by omega, rfl, Or.inl ⟨c2, rfl⟩⟩⟩⟩
      · by_cases c3 : 20 < t / 2 - sm ln n ∨ n = 8
        · exact ⟨2, kI t, n, ln, fr, PL_stop ⟨t, ht, Or.inr ⟨by omega, rfl, Or.inr (Or.inl ⟨c2, c3, rfl⟩)⟩⟩⟩
        · have hgo : PGo s n ln fr t := ⟨ht, by omega, fun q => c2 (Or.inl q), by omega, by omega, by omega, by omega⟩
          by_cases c4 : ∃ p, (1 ≤ p ∧ p ≤ 1000) ∧ s.se t ≤ pE s n ln fr (t / 2 - sm ln n) p
          · obtain ⟨p, ⟨⟨p1, p2⟩, p3⟩, p4⟩ := least_ex c4
            by_cases c5 : pE s n ln fr (t / 2 - sm ln n) p = s.se t
            · have hst : PStep s n ln fr (t / 2 - sm ln n) p := ⟨t, hgo, rfl, p1, p2, c5, fun q q1 q2 => by
                have := p4 q q2
                by_cases w : s.se t ≤ pE s n ln fr (t / 2 - sm ln n) q
                · exact absurd ⟨⟨q1, by omega⟩, w⟩ this
                · omega⟩
              obtain ⟨r, tm, n', ln', fr', h⟩ := ih (n + 1) _ _ (by omega) (hst.ok hl)
              exact ⟨r, tm, n', ln', fr', PL_step hst h⟩
            · refine ⟨1, kI t, n, ln, fr, PL_stop ⟨t, ht, Or.inr ⟨by omega, rfl, Or.inr (Or.inr ⟨hgo, fun q q1 q2 q3 => ?_, rfl⟩)⟩⟩⟩
              by_cases w : q < p
              · exact p4 q w ⟨⟨q1, q2⟩, by omega⟩
              · have := pE_mono hs hl (len := t / 2 - sm ln n) (show p ≤ q by omega)
                omega
          · refine ⟨1, kI t, n, ln, fr, PL_stop ⟨t, ht, Or.inr ⟨by omega, rfl, Or.inr (Or.inr ⟨hgo, fun q q1 q2 q3 => ?_, rfl⟩)⟩⟩⟩
            exact c4 ⟨q, ⟨q1, q2⟩, by omega⟩
section PC
variable {s : Sx} {n : Nat} {ln fr : Nat → Nat} {ℓ φ : Nat → Int32} {tN : Nat → Nat → Int64}
theorem ev_kept {ls e : Nat} (h1 : ls ≤ 1000) (h2 : e < 1000000000) : Cf_P_kept_peel (kI ls) (kL e) = some (kL (kp ls e)) := by
  unfold Cf_P_kept_peel Cf_P_kept_peel_18 kp
  by_cases h : e < ls
  · simp (disch := omega) only [↓nm_eq, ↓bd_x, bdx_s, ↓bx_x, bxx_r, bxx_l, ↓bn_x, bnx_r, chk_t, ↓reduceIte, q32, q64, kI_lt_t, kI_lt_f, kI_le_t, kI_le_f, kI_eq_t, kI_eq_f, kL_lt_t, kL_lt_f, kL_le_t, kL_le_f, kL_eq_t, kL_eq_f, kI_m1, kI_m1', m1_m1, kI_n1, kI_n1', n1_add', eq_self, inb_t, kI_nat, kI_add, kI_mul, kI_sub, kI_div, kI_mod, kI_long, kL_add, kL_mul, kL_sub, kL_div, kL_mod, kL_int, n1_add, not_false_eq_true, not_true_eq_false, and_true, true_and, and_false, false_and, or_true, true_or, or_false, false_or, Nat.reduceEqDiff, h]
  · simp (disch := omega) only [↓nm_eq, ↓bd_x, bdx_s, ↓bx_x, bxx_r, bxx_l, ↓bn_x, bnx_r, chk_t, ↓reduceIte, q32, q64, kI_lt_t, kI_lt_f, kI_le_t, kI_le_f, kI_eq_t, kI_eq_f, kL_lt_t, kL_lt_f, kL_le_t, kL_le_f, kL_eq_t, kL_eq_f, kI_m1, kI_m1', m1_m1, kI_n1, kI_n1', n1_add', eq_self, inb_t, kI_nat, kI_add, kI_mul, kI_sub, kI_div, kI_mod, kI_long, kL_add, kL_mul, kL_sub, kL_div, kL_mod, kL_int, n1_add, not_false_eq_true, not_true_eq_false, and_true, true_and, and_false, false_and, or_true, true_or, or_false, false_or, Nat.reduceEqDiff, h]
theorem ev_reachQ {k N : Nat} (hk : k ≤ N) (hN : N ≤ 8) (hℓ : ∀ i, i < N → ℓ i = kI (ln i)) : Cf_B_reach_q ℓ (kI k) = some (kI (sm ln k)) := by
  obtain ⟨a, e, q⟩ := loop_gen (L := fun fu (s : Int32) x => Cl_B_reach_q_4 ℓ (kI k) fu s x) (fun i s => s = kI (sm ln i)) (fun s => s = kI (sm ln k)) k (fun fu i s hi hs => by
      refine Or.inr ⟨_, ?_, rfl⟩
      subst hs
      simp only [Cl_B_reach_q_4]
      simp (disch := omega) only [↓nm_eq, ↓bd_x, bdx_s, ↓bx_x, bxx_r, bxx_l, ↓bn_x, bnx_r, chk_t, ↓reduceIte, q32, q64, kI_lt_t, kI_lt_f, kI_le_t, kI_le_f, kI_eq_t, kI_eq_f, kL_lt_t, kL_lt_f, kL_le_t, kL_le_f, kL_eq_t, kL_eq_f, kI_m1, kI_m1', m1_m1, kI_n1, kI_n1', n1_add', eq_self, inb_t, kI_nat, kI_add, kI_mul, kI_sub, kI_div, kI_mod, kI_long, kL_add, kL_mul, kL_sub, kL_div, kL_mod, kL_int, n1_add, not_false_eq_true, not_true_eq_false, and_true, true_and, and_false, false_and, or_true, true_or, or_false, false_or, Nat.reduceEqDiff, hℓ]
      rfl)
    (fun fu s hs => ⟨s, by simp only [Cl_B_reach_q_4]; simp (disch := omega) only [↓nm_eq, ↓bd_x, bdx_s, ↓bx_x, bxx_r, bxx_l, ↓bn_x, bnx_r, chk_t, ↓reduceIte, q32, q64, kI_lt_t, kI_lt_f, kI_le_t, kI_le_f, kI_eq_t, kI_eq_f, kL_lt_t, kL_lt_f, kL_le_t, kL_le_f, kL_eq_t, kL_eq_f, kI_m1, kI_m1', m1_m1, kI_n1, kI_n1', n1_add', eq_self, inb_t, kI_nat, kI_add, kI_mul, kI_sub, kI_div, kI_mod, kI_long, kL_add, kL_mul, kL_sub, kL_div, kL_mod, kL_int, n1_add, not_false_eq_true, not_true_eq_false, and_true, true_and, and_false, false_and, or_true, true_or, or_false, false_or, Nat.reduceEqDiff], hs⟩) FUEL 0 (kI 0) (by have : FUEL = 4096 := rfl; omega) (by omega) rfl
  subst q
  unfold Cf_B_reach_q Cf_B_reach_q_30
  rw [q32, bd_e e]
theorem sm_ln_le (hl : LnOK n ln fr) : ∀ k, k ≤ n → sm ln k ≤ 160 := fun k hk => by
  have h1 : sm ln k ≤ k * 20 := sm_bound fun i hi => (hl.2 i (by omega)).2.1
  have := hl.1
  omega
theorem AN_b (hs : s.OK) (hl : LnOK n ln fr) (j t : Nat) : AN n ln (pB s n ln fr).fq s.b.ls (puP 1 (fun _ => 0) fun _ => s.b.pe 0) j t ≤ 4000000 := AN_le (Bn.LOK (pB_OK hs hl)).l1 (Bn.fq_le (pB_OK hs hl)) (Bn.LOK (pB_OK hs hl)).2.2.2.2 j t
theorem beyond_b (hs : s.OK) (hl : LnOK n ln fr) : beyond n ln (pB s n ln fr).fq s.b.ls (puP 1 (fun _ => 0) fun _ => s.b.pe 0) ≤ 4000000 := by
  unfold beyond
  split
  · refine Nat.le_trans (kp_le _ _) ?_
    have := (Bn.LOK (pB_OK hs hl)).2.2.2.2 1
    exact Nat.le_trans (Nat.le_add_left _ _) this
  · refine Nat.le_trans (kp_le _ _) ?_
    have := AN_b hs hl n (sm ln n)
    omega
theorem cb_b (hs : s.OK) (hl : LnOK n ln fr) {len p : Nat} (hp : p ≤ 1000) : ∀ i, cb n ln (pB s n ln fr).fq s.b.ls (puP 1 (fun _ => 0) fun _ => s.b.pe 0) len p i ≤ 4000000 := by
  intro i
  induction i with
  | zero =>
    refine Nat.le_trans (kp_le _ _) (Nat.le_trans (bk_le hp) (beyond_b hs hl))
  | succ i ih =>
    simp only [cb]
    exact Nat.le_trans (kp_le _ _) (mix_le (AN_b hs hl _ _) ih (Bn.fq_le (pB_OK hs hl) _))
theorem pfq_s (k : Nat) (hk : k < n) : (pB s n ln fr).fq (k + 1) = fr k := by
  show (if k + 1 = 0 then s.b.ft else if k + 1 ≤ n then fr (k + 1 - 1) else 0) = fr k
  rw [if_neg (by omega), if_pos (by omega), Nat.add_sub_cancel]
theorem ev_newEnd (hs : s.OK) (hl : LnOK n ln fr) (hℓ : ∀ i, i < n → ℓ i = kI (ln i)) (hφ : ∀ i, i < n → φ i = kI (fr i)) {len : Nat} (hlen : 2 * (sm ln n + len) ≤ s.b.wn) (hT : ∀ j t, j < 9 → t ≤ s.b.wn → tN j t = kL (AN n ln (pB s n ln fr).fq s.b.ls (puP 1 (fun _ => 0) fun _ => s.b.pe 0) j t)) {p : Nat} (hp : p ≤ 1000) :
    Cf_P_echoOfNewEnd_peel (kI n) (kI s.b.ft) (kI s.b.ls) ℓ φ tN (kL (beyond n ln (pB s n ln fr).fq s.b.ls (puP 1 (fun _ => 0) fun _ => s.b.pe 0))) (kI p) (kI (2 * (sm ln n + len) - sm ln n)) = some (kL (pE s n ln fr len p)) := by
  have hn := hl.1
  have hls : s.b.ls ≤ 1000 := hs.1.2.2.2.1
  have hft : s.b.ft ≤ 999 := hs.1.2.2.1
  have hw : s.b.wn ≤ 200 := hs.1.2.2.2.2.1.2
  have hb := beyond_b hs hl
  have hcb := fun i => cb_b hs hl (len := len) hp i
  have hloop : ∀ i fu, i ≤ n → n - i < fu → Cl_P_echoOfNewEnd_peel_24 (kI s.b.ls) ℓ φ tN fu (kL (cb n ln (pB s n ln fr).fq s.b.ls (puP 1 (fun _ => 0) fun _ => s.b.pe 0) len p i)) (kI (2 * (sm ln n + len) - sm ln (n - i))) (kI (n - i)) = some (kL (cb n ln (pB s n ln fr).fq s.b.ls (puP 1 (fun _ => 0) fun _ => s.b.pe 0) len p n)) := by
    intro i fu
    induction fu generalizing i with
    | zero => intro _ h; omega
    | succ fu ih =>
      intro hi hf
      simp only [Cl_P_echoOfNewEnd_peel_24]
      by_cases e : i = n
      · subst e
        rw [Nat.sub_self]
        simp (disch := omega) only [↓nm_eq, ↓bd_x, bdx_s, ↓bx_x, bxx_r, bxx_l, ↓bn_x, bnx_r, chk_t, ↓reduceIte, q32, q64, kI_lt_t, kI_lt_f, kI_le_t, kI_le_f, kI_eq_t, kI_eq_f, kL_lt_t, kL_lt_f, kL_le_t, kL_le_f, kL_eq_t, kL_eq_f, kI_m1, kI_m1', m1_m1, kI_n1, kI_n1', n1_add', eq_self, inb_t, kI_nat, kI_add, kI_mul, kI_sub, kI_div, kI_mod, kI_long, kL_add, kL_mul, kL_sub, kL_div, kL_mod, kL_int, n1_add, not_false_eq_true, not_true_eq_false, and_true, true_and, and_false, false_and, or_true, true_or, or_false, false_or, Nat.reduceEqDiff]
      · have h1 := ih (i + 1) (by omega) (by omega)
        have h2 := hcb i
        have h3 : sm ln (n - i) ≤ sm ln n := sm_mono ln (by omega)
        have h4 := sm_p ln (show 1 ≤ n - i by omega)
        have h5 := sm_ln_le hl n (Nat.le_refl n)
        have h6 := AN_b hs hl (n - i) (2 * (sm ln n + len) - sm ln (n - i))
        have h7 : fr (n - i - 1) ≤ 1000 := (hl.2 _ (by omega)).2.2
        have h8 := (hl.2 (n - i - 1) (by omega)).1
        have h9 : (pB s n ln fr).fq (n - i) = fr (n - i - 1) := by
          have := pfq_s (s := s) (ln := ln) (fr := fr) (n - i - 1) (show n - i - 1 < n by omega)
          rw [show n - i - 1 + 1 = n - i from by omega] at this
          exact this
        have h10 := bk_le (a := cb n ln (pB s n ln fr).fq s.b.ls (puP 1 (fun _ => 0) fun _ => s.b.pe 0) len p i) h7
        have h11 := bk_le (a := AN n ln (pB s n ln fr).fq s.b.ls (puP 1 (fun _ => 0) fun _ => s.b.pe 0) (n - i) (2 * (sm ln n + len) - sm ln (n - i))) h7
        have e1 : cb n ln (pB s n ln fr).fq s.b.ls (puP 1 (fun _ => 0) fun _ => s.b.pe 0) len p (i + 1) = kp s.b.ls (cb n ln (pB s n ln fr).fq s.b.ls (puP 1 (fun _ => 0) fun _ => s.b.pe 0) len p i - bk (cb n ln (pB s n ln fr).fq s.b.ls (puP 1 (fun _ => 0) fun _ => s.b.pe 0) len p i) (fr (n - i - 1)) + bk (AN n ln (pB s n ln fr).fq s.b.ls (puP 1 (fun _ => 0) fun _ => s.b.pe 0) (n - i) (2 * (sm ln n + len) - sm ln (n - i))) (fr (n - i - 1))) := by
          simp only [cb]
          rw [h9, Nat.add_comm]
        rw [e1, show n - (i + 1) = n - i - 1 from by omega, show 2 * (sm ln n + len) - sm ln (n - i - 1) = 2 * (sm ln n + len) - sm ln (n - i) + ln (n - i - 1) from by omega] at h1
        simp (disch := omega) only [↓nm_eq, ↓bd_x, bdx_s, ↓bx_x, bxx_r, bxx_l, ↓bn_x, bnx_r, chk_t, ↓reduceIte, q32, q64, kI_lt_t, kI_lt_f, kI_le_t, kI_le_f, kI_eq_t, kI_eq_f, kL_lt_t, kL_lt_f, kL_le_t, kL_le_f, kL_eq_t, kL_eq_f, kI_m1, kI_m1', m1_m1, kI_n1, kI_n1', n1_add', eq_self, inb_t, kI_nat, kI_add, kI_mul, kI_sub, kI_div, kI_mod, kI_long, kL_add, kL_mul, kL_sub, kL_div, kL_mod, kL_int, n1_add, not_false_eq_true, not_true_eq_false, and_true, true_and, and_false, false_and, or_true, true_or, or_false, false_or, Nat.reduceEqDiff, hℓ, hφ, hT, ev_back, ev_kept, h1]
  have h0 := hloop 0 FUEL (by omega) (by have : FUEL = 4096 := rfl; omega)
  rw [Nat.sub_zero] at h0
  have e0 : cb n ln (pB s n ln fr).fq s.b.ls (puP 1 (fun _ => 0) fun _ => s.b.pe 0) len p 0 = kp s.b.ls (bk (beyond n ln (pB s n ln fr).fq s.b.ls (puP 1 (fun _ => 0) fun _ => s.b.pe 0)) p) := rfl
  rw [e0] at h0
  have h10 := bk_le (a := beyond n ln (pB s n ln fr).fq s.b.ls (puP 1 (fun _ => 0) fun _ => s.b.pe 0)) hp
  have h11 := hcb n
  have h12 := bk_le (a := cb n ln (pB s n ln fr).fq s.b.ls (puP 1 (fun _ => 0) fun _ => s.b.pe 0) len p n) (show s.b.ft ≤ 1000 by omega)
  unfold Cf_P_echoOfNewEnd_peel
  simp (disch := omega) only [↓nm_eq, ↓bd_x, bdx_s, ↓bx_x, bxx_r, bxx_l, ↓bn_x, bnx_r, chk_t, ↓reduceIte, q32, q64, kI_lt_t, kI_lt_f, kI_le_t, kI_le_f, kI_eq_t, kI_eq_f, kL_lt_t, kL_lt_f, kL_le_t, kL_le_f, kL_eq_t, kL_eq_f, kI_m1, kI_m1', m1_m1, kI_n1, kI_n1', n1_add', eq_self, inb_t, kI_nat, kI_add, kI_mul, kI_sub, kI_div, kI_mod, kI_long, kL_add, kL_mul, kL_sub, kL_div, kL_mod, kL_int, n1_add, not_false_eq_true, not_true_eq_false, and_true, true_and, and_false, false_and, or_true, true_or, or_false, false_or, Nat.reduceEqDiff, ev_back, ev_kept, h0]
  rfl
theorem ev_beyond (hs : s.OK) (hl : LnOK n ln fr) (hφ : ∀ i, i < n → φ i = kI (fr i)) {pec : Nat → Int32} (he : pec 0 = kI (s.b.pe 0)) (hlen : sm ln n ≤ s.b.wn) (hT : ∀ j t, j < 9 → t ≤ s.b.wn → tN j t = kL (AN n ln (pB s n ln fr).fq s.b.ls (puP 1 (fun _ => 0) fun _ => s.b.pe 0) j t)) :
    Cf_P_energyBeyondEnd_peel (kI n) (kI s.b.ls) φ pec tN (kI (sm ln n)) = some (kL (beyond n ln (pB s n ln fr).fq s.b.ls (puP 1 (fun _ => 0) fun _ => s.b.pe 0))) := by
  have hn := hl.1
  have hls : s.b.ls ≤ 1000 := hs.1.2.2.2.1
  have hw : s.b.wn ≤ 200 := hs.1.2.2.2.2.1.2
  have hpe := (hs.1.2.2.2.2.2.2.2 0 (by have := hs.1.2.2.2.2.2.1; omega)).2.2
  unfold Cf_P_energyBeyondEnd_peel beyond
  by_cases h0 : n = 0
  · subst h0
    have e1 : puP 1 (fun _ => 0) (fun _ => s.b.pe 0) 0 = s.b.pe 0 := by simp [puP, sm]
    simp (disch := omega) only [↓nm_eq, ↓bd_x, bdx_s, ↓bx_x, bxx_r, bxx_l, ↓bn_x, bnx_r, chk_t, ↓reduceIte, q32, q64, kI_lt_t, kI_lt_f, kI_le_t, kI_le_f, kI_eq_t, kI_eq_f, kL_lt_t, kL_lt_f, kL_le_t, kL_le_f, kL_eq_t, kL_eq_f, kI_m1, kI_m1', m1_m1, kI_n1, kI_n1', n1_add', eq_self, inb_t, kI_nat, kI_add, kI_mul, kI_sub, kI_div, kI_mod, kI_long, kL_add, kL_mul, kL_sub, kL_div, kL_mod, kL_int, n1_add, not_false_eq_true, not_true_eq_false, and_true, true_and, and_false, false_and, or_true, true_or, or_false, false_or, Nat.reduceEqDiff, he, ev_kept, e1]
  · have h6 := AN_b hs hl n (sm ln n)
    have h7 : fr (n - 1) ≤ 1000 := (hl.2 _ (by omega)).2.2
    have h9 : (pB s n ln fr).fq n = fr (n - 1) := by
      have := pfq_s (s := s) (ln := ln) (fr := fr) (n - 1) (show n - 1 < n by omega)
      rw [show n - 1 + 1 = n from by omega] at this
      exact this
    have h11 := bk_le (a := AN n ln (pB s n ln fr).fq s.b.ls (puP 1 (fun _ => 0) fun _ => s.b.pe 0) n (sm ln n)) h7
    rw [h9]
    simp (disch := omega) only [↓nm_eq, ↓bd_x, bdx_s, ↓bx_x, bxx_r, bxx_l, ↓bn_x, bnx_r, chk_t, ↓reduceIte, q32, q64, kI_lt_t, kI_lt_f, kI_le_t, kI_le_f, kI_eq_t, kI_eq_f, kL_lt_t, kL_lt_f, kL_le_t, kL_le_f, kL_eq_t, kL_eq_f, kI_m1, kI_m1', m1_m1, kI_n1, kI_n1', n1_add', eq_self, inb_t, kI_nat, kI_add, kI_mul, kI_sub, kI_div, kI_mod, kI_long, kL_add, kL_mul, kL_sub, kL_div, kL_mod, kL_int, n1_add, not_false_eq_true, not_true_eq_false, and_true, true_and, and_false, false_and, or_true, true_or, or_false, false_or, Nat.reduceEqDiff, hφ, hT, ev_kept, ev_back, h0]
end PC
