theorem pfq_0 (s : Sx) (n : Nat) (ln fr : Nat → Nat) : (pB s n ln fr).fq 0 = s.b.ft := rfl
section PC3
variable {s : Sx} {n : Nat} {ln fr : Nat → Nat} {ℓ φ : Nat → Int32}
theorem pew_le (hs : s.OK) (hl : LnOK n ln fr) (t : Nat) : (pB s n ln fr).ewB t ≤ 4000000 := ew_le (Bn.LOK (pB_OK hs hl)) t
theorem ev_next (hs : s.OK) (hl : LnOK n ln fr) {seen tE : Nat → Int64} (hsn : ∀ t, t < 201 → seen t = kL (s.se t)) (hE : ∀ t, t < 201 → tE t = kL ((pB s n ln fr).ewB t)) (hℓ : ∀ i, i < n → ℓ i = kI (ln i)) {t : Nat} (ht : FU s.se (pB s n ln fr).ewB (s.b.wn + 1) t) {res et : Int32} :
    Cf_P_timeOfNextPart_peel_n_seen seen res et (kI n) (kI s.b.wn) ℓ tE = some (if t = s.b.wn + 1 then (kI 0, -1, -1) else if s.se t < (pB s n ln fr).ewB t ∨ t % 2 = 1 ∨ t ≤ 2 * sm ln n then (kI 1, kI t, -1) else if 20 < t / 2 - sm ln n ∨ n = 8 then (kI 2, kI t, -1) else (res, et, kI t)) := by
  have hn := hl.1
  have hw : s.b.wn ≤ 200 := hs.1.2.2.2.2.1.2
  have hsm := sm_ln_le hl n (Nat.le_refl n)
  have e0 := ev_firstUnequalT hsn hE (fun t ht => (hs.2 t ht).2) (fun t _ => pew_le hs hl t) hw ht
  have e1 := ev_reachQ (Nat.le_refl n) hn hℓ
  have ht1 := ht.1
  unfold Cf_P_timeOfNextPart_peel_n_seen Cf_P_timeOfNextPart_peel_n_seen_76 Cf_P_timeOfNextPart_peel_n_seen_106 Cf_P_endWith_peel
  by_cases c1 : t = s.b.wn + 1
  · rw [if_pos c1]
    rw [if_neg (by omega)] at e0
    simp (disch := omega) only [↓nm_eq, ↓bd_x, bdx_s, ↓bx_x, bxx_r, bxx_l, ↓bn_x, bnx_r, chk_t, ↓reduceIte, q32, q64, kI_lt_t, kI_lt_f, kI_le_t, kI_le_f, kI_eq_t, kI_eq_f, kL_lt_t, kL_lt_f, kL_le_t, kL_le_f, kL_eq_t, kL_eq_f, kI_m1, kI_m1', m1_m1, kI_n1, kI_n1', n1_add', eq_self, inb_t, kI_nat, kI_add, kI_mul, kI_sub, kI_div, kI_mod, kI_long, kL_add, kL_mul, kL_sub, kL_div, kL_mod, kL_int, n1_add, not_false_eq_true, not_true_eq_false, and_true, true_and, and_false, false_and, or_true, true_or, or_false, false_or, Nat.reduceEqDiff, e0]
  · have b1 := (hs.2 t (by omega)).2
    have b2 := pew_le hs hl t
    rw [if_neg c1]
    rw [if_pos (by omega)] at e0
    by_cases c2 : s.se t < (pB s n ln fr).ewB t
    · rw [if_pos (Or.inl c2)]
      simp (disch := omega) only [↓nm_eq, ↓bd_x, bdx_s, ↓bx_x, bxx_r, bxx_l, ↓bn_x, bnx_r, chk_t, ↓reduceIte, q32, q64, kI_lt_t, kI_lt_f, kI_le_t, kI_le_f, kI_eq_t, kI_eq_f, kL_lt_t, kL_lt_f, kL_le_t, kL_le_f, kL_eq_t, kL_eq_f, kI_m1, kI_m1', m1_m1, kI_n1, kI_n1', n1_add', eq_self, inb_t, kI_nat, kI_add, kI_mul, kI_sub, kI_div, kI_mod, kI_long, kL_add, kL_mul, kL_sub, kL_div, kL_mod, kL_int, n1_add, not_false_eq_true, not_true_eq_false, and_true, true_and, and_false, false_and, or_true, true_or, or_false, false_or, Nat.reduceEqDiff, e0, e1, hsn, hE, c2]
    · by_cases c3 : t % 2 = 1
      · rw [if_pos (Or.inr (Or.inl c3))]
        simp (disch := omega) only [↓nm_eq, ↓bd_x, bdx_s, ↓bx_x, bxx_r, bxx_l, ↓bn_x, bnx_r, chk_t, ↓reduceIte, q32, q64, kI_lt_t, kI_lt_f, kI_le_t, kI_le_f, kI_eq_t, kI_eq_f, kL_lt_t, kL_lt_f, kL_le_t, kL_le_f, kL_eq_t, kL_eq_f, kI_m1, kI_m1', m1_m1, kI_n1, kI_n1', n1_add', eq_self, inb_t, kI_nat, kI_add, kI_mul, kI_sub, kI_div, kI_mod, kI_long, kL_add, kL_mul, kL_sub, kL_div, kL_mod, kL_int, n1_add, not_false_eq_true, not_true_eq_false, and_true, true_and, and_false, false_and, or_true, true_or, or_false, false_or, Nat.reduceEqDiff, e0, e1, hsn, hE, c2]
      · by_cases c4 : t ≤ 2 * sm ln n
        · rw [if_pos (Or.inr (Or.inr c4))]
          simp (disch := omega) only [↓nm_eq, ↓bd_x, bdx_s, ↓bx_x, bxx_r, bxx_l, ↓bn_x, bnx_r, chk_t, ↓reduceIte, q32, q64, kI_lt_t, kI_lt_f, kI_le_t, kI_le_f, kI_eq_t, kI_eq_f, kL_lt_t, kL_lt_f, kL_le_t, kL_le_f, kL_eq_t, kL_eq_f, kI_m1, kI_m1', m1_m1, kI_n1, kI_n1', n1_add', eq_self, inb_t, kI_nat, kI_add, kI_mul, kI_sub, kI_div, kI_mod, kI_long, kL_add, kL_mul, kL_sub, kL_div, kL_mod, kL_int, n1_add, not_false_eq_true, not_true_eq_false, and_true, true_and, and_false, false_and, or_true, true_or, or_false, false_or, Nat.reduceEqDiff, e0, e1, hsn, hE, c2]
        · rw [if_neg (by omega)]
          by_cases c5 : 20 < t / 2 - sm ln n
          · rw [if_pos (Or.inl c5)]
            simp (disch := omega) only [↓nm_eq, ↓bd_x, bdx_s, ↓bx_x, bxx_r, bxx_l, ↓bn_x, bnx_r, chk_t, ↓reduceIte, q32, q64, kI_lt_t, kI_lt_f, kI_le_t, kI_le_f, kI_eq_t, kI_eq_f, kL_lt_t, kL_lt_f, kL_le_t, kL_le_f, kL_eq_t, kL_eq_f, kI_m1, kI_m1', m1_m1, kI_n1, kI_n1', n1_add', eq_self, inb_t, kI_nat, kI_add, kI_mul, kI_sub, kI_div, kI_mod, kI_long, kL_add, kL_mul, kL_sub, kL_div, kL_mod, kL_int, n1_add, not_false_eq_true, not_true_eq_false, and_true, true_and, and_false, false_and, or_true, true_or, or_false, false_or, Nat.reduceEqDiff, e0, e1, hsn, hE, c2]
          · by_cases c6 : n = 8
            · rw [if_pos (Or.inr c6)]
              simp (disch := omega) only [↓nm_eq, ↓bd_x, bdx_s, ↓bx_x, bxx_r, bxx_l, ↓bn_x, bnx_r, chk_t, ↓reduceIte, q32, q64, kI_lt_t, kI_lt_f, kI_le_t, kI_le_f, kI_eq_t, kI_eq_f, kL_lt_t, kL_lt_f, kL_le_t, kL_le_f, kL_eq_t, kL_eq_f, kI_m1, kI_m1', m1_m1, kI_n1, kI_n1', n1_add', eq_self, inb_t, kI_nat, kI_add, kI_mul, kI_sub, kI_div, kI_mod, kI_long, kL_add, kL_mul, kL_sub, kL_div, kL_mod, kL_int, n1_add, not_false_eq_true, not_true_eq_false, and_true, true_and, and_false, false_and, or_true, true_or, or_false, false_or, Nat.reduceEqDiff, e0, e1, hsn, hE, c2]
            · rw [if_neg (by omega)]
              simp (disch := omega) only [↓nm_eq, ↓bd_x, bdx_s, ↓bx_x, bxx_r, bxx_l, ↓bn_x, bnx_r, chk_t, ↓reduceIte, q32, q64, kI_lt_t, kI_lt_f, kI_le_t, kI_le_f, kI_eq_t, kI_eq_f, kL_lt_t, kL_lt_f, kL_le_t, kL_le_f, kL_eq_t, kL_eq_f, kI_m1, kI_m1', m1_m1, kI_n1, kI_n1', n1_add', eq_self, inb_t, kI_nat, kI_add, kI_mul, kI_sub, kI_div, kI_mod, kI_long, kL_add, kL_mul, kL_sub, kL_div, kL_mod, kL_int, n1_add, not_false_eq_true, not_true_eq_false, and_true, true_and, and_false, false_and, or_true, true_or, or_false, false_or, Nat.reduceEqDiff, e0, e1, hsn, hE, c2]
theorem ev_appendQ {len p : Nat} (hn : n < 8) : Cf_B_append_q (kI n) ℓ φ (kI len) (kI p) = some (kI (n + 1), upd ℓ n (kI len), upd φ n (kI p), kI (n + 1)) := by
  unfold Cf_B_append_q Cf_B_append_q_39
  simp (disch := omega) only [↓nm_eq, ↓bd_x, bdx_s, ↓bx_x, bxx_r, bxx_l, ↓bn_x, bnx_r, chk_t, ↓reduceIte, q32, q64, kI_lt_t, kI_lt_f, kI_le_t, kI_le_f, kI_eq_t, kI_eq_f, kL_lt_t, kL_lt_f, kL_le_t, kL_le_f, kL_eq_t, kL_eq_f, kI_m1, kI_m1', m1_m1, kI_n1, kI_n1', n1_add', eq_self, inb_t, kI_nat, kI_add, kI_mul, kI_sub, kI_div, kI_mod, kI_long, kL_add, kL_mul, kL_sub, kL_div, kL_mod, kL_int, n1_add, not_false_eq_true, not_true_eq_false, and_true, true_and, and_false, false_and, or_true, true_or, or_false, false_or, Nat.reduceEqDiff]
def PF (r : Nat) (tm : Int32) (n' : Nat) (ln' fr' : Nat → Nat) : ((Int32 × Int32 × Int32 × (Nat → Int32) × (Nat → Int32) × (Nat → Nat → Int64) × (Nat → Nat → Int64) × (Nat → Int64) × (Nat → Int64)) ⊕ ((Int32 × Int32 × Int32 × (Nat → Int32) × (Nat → Int32) × (Nat → Nat → Int64) × (Nat → Nat → Int64) × (Nat → Int64) × (Nat → Int64) × Int32) ⊕ (Int32 × Int32 × Int32 × (Nat → Int32) × (Nat → Int32) × (Nat → Nat → Int64) × (Nat → Nat → Int64) × (Nat → Int64) × (Nat → Int64)))) → Prop
  | .inl (a, b, c, l, f, _, _, _, _) => a = kI r ∧ b = tm ∧ c = kI n' ∧ (∀ k, k < n' → l k = kI (ln' k)) ∧ ∀ k, k < n' → f k = kI (fr' k)
  | .inr (.inl (_, _, c, l, f, _, _, _, _, y)) => r = 1 ∧ y = tm ∧ c = kI n' ∧ (∀ k, k < n' → l k = kI (ln' k)) ∧ ∀ k, k < n' → f k = kI (fr' k)
  | .inr (.inr _) => False
theorem ev_findLoop (hs : s.OK) {seen : Nat → Int64} (hsn : ∀ t, t < 201 → seen t = kL (s.se t)) {ptc pec : Nat → Int32} (hpt : ptc 0 = kI 0) (hpe : pec 0 = kI (s.b.pe 0)) {r : Nat} {tm : Int32} {n' : Nat} {ln' fr' : Nat → Nat} (h : PL s n ln fr r tm n' ln' fr') : ∀ (_ : LnOK n ln fr) (fu : Nat) (_ : 9 - n < fu) (ℓ φ : Nat → Int32) (_ : ∀ i, i < n → ℓ i = kI (ln i)) (_ : ∀ i, i < n → φ i = kI (fr i)) (res et : Int32) (tN tF : Nat → Nat → Int64) (tE tT : Nat → Int64), ∃ o, Cl_P_findLine_peel_N_10 seen (kI s.b.ft) (kI s.b.ls) (kI s.b.wn) (kI 1) ptc pec fu res et (kI n) ℓ φ tN tF tE tT (kI n) = some o ∧ PF r tm n' ln' fr' o := by
  refine PL_ind (fun n ln fr r tm n' ln' fr' => ∀ (_ : LnOK n ln fr) (fu : Nat) (_ : 9 - n < fu) (ℓ φ : Nat → Int32) (_ : ∀ i, i < n → ℓ i = kI (ln i)) (_ : ∀ i, i < n → φ i = kI (fr i)) (res et : Int32) (tN tF : Nat → Nat → Int64) (tE tT : Nat → Int64), ∃ o, Cl_P_findLine_peel_N_10 seen (kI s.b.ft) (kI s.b.ls) (kI s.b.wn) (kI 1) ptc pec fu res et (kI n) ℓ φ tN tF tE tT (kI n) = some o ∧ PF r tm n' ln' fr' o) ?_ ?_ h
  · intro n ln fr r tm h
    intro hl fu hfu ℓ φ hℓ hφ res et tN tF tE tT
    have hn := hl.1
    have hw : s.b.wn ≤ 200 := hs.1.2.2.2.2.1.2
    have hls : s.b.ls ≤ 1000 := hs.1.2.2.2.1
    obtain ⟨g, rfl⟩ : ∃ g, fu = g + 1 := ⟨fu - 1, by omega⟩
    have hφ' : ∀ k, k < n → φ k = kI ((pB s n ln fr).fq (k + 1)) := fun k hk => by rw [pfq_s k hk]; exact hφ k hk
    obtain ⟨w1, w2, w3, w4, e1, q1, q2, q3, q4⟩ := tq_ev_spread (Bn.LOK (pB_OK hs hl)) (pB_OK hs hl).2.2.2.2.2.2 (show (pB s n ln fr).wn ≤ 200 from hw) hℓ hφ' (ptc := ptc) (pec := pec) (fun i hi => by rw [show i = 0 from by have : i < 1 := hi; omega]; exact hpt) (fun i hi => by rw [show i = 0 from by have : i < 1 := hi; omega]; exact hpe) (cN := tN) (cF := tF) (ech := tE) (tot := tT)
    rw [pfq_0] at e1
    obtain ⟨t, ht, hc⟩ := h
    have e2 := ev_next hs hl hsn q3 hℓ ht (res := res) (et := et)
    have e3 : Cf_W_spread_t_q (kI n) (kI s.b.ft) (kI s.b.ls) (kI s.b.wn) (kI 1) ℓ φ ptc pec tN tF tE tT = some (w1, w2, w3, w4) := e1
    simp only [Cl_P_findLine_peel_N_10]
    rcases hc with ⟨c1, c2, c3⟩ | ⟨c1, c2, ⟨c3, c4⟩ | ⟨c3, c4, c5⟩ | ⟨c3, c4, c5⟩⟩
    · rw [if_pos c1] at e2
      exact ⟨_, by simp (disch := omega) only [↓nm_eq, ↓bd_x, bdx_s, ↓bx_x, bxx_r, bxx_l, ↓bn_x, bnx_r, chk_t, ↓reduceIte, q32, q64, kI_lt_t, kI_lt_f, kI_le_t, kI_le_f, kI_eq_t, kI_eq_f, kL_lt_t, kL_lt_f, kL_le_t, kL_le_f, kL_eq_t, kL_eq_f, kI_m1, kI_m1', m1_m1, kI_n1, kI_n1', n1_add', eq_self, inb_t, kI_nat, kI_add, kI_mul, kI_sub, kI_div, kI_mod, kI_long, kL_add, kL_mul, kL_sub, kL_div, kL_mod, kL_int, n1_add, not_false_eq_true, not_true_eq_false, and_true, true_and, and_false, false_and, or_true, true_or, or_false, false_or, Nat.reduceEqDiff, e3, e2]; rfl, by rw [c2, c3]; exact ⟨rfl, rfl, rfl, hℓ, hφ⟩⟩
    · rw [if_neg (by omega), if_pos c3] at e2
      exact ⟨_, by simp (disch := omega) only [↓nm_eq, ↓bd_x, bdx_s, ↓bx_x, bxx_r, bxx_l, ↓bn_x, bnx_r, chk_t, ↓reduceIte, q32, q64, kI_lt_t, kI_lt_f, kI_le_t, kI_le_f, kI_eq_t, kI_eq_f, kL_lt_t, kL_lt_f, kL_le_t, kL_le_f, kL_eq_t, kL_eq_f, kI_m1, kI_m1', m1_m1, kI_n1, kI_n1', n1_add', eq_self, inb_t, kI_nat, kI_add, kI_mul, kI_sub, kI_div, kI_mod, kI_long, kL_add, kL_mul, kL_sub, kL_div, kL_mod, kL_int, n1_add, not_false_eq_true, not_true_eq_false, and_true, true_and, and_false, false_and, or_true, true_or, or_false, false_or, Nat.reduceEqDiff, e3, e2]; rfl, by rw [c2, c4]; exact ⟨rfl, rfl, rfl, hℓ, hφ⟩⟩
    · rw [if_neg (by omega), if_neg c3, if_pos c4] at e2
      exact ⟨_, by simp (disch := omega) only [↓nm_eq, ↓bd_x, bdx_s, ↓bx_x, bxx_r, bxx_l, ↓bn_x, bnx_r, chk_t, ↓reduceIte, q32, q64, kI_lt_t, kI_lt_f, kI_le_t, kI_le_f, kI_eq_t, kI_eq_f, kL_lt_t, kL_lt_f, kL_le_t, kL_le_f, kL_eq_t, kL_eq_f, kI_m1, kI_m1', m1_m1, kI_n1, kI_n1', n1_add', eq_self, inb_t, kI_nat, kI_add, kI_mul, kI_sub, kI_div, kI_mod, kI_long, kL_add, kL_mul, kL_sub, kL_div, kL_mod, kL_int, n1_add, not_false_eq_true, not_true_eq_false, and_true, true_and, and_false, false_and, or_true, true_or, or_false, false_or, Nat.reduceEqDiff, e3, e2]; rfl, by rw [c2, c5]; exact ⟨rfl, rfl, rfl, hℓ, hφ⟩⟩
    · obtain ⟨g1, g2, g3, g4, g5, g6, g7⟩ := c3
      rw [if_neg (by omega), if_neg (by omega), if_neg (by omega)] at e2
      obtain ⟨f, hf⟩ := FF_ex s n ln fr (t / 2 - sm ln n) (s.se t)
      have e4 := ev_smallest hs hl hℓ hφ hpe (show 2 * (sm ln n + (t / 2 - sm ln n)) ≤ s.b.wn by omega) q1 (hs.2 t (by omega)).2 hf
      rw [if_neg (fun q => c4 f hf.1 q.1 q.2), show 2 * (sm ln n + (t / 2 - sm ln n)) = t from by omega] at e4
      refine ⟨_, by simp (disch := omega) only [↓nm_eq, ↓bd_x, bdx_s, ↓bx_x, bxx_r, bxx_l, ↓bn_x, bnx_r, chk_t, ↓reduceIte, q32, q64, kI_lt_t, kI_lt_f, kI_le_t, kI_le_f, kI_eq_t, kI_eq_f, kL_lt_t, kL_lt_f, kL_le_t, kL_le_f, kL_eq_t, kL_eq_f, kI_m1, kI_m1', m1_m1, kI_n1, kI_n1', n1_add', eq_self, inb_t, kI_nat, kI_add, kI_mul, kI_sub, kI_div, kI_mod, kI_long, kL_add, kL_mul, kL_sub, kL_div, kL_mod, kL_int, n1_add, not_false_eq_true, not_true_eq_false, and_true, true_and, and_false, false_and, or_true, true_or, or_false, false_or, Nat.reduceEqDiff, e3, e2, ev_reachQ (Nat.le_refl n) hn hℓ, hsn, e4]; rfl, ?_⟩
      exact ⟨c5, c2.symm, rfl, hℓ, hφ⟩
  · intro n ln fr len p r tm n' ln' fr' h h2 ih
    intro hl fu hfu ℓ φ hℓ hφ res et tN tF tE tT
    have hn := hl.1
    have hw : s.b.wn ≤ 200 := hs.1.2.2.2.2.1.2
    have hls : s.b.ls ≤ 1000 := hs.1.2.2.2.1
    obtain ⟨g, rfl⟩ : ∃ g, fu = g + 1 := ⟨fu - 1, by omega⟩
    have hφ' : ∀ k, k < n → φ k = kI ((pB s n ln fr).fq (k + 1)) := fun k hk => by rw [pfq_s k hk]; exact hφ k hk
    obtain ⟨w1, w2, w3, w4, e1, q1, q2, q3, q4⟩ := tq_ev_spread (Bn.LOK (pB_OK hs hl)) (pB_OK hs hl).2.2.2.2.2.2 (show (pB s n ln fr).wn ≤ 200 from hw) hℓ hφ' (ptc := ptc) (pec := pec) (fun i hi => by rw [show i = 0 from by have : i < 1 := hi; omega]; exact hpt) (fun i hi => by rw [show i = 0 from by have : i < 1 := hi; omega]; exact hpe) (cN := tN) (cF := tF) (ech := tE) (tot := tT)
    rw [pfq_0] at e1
    have hok := h.ok hl
    obtain ⟨t, ⟨g1, g2, g3, g4, g5, g6, g7⟩, c1, c2, c3, c4, c5⟩ := h
    have e2 := ev_next hs hl hsn q3 hℓ g1 (res := res) (et := et)
    have e3 : Cf_W_spread_t_q (kI n) (kI s.b.ft) (kI s.b.ls) (kI s.b.wn) (kI 1) ℓ φ ptc pec tN tF tE tT = some (w1, w2, w3, w4) := e1
    rw [if_neg (by omega), if_neg (by omega), if_neg (by omega)] at e2
    subst c1
    have e4 := ev_smallest hs hl hℓ hφ hpe (show 2 * (sm ln n + (t / 2 - sm ln n)) ≤ s.b.wn by omega) q1 (hs.2 t (by omega)).2 (f := p) ⟨c2, by omega, c5, fun _ => by omega⟩
    rw [if_pos ⟨c3, c4⟩, show 2 * (sm ln n + (t / 2 - sm ln n)) = t from by omega] at e4
    obtain ⟨o, i1, i2⟩ := ih hok g (by omega) (upd ℓ n (kI (t / 2 - sm ln n))) (upd φ n (kI p)) (fun i hi => by
      by_cases e : i = n
      · subst e; rw [up32_at, upN_at]
      · rw [up32_ne e, upN_ne e]; exact hℓ i (by omega)) (fun i hi => by
      by_cases e : i = n
      · subst e; rw [up32_at, upN_at]
      · rw [up32_ne e, upN_ne e]; exact hφ i (by omega)) res et w1 w2 w3 w4
    refine ⟨o, ?_, i2⟩
    simp only [Cl_P_findLine_peel_N_10]
    simp (disch := omega) only [↓nm_eq, ↓bd_x, bdx_s, ↓bx_x, bxx_r, bxx_l, ↓bn_x, bnx_r, chk_t, ↓reduceIte, q32, q64, kI_lt_t, kI_lt_f, kI_le_t, kI_le_f, kI_eq_t, kI_eq_f, kL_lt_t, kL_lt_f, kL_le_t, kL_le_f, kL_eq_t, kL_eq_f, kI_m1, kI_m1', m1_m1, kI_n1, kI_n1', n1_add', eq_self, inb_t, kI_nat, kI_add, kI_mul, kI_sub, kI_div, kI_mod, kI_long, kL_add, kL_mul, kL_sub, kL_div, kL_mod, kL_int, n1_add, not_false_eq_true, not_true_eq_false, and_true, true_and, and_false, false_and, or_true, true_or, or_false, false_or, Nat.reduceEqDiff, e3, e2, ev_reachQ (Nat.le_refl n) hn hℓ, hsn, e4, two_ne, ev_appendQ, i1]
end PC3
def PQ (s : Sx) (res et cn : Int32) (ℓ φ : Nat → Int32) : Prop := ∃ r tm n' ln' fr', PL s 0 (fun _ => 0) (fun _ => 0) r tm n' ln' fr' ∧ res = kI r ∧ et = tm ∧ cn = kI n' ∧ (∀ k, k < n' → ℓ k = kI (ln' k)) ∧ ∀ k, k < n' → φ k = kI (fr' k)
theorem ev_findLine {s : Sx} (hs : s.OK) {seen : Nat → Int64} (hsn : ∀ t, t < 201 → seen t = kL (s.se t)) {npe : Nat → Int32} (hpe : npe 0 = kI (s.b.pe 0)) {res et qc qf ql qw qp : Int32} {ℓ φ qt qe : Nat → Int32} {tN tF : Nat → Nat → Int64} {tE tT : Nat → Int64} : ∃ res' et' qc' ql' qf' qt' qe' tN' tF' tE' tT', Cf_P_findLine_peel_N (kI s.b.ft) (kI s.b.ls) (kI s.b.wn) npe seen res et qc qf ql qw qp ℓ φ qt qe tN tF tE tT = some (res', et', qc', kI s.b.ft, kI s.b.ls, kI s.b.wn, kI 1, ql', qf', qt', qe', tN', tF', tE', tT') ∧ PQ s res' et' qc' ql' qf' := by
  have h0 : LnOK 0 (fun _ => 0) (fun _ => 0) := ⟨by decide, fun k hk => by omega⟩
  obtain ⟨r, tm, n', ln', fr', h⟩ := PL_ex hs 8 0 _ _ rfl h0
  obtain ⟨o, e1, e2⟩ := ev_findLoop hs hsn (ptc := upd qt 0 (kI 0)) (pec := upd qe 0 (kI (s.b.pe 0))) up32_at up32_at h h0 FUEL (by have : FUEL = 4096 := rfl; omega) ℓ φ (fun i hi => by omega) (fun i hi => by omega) res et tN tF tE tT
  have e3 : Cf_P_startLine_peel_n (kI s.b.ft) (kI s.b.ls) (kI s.b.wn) npe qc qf ql qw qp qt qe = some (kI 0, kI s.b.ft, kI s.b.ls, kI s.b.wn, kI 1, upd qt 0 (kI 0), upd qe 0 (kI (s.b.pe 0))) := by
    unfold Cf_P_startLine_peel_n Cf_B_takeSettings_q_n
    simp (disch := omega) only [↓nm_eq, ↓bd_x, bdx_s, ↓bx_x, bxx_r, bxx_l, ↓bn_x, bnx_r, chk_t, ↓reduceIte, q32, q64, kI_lt_t, kI_lt_f, kI_le_t, kI_le_f, kI_eq_t, kI_eq_f, kL_lt_t, kL_lt_f, kL_le_t, kL_le_f, kL_eq_t, kL_eq_f, kI_m1, kI_m1', m1_m1, kI_n1, kI_n1', n1_add', eq_self, inb_t, kI_nat, kI_add, kI_mul, kI_sub, kI_div, kI_mod, kI_long, kL_add, kL_mul, kL_sub, kL_div, kL_mod, kL_int, n1_add, not_false_eq_true, not_true_eq_false, and_true, true_and, and_false, false_and, or_true, true_or, or_false, false_or, Nat.reduceEqDiff, hpe]
  unfold Cf_P_findLine_peel_N
  rw [e3, bd_s]
  (try dsimp only)
  rw [q32, bd_e e1]
  rcases o with ⟨o1, o2, o3, o4, o5, o6, o7, o8, o9⟩ | ⟨o1, o2, o3, o4, o5, o6, o7, o8, o9, o10⟩ | ⟨o1, o2, o3, o4, o5, o6, o7, o8, o9⟩
  · obtain ⟨p1, p2, p3, p4, p5⟩ := e2
    exact ⟨_, _, _, _, _, _, _, _, _, _, _, rfl, r, tm, n', ln', fr', h, p1, p2, p3, p4, p5⟩
  · obtain ⟨p1, p2, p3, p4, p5⟩ := e2
    refine ⟨_, _, _, _, _, _, _, _, _, _, _, rfl, r, tm, n', ln', fr', h, ?_, p2, p3, p4, p5⟩
    rw [p1]
    rfl
  · exact e2.elim
