section Q1
variable {f g : Nat → Nat} {E1 E2 S1 : Nat → Int64} {m : Nat → Int64} {w : Nat} (h1 : ∀ t, t < 201 → E1 t = kL (f t)) (h2 : ∀ t, t < 201 → E2 t = kL (f t)) (bf : ∀ t, f t ≤ 4000000)
theorem ev_echoTime (h1 : ∀ t, t < 201 → E1 t = kL (f t)) (h2 : ∀ t, t < 201 → E2 t = kL (f t)) (bf : ∀ t, f t ≤ 4000000) : ∀ k t fu (x : Int32), t + k = 201 → k < fu → ∃ o, Cl_L_echoTime_17 E1 fu x (kI t) = some o ∧ Rl_echoTime_30 E2 fu x (kI t) = some o := by
  intro k
  induction k with
  | zero =>
    intro t fu x a1 a2
    obtain ⟨q, rfl⟩ : ∃ q, fu = q + 1 := ⟨fu - 1, by omega⟩
    refine ⟨Sum.inr (), ?_, ?_⟩
    · simp only [Cl_L_echoTime_17]
      simp (disch := omega) only [↓nm_eq, ↓bd_x, bdx_s, ↓bx_x, bxx_r, bxx_l, ↓bn_x, bnx_r, chk_t, ↓reduceIte, q32, q64, kI_lt_t, kI_lt_f, kI_le_t, kI_le_f, kI_eq_t, kI_eq_f, kL_lt_t, kL_lt_f, kL_le_t, kL_le_f, kL_eq_t, kL_eq_f, kI_m1, kI_m1', m1_m1, kI_n1, kI_n1', n1_add', eq_self, inb_t, kI_nat, kI_add, kI_mul, kI_sub, kI_div, kI_mod, kI_long, kL_add, kL_mul, kL_sub, kL_div, kL_mod, kL_int, n1_add, not_false_eq_true, not_true_eq_false, and_true, true_and, and_false, false_and, or_true, true_or, or_false, false_or, Nat.reduceEqDiff, IN, IM]
    · simp only [Rl_echoTime_30]
      simp (disch := omega) only [↓nm_eq, ↓bd_x, bdx_s, ↓bx_x, bxx_r, bxx_l, ↓bn_x, bnx_r, chk_t, ↓reduceIte, q32, q64, kI_lt_t, kI_lt_f, kI_le_t, kI_le_f, kI_eq_t, kI_eq_f, kL_lt_t, kL_lt_f, kL_le_t, kL_le_f, kL_eq_t, kL_eq_f, kI_m1, kI_m1', m1_m1, kI_n1, kI_n1', n1_add', eq_self, inb_t, kI_nat, kI_add, kI_mul, kI_sub, kI_div, kI_mod, kI_long, kL_add, kL_mul, kL_sub, kL_div, kL_mod, kL_int, n1_add, not_false_eq_true, not_true_eq_false, and_true, true_and, and_false, false_and, or_true, true_or, or_false, false_or, Nat.reduceEqDiff, IN, IM]
  | succ k ih =>
    intro t fu x a1 a2
    obtain ⟨q, rfl⟩ : ∃ q, fu = q + 1 := ⟨fu - 1, by omega⟩
    have b := bf t
    simp only [Cl_L_echoTime_17, Rl_echoTime_30, Cf_L_echoTime_44, Rf_echoTime_57]
    by_cases c : f t = 0
    · obtain ⟨o, o1, o2⟩ := ih (t + 1) q x (by omega) (by omega)
      exact ⟨o, by simp (disch := omega) only [↓nm_eq, ↓bd_x, bdx_s, ↓bx_x, bxx_r, bxx_l, ↓bn_x, bnx_r, chk_t, ↓reduceIte, q32, q64, kI_lt_t, kI_lt_f, kI_le_t, kI_le_f, kI_eq_t, kI_eq_f, kL_lt_t, kL_lt_f, kL_le_t, kL_le_f, kL_eq_t, kL_eq_f, kI_m1, kI_m1', m1_m1, kI_n1, kI_n1', n1_add', eq_self, inb_t, kI_nat, kI_add, kI_mul, kI_sub, kI_div, kI_mod, kI_long, kL_add, kL_mul, kL_sub, kL_div, kL_mod, kL_int, n1_add, not_false_eq_true, not_true_eq_false, and_true, true_and, and_false, false_and, or_true, true_or, or_false, false_or, Nat.reduceEqDiff, IN, IM, h1, c, o1], by simp (disch := omega) only [↓nm_eq, ↓bd_x, bdx_s, ↓bx_x, bxx_r, bxx_l, ↓bn_x, bnx_r, chk_t, ↓reduceIte, q32, q64, kI_lt_t, kI_lt_f, kI_le_t, kI_le_f, kI_eq_t, kI_eq_f, kL_lt_t, kL_lt_f, kL_le_t, kL_le_f, kL_eq_t, kL_eq_f, kI_m1, kI_m1', m1_m1, kI_n1, kI_n1', n1_add', eq_self, inb_t, kI_nat, kI_add, kI_mul, kI_sub, kI_div, kI_mod, kI_long, kL_add, kL_mul, kL_sub, kL_div, kL_mod, kL_int, n1_add, not_false_eq_true, not_true_eq_false, and_true, true_and, and_false, false_and, or_true, true_or, or_false, false_or, Nat.reduceEqDiff, IN, IM, h2, c, o2]⟩
    · by_cases d : x = 0
      · subst d
        exact ⟨Sum.inl (kI t), by simp (disch := omega) only [↓nm_eq, ↓bd_x, bdx_s, ↓bx_x, bxx_r, bxx_l, ↓bn_x, bnx_r, chk_t, ↓reduceIte, q32, q64, kI_lt_t, kI_lt_f, kI_le_t, kI_le_f, kI_eq_t, kI_eq_f, kL_lt_t, kL_lt_f, kL_le_t, kL_le_f, kL_eq_t, kL_eq_f, kI_m1, kI_m1', m1_m1, kI_n1, kI_n1', n1_add', eq_self, inb_t, kI_nat, kI_add, kI_mul, kI_sub, kI_div, kI_mod, kI_long, kL_add, kL_mul, kL_sub, kL_div, kL_mod, kL_int, n1_add, not_false_eq_true, not_true_eq_false, and_true, true_and, and_false, false_and, or_true, true_or, or_false, false_or, Nat.reduceEqDiff, IN, IM, h1], by simp (disch := omega) only [↓nm_eq, ↓bd_x, bdx_s, ↓bx_x, bxx_r, bxx_l, ↓bn_x, bnx_r, chk_t, ↓reduceIte, q32, q64, kI_lt_t, kI_lt_f, kI_le_t, kI_le_f, kI_eq_t, kI_eq_f, kL_lt_t, kL_lt_f, kL_le_t, kL_le_f, kL_eq_t, kL_eq_f, kI_m1, kI_m1', m1_m1, kI_n1, kI_n1', n1_add', eq_self, inb_t, kI_nat, kI_add, kI_mul, kI_sub, kI_div, kI_mod, kI_long, kL_add, kL_mul, kL_sub, kL_div, kL_mod, kL_int, n1_add, not_false_eq_true, not_true_eq_false, and_true, true_and, and_false, false_and, or_true, true_or, or_false, false_or, Nat.reduceEqDiff, IN, IM, h2]⟩
      · obtain ⟨o, o1, o2⟩ := ih (t + 1) q (x + (-1)) (by omega) (by omega)
        refine ⟨o, ?_, ?_⟩
        · rw [if_neg (by rw [q32_201, kI_le (by omega) (by omega)]; omega), chk_true ((inb_kI (by omega)).mpr (by omega)), nm_eq, kI_nat (by omega), h1 t (by omega), if_neg (by rw [q64_0, kL_le (by omega) (by omega)]; omega), if_neg d, nm_eq, nm_eq, q32_1, kI_add]
          exact o1
        · rw [if_neg (by rw [q32_201, kI_le (by omega) (by omega)]; omega), chk_true ((inb_kI (by omega)).mpr (by omega)), nm_eq, kI_nat (by omega), h2 t (by omega), if_neg (by rw [q64_0, kL_le (by omega) (by omega)]; omega), if_neg d, nm_eq, nm_eq, q32_1, kI_add]
          exact o2
variable (hg : ∀ t, t < 201 → S1 t = kL (g t)) (bg : ∀ t, t < 201 → g t ≤ 4000000) (hw : w ≤ 200)
theorem ev_differencesC (h1 : ∀ t, t < 201 → E1 t = kL (f t)) (bf : ∀ t, f t ≤ 4000000) (hg : ∀ t, t < 201 → S1 t = kL (g t)) (bg : ∀ t, t < 201 → g t ≤ 4000000) (hw : w ≤ 200) : Cl_L_differences_12 (kI w) S1 E1 FUEL (kI 0) (kI 0) = some (kI (sm (fun t => if f t = g t then 0 else 1) (w + 1))) := by
  obtain ⟨a, e, q⟩ := loop_gen (L := fun fu (s : Int32) x => Cl_L_differences_12 (kI w) S1 E1 fu s x) (fun i s => s = kI (sm (fun t => if f t = g t then 0 else 1) i)) (fun s => s = kI (sm (fun t => if f t = g t then 0 else 1) (w + 1))) (w + 1) (fun fu i s hi hs => by
      refine Or.inr ⟨_, ?_, rfl⟩
      subst hs
      have b1 := bf i
      have b2 := bg i (by omega)
      simp only [Cl_L_differences_12, Cf_L_differences_45]
      by_cases c : f i = g i
      · simp (disch := omega) only [↓nm_eq, ↓bd_x, bdx_s, ↓bx_x, bxx_r, bxx_l, ↓bn_x, bnx_r, chk_t, ↓reduceIte, q32, q64, kI_lt_t, kI_lt_f, kI_le_t, kI_le_f, kI_eq_t, kI_eq_f, kL_lt_t, kL_lt_f, kL_le_t, kL_le_f, kL_eq_t, kL_eq_f, kI_m1, kI_m1', m1_m1, kI_n1, kI_n1', n1_add', eq_self, inb_t, kI_nat, kI_add, kI_mul, kI_sub, kI_div, kI_mod, kI_long, kL_add, kL_mul, kL_sub, kL_div, kL_mod, kL_int, n1_add, not_false_eq_true, not_true_eq_false, and_true, true_and, and_false, false_and, or_true, true_or, or_false, false_or, Nat.reduceEqDiff, IN, IM, h1, hg, c, sm_s]
        rfl
      · simp (disch := omega) only [↓nm_eq, ↓bd_x, bdx_s, ↓bx_x, bxx_r, bxx_l, ↓bn_x, bnx_r, chk_t, ↓reduceIte, q32, q64, kI_lt_t, kI_lt_f, kI_le_t, kI_le_f, kI_eq_t, kI_eq_f, kL_lt_t, kL_lt_f, kL_le_t, kL_le_f, kL_eq_t, kL_eq_f, kI_m1, kI_m1', m1_m1, kI_n1, kI_n1', n1_add', eq_self, inb_t, kI_nat, kI_add, kI_mul, kI_sub, kI_div, kI_mod, kI_long, kL_add, kL_mul, kL_sub, kL_div, kL_mod, kL_int, n1_add, not_false_eq_true, not_true_eq_false, and_true, true_and, and_false, false_and, or_true, true_or, or_false, false_or, Nat.reduceEqDiff, IN, IM, h1, hg, c, sm_s])
    (fun fu s hs => ⟨s, by simp only [Cl_L_differences_12]; simp (disch := omega) only [↓nm_eq, ↓bd_x, bdx_s, ↓bx_x, bxx_r, bxx_l, ↓bn_x, bnx_r, chk_t, ↓reduceIte, q32, q64, kI_lt_t, kI_lt_f, kI_le_t, kI_le_f, kI_eq_t, kI_eq_f, kL_lt_t, kL_lt_f, kL_le_t, kL_le_f, kL_eq_t, kL_eq_f, kI_m1, kI_m1', m1_m1, kI_n1, kI_n1', n1_add', eq_self, inb_t, kI_nat, kI_add, kI_mul, kI_sub, kI_div, kI_mod, kI_long, kL_add, kL_mul, kL_sub, kL_div, kL_mod, kL_int, n1_add, not_false_eq_true, not_true_eq_false, and_true, true_and, and_false, false_and, or_true, true_or, or_false, false_or, Nat.reduceEqDiff, IN, IM], hs⟩) FUEL 0 (kI 0) (by have : FUEL = 4096 := rfl; omega) (by omega) rfl
  rw [← q]
  exact e
theorem ev_firstUnequalS (h1 : ∀ t, t < 201 → E1 t = kL (f t)) (bf : ∀ t, f t ≤ 4000000) (hg : ∀ t, t < 201 → S1 t = kL (g t)) (bg : ∀ t, t < 201 → g t ≤ 4000000) (hw : w ≤ 200) {t : Nat} (ht : FU f g (w + 1) t) : Cf_L_firstUnequal_w_echoes_n_sound S1 E1 (kI w) = some (if t ≤ w then kI t else -1) := by
  obtain ⟨t1, t2, t3⟩ := ht
  obtain ⟨a, e, q⟩ := loop_gen (L := fun fu (_ : Unit) x => Cl_L_firstUnequal_w_echoes_n_sound_2 S1 E1 (kI w) fu x) (fun i _ => i ≤ t) (fun a => a = if t ≤ w then Sum.inl (kI t) else Sum.inr ()) (w + 1) (fun fu i u hi hs => by
      have b1 := bf i
      have b2 := bg i (by omega)
      simp only [Cl_L_firstUnequal_w_echoes_n_sound_2]
      by_cases c : i = t
      · subst c
        have c2 := t3 (by omega)
        refine Or.inl ⟨_, ?_, rfl⟩
        rw [if_pos (show i ≤ w by omega)]
        simp (disch := omega) only [↓nm_eq, ↓bd_x, bdx_s, ↓bx_x, bxx_r, bxx_l, ↓bn_x, bnx_r, chk_t, ↓reduceIte, q32, q64, kI_lt_t, kI_lt_f, kI_le_t, kI_le_f, kI_eq_t, kI_eq_f, kL_lt_t, kL_lt_f, kL_le_t, kL_le_f, kL_eq_t, kL_eq_f, kI_m1, kI_m1', m1_m1, kI_n1, kI_n1', n1_add', eq_self, inb_t, kI_nat, kI_add, kI_mul, kI_sub, kI_div, kI_mod, kI_long, kL_add, kL_mul, kL_sub, kL_div, kL_mod, kL_int, n1_add, not_false_eq_true, not_true_eq_false, and_true, true_and, and_false, false_and, or_true, true_or, or_false, false_or, Nat.reduceEqDiff, IN, IM, h1, hg]
      · have c2 := t2 i (by omega)
        refine Or.inr ⟨(), ?_, by omega⟩
        simp (disch := omega) only [↓nm_eq, ↓bd_x, bdx_s, ↓bx_x, bxx_r, bxx_l, ↓bn_x, bnx_r, chk_t, ↓reduceIte, q32, q64, kI_lt_t, kI_lt_f, kI_le_t, kI_le_f, kI_eq_t, kI_eq_f, kL_lt_t, kL_lt_f, kL_le_t, kL_le_f, kL_eq_t, kL_eq_f, kI_m1, kI_m1', m1_m1, kI_n1, kI_n1', n1_add', eq_self, inb_t, kI_nat, kI_add, kI_mul, kI_sub, kI_div, kI_mod, kI_long, kL_add, kL_mul, kL_sub, kL_div, kL_mod, kL_int, n1_add, not_false_eq_true, not_true_eq_false, and_true, true_and, and_false, false_and, or_true, true_or, or_false, false_or, Nat.reduceEqDiff, IN, IM, h1, hg, c2])
    (fun fu u hs => ⟨Sum.inr (), by simp only [Cl_L_firstUnequal_w_echoes_n_sound_2]; simp (disch := omega) only [↓nm_eq, ↓bd_x, bdx_s, ↓bx_x, bxx_r, bxx_l, ↓bn_x, bnx_r, chk_t, ↓reduceIte, q32, q64, kI_lt_t, kI_lt_f, kI_le_t, kI_le_f, kI_eq_t, kI_eq_f, kL_lt_t, kL_lt_f, kL_le_t, kL_le_f, kL_eq_t, kL_eq_f, kI_m1, kI_m1', m1_m1, kI_n1, kI_n1', n1_add', eq_self, inb_t, kI_nat, kI_add, kI_mul, kI_sub, kI_div, kI_mod, kI_long, kL_add, kL_mul, kL_sub, kL_div, kL_mod, kL_int, n1_add, not_false_eq_true, not_true_eq_false, and_true, true_and, and_false, false_and, or_true, true_or, or_false, false_or, Nat.reduceEqDiff, IN, IM], by rw [if_neg (by omega)]⟩) FUEL 0 () (by have : FUEL = 4096 := rfl; omega) (by omega) (Nat.zero_le _)
  subst q
  unfold Cf_L_firstUnequal_w_echoes_n_sound Cf_L_firstUnequal_w_echoes_n_sound_32
  rw [q32_0, bd_e e]
  by_cases c : t ≤ w
  · rw [if_pos c, if_pos c]
  · rw [if_neg c, if_neg c]
variable (hm : m 19 = kL w) (hgm : ∀ t, t < 201 → m (29 + t) = kL (g t))
theorem ev_differencesR (h1 : ∀ t, t < 201 → E1 t = kL (f t)) (bf : ∀ t, f t ≤ 4000000) (bg : ∀ t, t < 201 → g t ≤ 4000000) (hw : w ≤ 200) (hm : m 19 = kL w) (hgm : ∀ t, t < 201 → m (29 + t) = kL (g t)) : Rf_differencesNow m E1 = some (kI (sm (fun t => if f t = g t then 0 else 1) (w + 1))) := by
  obtain ⟨a, e, q⟩ := loop_gen (L := fun fu (s : Int32) x => Rl_differencesNow_4 m E1 fu s x) (fun i s => s = kI (sm (fun t => if f t = g t then 0 else 1) i)) (fun s => s = kI (sm (fun t => if f t = g t then 0 else 1) (w + 1))) (w + 1) (fun fu i s hi hs => by
      refine Or.inr ⟨_, ?_, rfl⟩
      subst hs
      have b1 := bf i
      have b2 := bg i (by omega)
      simp only [Rl_differencesNow_4, Rf_differencesNow_37]
      by_cases c : f i = g i
      · simp (disch := omega) only [↓nm_eq, ↓bd_x, bdx_s, ↓bx_x, bxx_r, bxx_l, ↓bn_x, bnx_r, chk_t, ↓reduceIte, q32, q64, kI_lt_t, kI_lt_f, kI_le_t, kI_le_f, kI_eq_t, kI_eq_f, kL_lt_t, kL_lt_f, kL_le_t, kL_le_f, kL_eq_t, kL_eq_f, kI_m1, kI_m1', m1_m1, kI_n1, kI_n1', n1_add', eq_self, inb_t, kI_nat, kI_add, kI_mul, kI_sub, kI_div, kI_mod, kI_long, kL_add, kL_mul, kL_sub, kL_div, kL_mod, kL_int, n1_add, not_false_eq_true, not_true_eq_false, and_true, true_and, and_false, false_and, or_true, true_or, or_false, false_or, Nat.reduceEqDiff, IN, IM, h1, hgm, c, sm_s, ev_window hm]
      · simp (disch := omega) only [↓nm_eq, ↓bd_x, bdx_s, ↓bx_x, bxx_r, bxx_l, ↓bn_x, bnx_r, chk_t, ↓reduceIte, q32, q64, kI_lt_t, kI_lt_f, kI_le_t, kI_le_f, kI_eq_t, kI_eq_f, kL_lt_t, kL_lt_f, kL_le_t, kL_le_f, kL_eq_t, kL_eq_f, kI_m1, kI_m1', m1_m1, kI_n1, kI_n1', n1_add', eq_self, inb_t, kI_nat, kI_add, kI_mul, kI_sub, kI_div, kI_mod, kI_long, kL_add, kL_mul, kL_sub, kL_div, kL_mod, kL_int, n1_add, not_false_eq_true, not_true_eq_false, and_true, true_and, and_false, false_and, or_true, true_or, or_false, false_or, Nat.reduceEqDiff, IN, IM, h1, hgm, c, sm_s, ev_window hm])
    (fun fu s hs => ⟨s, by simp only [Rl_differencesNow_4]; simp (disch := omega) only [↓nm_eq, ↓bd_x, bdx_s, ↓bx_x, bxx_r, bxx_l, ↓bn_x, bnx_r, chk_t, ↓reduceIte, q32, q64, kI_lt_t, kI_lt_f, kI_le_t, kI_le_f, kI_eq_t, kI_eq_f, kL_lt_t, kL_lt_f, kL_le_t, kL_le_f, kL_eq_t, kL_eq_f, kI_m1, kI_m1', m1_m1, kI_n1, kI_n1', n1_add', eq_self, inb_t, kI_nat, kI_add, kI_mul, kI_sub, kI_div, kI_mod, kI_long, kL_add, kL_mul, kL_sub, kL_div, kL_mod, kL_int, n1_add, not_false_eq_true, not_true_eq_false, and_true, true_and, and_false, false_and, or_true, true_or, or_false, false_or, Nat.reduceEqDiff, IN, IM, ev_window hm], hs⟩) FUEL 0 (kI 0) (by have : FUEL = 4096 := rfl; omega) (by omega) rfl
  subst q
  unfold Rf_differencesNow
  rw [q32_0, bd_e e]
theorem ev_faultLoop (h1 : ∀ t, t < 201 → E1 t = kL (f t)) (bf : ∀ t, f t ≤ 4000000) (bg : ∀ t, t < 201 → g t ≤ 4000000) (hw : w ≤ 200) (hm : m 19 = kL w) (hgm : ∀ t, t < 201 → m (29 + t) = kL (g t)) {t : Nat} {x1 : Int32} (ht : FU f g (w + 1) t) : Rl_faultOf_2 m E1 x1 FUEL (kI 0) = some (kI t) := by
  obtain ⟨t1, t2, t3⟩ := ht
  obtain ⟨a, e, q⟩ := loop_gen (L := fun fu (_ : Unit) x => Rl_faultOf_2 m E1 x1 fu x) (fun i _ => i ≤ t) (fun a => a = kI t) (w + 1) (fun fu i u hi hs => by
      have b1 := bf i
      have b2 := bg i (by omega)
      simp only [Rl_faultOf_2]
      by_cases c : i = t
      · subst c
        have c2 := t3 (by omega)
        refine Or.inl ⟨_, ?_, rfl⟩
        simp (disch := omega) only [↓nm_eq, ↓bd_x, bdx_s, ↓bx_x, bxx_r, bxx_l, ↓bn_x, bnx_r, chk_t, ↓reduceIte, q32, q64, kI_lt_t, kI_lt_f, kI_le_t, kI_le_f, kI_eq_t, kI_eq_f, kL_lt_t, kL_lt_f, kL_le_t, kL_le_f, kL_eq_t, kL_eq_f, kI_m1, kI_m1', m1_m1, kI_n1, kI_n1', n1_add', eq_self, inb_t, kI_nat, kI_add, kI_mul, kI_sub, kI_div, kI_mod, kI_long, kL_add, kL_mul, kL_sub, kL_div, kL_mod, kL_int, n1_add, not_false_eq_true, not_true_eq_false, and_true, true_and, and_false, false_and, or_true, true_or, or_false, false_or, Nat.reduceEqDiff, IN, IM, h1, hgm, ev_window hm]
      · have c2 := t2 i (by omega)
        refine Or.inr ⟨(), ?_, by omega⟩
        simp (disch := omega) only [↓nm_eq, ↓bd_x, bdx_s, ↓bx_x, bxx_r, bxx_l, ↓bn_x, bnx_r, chk_t, ↓reduceIte, q32, q64, kI_lt_t, kI_lt_f, kI_le_t, kI_le_f, kI_eq_t, kI_eq_f, kL_lt_t, kL_lt_f, kL_le_t, kL_le_f, kL_eq_t, kL_eq_f, kI_m1, kI_m1', m1_m1, kI_n1, kI_n1', n1_add', eq_self, inb_t, kI_nat, kI_add, kI_mul, kI_sub, kI_div, kI_mod, kI_long, kL_add, kL_mul, kL_sub, kL_div, kL_mod, kL_int, n1_add, not_false_eq_true, not_true_eq_false, and_true, true_and, and_false, false_and, or_true, true_or, or_false, false_or, Nat.reduceEqDiff, IN, IM, h1, hgm, c2, ev_window hm])
    (fun fu u hs => ⟨kI (w + 1), by simp only [Rl_faultOf_2]; simp (disch := omega) only [↓nm_eq, ↓bd_x, bdx_s, ↓bx_x, bxx_r, bxx_l, ↓bn_x, bnx_r, chk_t, ↓reduceIte, q32, q64, kI_lt_t, kI_lt_f, kI_le_t, kI_le_f, kI_eq_t, kI_eq_f, kL_lt_t, kL_lt_f, kL_le_t, kL_le_f, kL_eq_t, kL_eq_f, kI_m1, kI_m1', m1_m1, kI_n1, kI_n1', n1_add', eq_self, inb_t, kI_nat, kI_add, kI_mul, kI_sub, kI_div, kI_mod, kI_long, kL_add, kL_mul, kL_sub, kL_div, kL_mod, kL_int, n1_add, not_false_eq_true, not_true_eq_false, and_true, true_and, and_false, false_and, or_true, true_or, or_false, false_or, Nat.reduceEqDiff, IN, IM, ev_window hm], by rw [show t = w + 1 from by omega]⟩) FUEL 0 () (by have : FUEL = 4096 := rfl; omega) (by omega) (Nat.zero_le _)
  subst q
  exact e
end Q1
def mn (f : Nat → Nat) : Nat → Nat
  | 0 => 100
  | k + 1 => if f k < mn f k then f k else mn f k
theorem mn_le (f : Nat → Nat) (k : Nat) : mn f k ≤ 100 := by
  induction k with
  | zero => exact Nat.le_refl _
  | succ k ih => simp only [mn]; split <;> omega
theorem ev_earliestC {b : Bn} (hb : b.OK) {pt : Nat → Int32} (hp : ∀ i, i < b.np → pt i = kI (b.pt i)) : Cf_B_earliestPulse_n (kI b.np) pt = some (kI (mn b.pt b.np)) := by
  have hn : b.np ≤ 4 := hb.2.2.2.2.2.2.1
  have hpp := hb.2.2.2.2.2.2.2
  obtain ⟨a, e, q⟩ := loop_gen (L := fun fu (s : Int32) x => Cl_B_earliestPulse_n_5 (kI b.np) pt fu s x) (fun i s => s = kI (mn b.pt i)) (fun s => s = kI (mn b.pt b.np)) b.np (fun fu i s hi hs => by
      refine Or.inr ⟨_, ?_, rfl⟩
      subst hs
      have b1 := (hpp i hi).1
      have b2 := mn_le b.pt i
      simp only [Cl_B_earliestPulse_n_5, mn]
      by_cases c : b.pt i < mn b.pt i
      · simp (disch := omega) only [↓nm_eq, ↓bd_x, bdx_s, ↓bx_x, bxx_r, bxx_l, ↓bn_x, bnx_r, chk_t, ↓reduceIte, q32, q64, kI_lt_t, kI_lt_f, kI_le_t, kI_le_f, kI_eq_t, kI_eq_f, kL_lt_t, kL_lt_f, kL_le_t, kL_le_f, kL_eq_t, kL_eq_f, kI_m1, kI_m1', m1_m1, kI_n1, kI_n1', n1_add', eq_self, inb_t, kI_nat, kI_add, kI_mul, kI_sub, kI_div, kI_mod, kI_long, kL_add, kL_mul, kL_sub, kL_div, kL_mod, kL_int, n1_add, not_false_eq_true, not_true_eq_false, and_true, true_and, and_false, false_and, or_true, true_or, or_false, false_or, Nat.reduceEqDiff, IN, IM, hp, c]
      · simp (disch := omega) only [↓nm_eq, ↓bd_x, bdx_s, ↓bx_x, bxx_r, bxx_l, ↓bn_x, bnx_r, chk_t, ↓reduceIte, q32, q64, kI_lt_t, kI_lt_f, kI_le_t, kI_le_f, kI_eq_t, kI_eq_f, kL_lt_t, kL_lt_f, kL_le_t, kL_le_f, kL_eq_t, kL_eq_f, kI_m1, kI_m1', m1_m1, kI_n1, kI_n1', n1_add', eq_self, inb_t, kI_nat, kI_add, kI_mul, kI_sub, kI_div, kI_mod, kI_long, kL_add, kL_mul, kL_sub, kL_div, kL_mod, kL_int, n1_add, not_false_eq_true, not_true_eq_false, and_true, true_and, and_false, false_and, or_true, true_or, or_false, false_or, Nat.reduceEqDiff, IN, IM, hp, c])
    (fun fu s hs => ⟨s, by simp only [Cl_B_earliestPulse_n_5]; simp (disch := omega) only [↓nm_eq, ↓bd_x, bdx_s, ↓bx_x, bxx_r, bxx_l, ↓bn_x, bnx_r, chk_t, ↓reduceIte, q32, q64, kI_lt_t, kI_lt_f, kI_le_t, kI_le_f, kI_eq_t, kI_eq_f, kL_lt_t, kL_lt_f, kL_le_t, kL_le_f, kL_eq_t, kL_eq_f, kI_m1, kI_m1', m1_m1, kI_n1, kI_n1', n1_add', eq_self, inb_t, kI_nat, kI_add, kI_mul, kI_sub, kI_div, kI_mod, kI_long, kL_add, kL_mul, kL_sub, kL_div, kL_mod, kL_int, n1_add, not_false_eq_true, not_true_eq_false, and_true, true_and, and_false, false_and, or_true, true_or, or_false, false_or, Nat.reduceEqDiff, IN, IM], hs⟩) FUEL 0 (kI 100) (by have : FUEL = 4096 := rfl; omega) (by omega) rfl
  subst q
  unfold Cf_B_earliestPulse_n
  rw [q32_0, q32_100, bd_e e]
theorem ev_earliestR {b : Bn} (hb : b.OK) {pt : Nat → Int32} (hp : ∀ i, i < b.np → pt i = kI (b.pt i)) : Rf_earliest (kI b.np) pt = some (kI (mn b.pt b.np)) := by
  have hn : b.np ≤ 4 := hb.2.2.2.2.2.2.1
  have hn1 : 1 ≤ b.np := hb.2.2.2.2.2.1
  have hpp := hb.2.2.2.2.2.2.2
  have p0 := hpp 0 (by omega)
  have m1 : mn b.pt 1 = b.pt 0 := by
    show (if b.pt 0 < 100 then b.pt 0 else 100) = b.pt 0
    by_cases c : b.pt 0 < 100
    · rw [if_pos c]
    · rw [if_neg c]
      omega
  obtain ⟨a, e, q⟩ := loop_gen (L := fun fu (s : Int32) x => Rl_earliest_9 (kI b.np) pt fu s x) (fun i s => s = kI (mn b.pt i)) (fun s => s = kI (mn b.pt b.np)) b.np (fun fu i s hi hs => by
      refine Or.inr ⟨_, ?_, rfl⟩
      subst hs
      have b1 := (hpp i hi).1
      have b2 := mn_le b.pt i
      simp only [Rl_earliest_9, Rf_earliest_37, mn]
      by_cases c : b.pt i < mn b.pt i
      · simp (disch := omega) only [↓nm_eq, ↓bd_x, bdx_s, ↓bx_x, bxx_r, bxx_l, ↓bn_x, bnx_r, chk_t, ↓reduceIte, q32, q64, kI_lt_t, kI_lt_f, kI_le_t, kI_le_f, kI_eq_t, kI_eq_f, kL_lt_t, kL_lt_f, kL_le_t, kL_le_f, kL_eq_t, kL_eq_f, kI_m1, kI_m1', m1_m1, kI_n1, kI_n1', n1_add', eq_self, inb_t, kI_nat, kI_add, kI_mul, kI_sub, kI_div, kI_mod, kI_long, kL_add, kL_mul, kL_sub, kL_div, kL_mod, kL_int, n1_add, not_false_eq_true, not_true_eq_false, and_true, true_and, and_false, false_and, or_true, true_or, or_false, false_or, Nat.reduceEqDiff, IN, IM, hp, c]
      · simp (disch := omega) only [↓nm_eq, ↓bd_x, bdx_s, ↓bx_x, bxx_r, bxx_l, ↓bn_x, bnx_r, chk_t, ↓reduceIte, q32, q64, kI_lt_t, kI_lt_f, kI_le_t, kI_le_f, kI_eq_t, kI_eq_f, kL_lt_t, kL_lt_f, kL_le_t, kL_le_f, kL_eq_t, kL_eq_f, kI_m1, kI_m1', m1_m1, kI_n1, kI_n1', n1_add', eq_self, inb_t, kI_nat, kI_add, kI_mul, kI_sub, kI_div, kI_mod, kI_long, kL_add, kL_mul, kL_sub, kL_div, kL_mod, kL_int, n1_add, not_false_eq_true, not_true_eq_false, and_true, true_and, and_false, false_and, or_true, true_or, or_false, false_or, Nat.reduceEqDiff, IN, IM, hp, c])
    (fun fu s hs => ⟨s, by simp only [Rl_earliest_9]; simp (disch := omega) only [↓nm_eq, ↓bd_x, bdx_s, ↓bx_x, bxx_r, bxx_l, ↓bn_x, bnx_r, chk_t, ↓reduceIte, q32, q64, kI_lt_t, kI_lt_f, kI_le_t, kI_le_f, kI_eq_t, kI_eq_f, kL_lt_t, kL_lt_f, kL_le_t, kL_le_f, kL_eq_t, kL_eq_f, kI_m1, kI_m1', m1_m1, kI_n1, kI_n1', n1_add', eq_self, inb_t, kI_nat, kI_add, kI_mul, kI_sub, kI_div, kI_mod, kI_long, kL_add, kL_mul, kL_sub, kL_div, kL_mod, kL_int, n1_add, not_false_eq_true, not_true_eq_false, and_true, true_and, and_false, false_and, or_true, true_or, or_false, false_or, Nat.reduceEqDiff, IN, IM], hs⟩) FUEL 1 (kI (b.pt 0)) (by have : FUEL = 4096 := rfl; omega) (by omega) (by rw [m1])
  subst q
  have hp0 := hp 0 (by omega)
  unfold Rf_earliest
  simp (disch := omega) only [↓nm_eq, ↓bd_x, bdx_s, ↓bx_x, bxx_r, bxx_l, ↓bn_x, bnx_r, chk_t, ↓reduceIte, q32, q64, kI_lt_t, kI_lt_f, kI_le_t, kI_le_f, kI_eq_t, kI_eq_f, kL_lt_t, kL_lt_f, kL_le_t, kL_le_f, kL_eq_t, kL_eq_f, kI_m1, kI_m1', m1_m1, kI_n1, kI_n1', n1_add', eq_self, inb_t, kI_nat, kI_add, kI_mul, kI_sub, kI_div, kI_mod, kI_long, kL_add, kL_mul, kL_sub, kL_div, kL_mod, kL_int, n1_add, not_false_eq_true, not_true_eq_false, and_true, true_and, and_false, false_and, or_true, true_or, or_false, false_or, Nat.reduceEqDiff, IN, IM, hp0, e]
theorem xle_t {x : Int32} {a : Nat} (ha : a < 2147483648) (h : x.toInt ≤ (a : Int)) : (x ≤ kI a) = True := eq_true (by rw [Int32.le_iff_toInt_le, kI_toInt ha]; exact h)
theorem xle_f {x : Int32} {a : Nat} (ha : a < 2147483648) (h : ¬ x.toInt ≤ (a : Int)) : (x ≤ kI a) = False := eq_false (by rw [Int32.le_iff_toInt_le, kI_toInt ha]; exact h)
theorem ltx_t {x : Int32} {a : Nat} (ha : a < 2147483648) (h : (a : Int) < x.toInt) : (kI a < x) = True := eq_true (by rw [Int32.lt_iff_toInt_lt, kI_toInt ha]; exact h)
theorem ltx_f {x : Int32} {a : Nat} (ha : a < 2147483648) (h : ¬ (a : Int) < x.toInt) : (kI a < x) = False := eq_false (by rw [Int32.lt_iff_toInt_lt, kI_toInt ha]; exact h)
theorem xLle_t {x : Int32} {a : Nat} (ha : a < 2147483648) (h : x.toInt ≤ (a : Int)) : (x.toInt64 ≤ kL a) = True := eq_true (by rw [Int64.le_iff_toInt_le, kL_toInt (by omega), Int32.toInt_toInt64]; exact h)
theorem xLle_f {x : Int32} {a : Nat} (ha : a < 2147483648) (h : ¬ x.toInt ≤ (a : Int)) : (x.toInt64 ≤ kL a) = False := eq_false (by rw [Int64.le_iff_toInt_le, kL_toInt (by omega), Int32.toInt_toInt64]; exact h)
theorem ev_upTo {b : Bn} (hb : b.OK) {m : Nat → Int64} (h1 : ∀ k, k < b.n → m (1 + k) = kL (b.ln k)) {k : Nat} (hk : k < b.n) : Rf_upTo m (kI k) = some (kI (sm b.ln (k + 1))) := by
  have hn := hb.1
  obtain ⟨a, e, q⟩ := loop_gen (L := fun fu (s : Int32) x => Rl_upTo_4 m (kI k) fu s x) (fun i s => s = kI (sm b.ln i)) (fun s => s = kI (sm b.ln (k + 1))) (k + 1) (fun fu i s hi hs => by
      refine Or.inr ⟨_, ?_, rfl⟩
      subst hs
      simp only [Rl_upTo_4]
      simp (disch := omega) only [↓nm_eq, ↓bd_x, bdx_s, ↓bx_x, bxx_r, bxx_l, ↓bn_x, bnx_r, chk_t, ↓reduceIte, q32, q64, kI_lt_t, kI_lt_f, kI_le_t, kI_le_f, kI_eq_t, kI_eq_f, kL_lt_t, kL_lt_f, kL_le_t, kL_le_f, kL_eq_t, kL_eq_f, kI_m1, kI_m1', m1_m1, kI_n1, kI_n1', n1_add', eq_self, inb_t, kI_nat, kI_add, kI_mul, kI_sub, kI_div, kI_mod, kI_long, kL_add, kL_mul, kL_sub, kL_div, kL_mod, kL_int, n1_add, not_false_eq_true, not_true_eq_false, and_true, true_and, and_false, false_and, or_true, true_or, or_false, false_or, Nat.reduceEqDiff, IN, IM, h1, sm_s])
    (fun fu s hs => ⟨s, by simp only [Rl_upTo_4]; simp (disch := omega) only [↓nm_eq, ↓bd_x, bdx_s, ↓bx_x, bxx_r, bxx_l, ↓bn_x, bnx_r, chk_t, ↓reduceIte, q32, q64, kI_lt_t, kI_lt_f, kI_le_t, kI_le_f, kI_eq_t, kI_eq_f, kL_lt_t, kL_lt_f, kL_le_t, kL_le_f, kL_eq_t, kL_eq_f, kI_m1, kI_m1', m1_m1, kI_n1, kI_n1', n1_add', eq_self, inb_t, kI_nat, kI_add, kI_mul, kI_sub, kI_div, kI_mod, kI_long, kL_add, kL_mul, kL_sub, kL_div, kL_mod, kL_int, n1_add, not_false_eq_true, not_true_eq_false, and_true, true_and, and_false, false_and, or_true, true_or, or_false, false_or, Nat.reduceEqDiff, IN, IM], hs⟩) FUEL 0 (kI 0) (by have : FUEL = 4096 := rfl; omega) (by omega) rfl
  subst q
  unfold Rf_upTo
  rw [q32_0, bd_e e]
def pAf (b : Bn) (x : Int32) : Nat → Nat → Int32 ⊕ Unit
  | 0, _ => .inr ()
  | d + 1, k => if x.toInt ≤ ((2 * sm b.ln k : Nat) : Int) then pAf b x d (k + 1) else if ((2 * sm b.ln (k + 1) : Nat) : Int) < x.toInt then pAf b x d (k + 1) else .inl (kI k)
theorem ev_partAt {b : Bn} (hb : b.OK) {ℓ : Nat → Int32} (hℓ : ∀ k, k < b.n → ℓ k = kI (b.ln k)) {m : Nat → Int64} (h0 : m 0 = kL b.n) (h1 : ∀ k, k < b.n → m (1 + k) = kL (b.ln k)) (x : Int32) : ∀ d k fu, k + d = b.n → d < fu → Cl_B_partAtWayAndBack_n_4 (kI b.n) ℓ x fu (kI (2 * sm b.ln k)) (kI k) = some (pAf b x d k) ∧ Rl_faultOf_100 m x fu (kI k) = some (pAf b x d k) := by
  have hn := hb.1
  have hl : LnOK b.n b.ln b.fr := ⟨hn, hb.2.1⟩
  intro d
  induction d with
  | zero =>
    intro k fu a1 a2
    obtain ⟨q, rfl⟩ : ∃ q, fu = q + 1 := ⟨fu - 1, by omega⟩
    refine ⟨?_, ?_⟩
    · simp only [Cl_B_partAtWayAndBack_n_4, pAf]
      simp (disch := omega) only [↓nm_eq, ↓bd_x, bdx_s, ↓bx_x, bxx_r, bxx_l, ↓bn_x, bnx_r, chk_t, ↓reduceIte, q32, q64, kI_lt_t, kI_lt_f, kI_le_t, kI_le_f, kI_eq_t, kI_eq_f, kL_lt_t, kL_lt_f, kL_le_t, kL_le_f, kL_eq_t, kL_eq_f, kI_m1, kI_m1', m1_m1, kI_n1, kI_n1', n1_add', eq_self, inb_t, kI_nat, kI_add, kI_mul, kI_sub, kI_div, kI_mod, kI_long, kL_add, kL_mul, kL_sub, kL_div, kL_mod, kL_int, n1_add, not_false_eq_true, not_true_eq_false, and_true, true_and, and_false, false_and, or_true, true_or, or_false, false_or, Nat.reduceEqDiff, IN, IM]
    · simp only [Rl_faultOf_100, pAf]
      simp (disch := omega) only [↓nm_eq, ↓bd_x, bdx_s, ↓bx_x, bxx_r, bxx_l, ↓bn_x, bnx_r, chk_t, ↓reduceIte, q32, q64, kI_lt_t, kI_lt_f, kI_le_t, kI_le_f, kI_eq_t, kI_eq_f, kL_lt_t, kL_lt_f, kL_le_t, kL_le_f, kL_eq_t, kL_eq_f, kI_m1, kI_m1', m1_m1, kI_n1, kI_n1', n1_add', eq_self, inb_t, kI_nat, kI_add, kI_mul, kI_sub, kI_div, kI_mod, kI_long, kL_add, kL_mul, kL_sub, kL_div, kL_mod, kL_int, n1_add, not_false_eq_true, not_true_eq_false, and_true, true_and, and_false, false_and, or_true, true_or, or_false, false_or, Nat.reduceEqDiff, IN, IM, ev_parts h0]
  | succ d ih =>
    intro k fu a1 a2
    obtain ⟨q, rfl⟩ : ∃ q, fu = q + 1 := ⟨fu - 1, by omega⟩
    have s1 := sm_ln_le hl k (by omega)
    have s2 := sm_ln_le hl (k + 1) (by omega)
    have s3 := sm_s b.ln k
    have s4 := (hb.2.1 k (by omega)).2.1
    have e1 := ev_upTo hb h1 (show k < b.n by omega)
    have e2 : 2 * sm b.ln k + 2 * b.ln k = 2 * sm b.ln (k + 1) := by omega
    have e3 : sm b.ln (k + 1) - b.ln k = sm b.ln k := by omega
    obtain ⟨o1, o2⟩ := ih (k + 1) q (by omega) (by omega)
    simp only [Cl_B_partAtWayAndBack_n_4, Rl_faultOf_100, Cf_B_partAtWayAndBack_n_37, Rf_faultOf_151, pAf]
    by_cases c : x.toInt ≤ ((2 * sm b.ln k : Nat) : Int)
    · rw [if_pos c]
      exact ⟨by simp (disch := omega) only [↓nm_eq, ↓bd_x, bdx_s, ↓bx_x, bxx_r, bxx_l, ↓bn_x, bnx_r, chk_t, ↓reduceIte, q32, q64, kI_lt_t, kI_lt_f, kI_le_t, kI_le_f, kI_eq_t, kI_eq_f, kL_lt_t, kL_lt_f, kL_le_t, kL_le_f, kL_eq_t, kL_eq_f, kI_m1, kI_m1', m1_m1, kI_n1, kI_n1', n1_add', eq_self, inb_t, kI_nat, kI_add, kI_mul, kI_sub, kI_div, kI_mod, kI_long, kL_add, kL_mul, kL_sub, kL_div, kL_mod, kL_int, n1_add, not_false_eq_true, not_true_eq_false, and_true, true_and, and_false, false_and, or_true, true_or, or_false, false_or, Nat.reduceEqDiff, IN, IM, hℓ, e2, xle_t, o1], by simp (disch := omega) only [↓nm_eq, ↓bd_x, bdx_s, ↓bx_x, bxx_r, bxx_l, ↓bn_x, bnx_r, chk_t, ↓reduceIte, q32, q64, kI_lt_t, kI_lt_f, kI_le_t, kI_le_f, kI_eq_t, kI_eq_f, kL_lt_t, kL_lt_f, kL_le_t, kL_le_f, kL_eq_t, kL_eq_f, kI_m1, kI_m1', m1_m1, kI_n1, kI_n1', n1_add', eq_self, inb_t, kI_nat, kI_add, kI_mul, kI_sub, kI_div, kI_mod, kI_long, kL_add, kL_mul, kL_sub, kL_div, kL_mod, kL_int, n1_add, not_false_eq_true, not_true_eq_false, and_true, true_and, and_false, false_and, or_true, true_or, or_false, false_or, Nat.reduceEqDiff, IN, IM, ev_parts h0, e1, h1, e3, xLle_t, o2]⟩
    · rw [if_neg c]
      by_cases c2 : ((2 * sm b.ln (k + 1) : Nat) : Int) < x.toInt
      · rw [if_pos c2]
        exact ⟨by simp (disch := omega) only [↓nm_eq, ↓bd_x, bdx_s, ↓bx_x, bxx_r, bxx_l, ↓bn_x, bnx_r, chk_t, ↓reduceIte, q32, q64, kI_lt_t, kI_lt_f, kI_le_t, kI_le_f, kI_eq_t, kI_eq_f, kL_lt_t, kL_lt_f, kL_le_t, kL_le_f, kL_eq_t, kL_eq_f, kI_m1, kI_m1', m1_m1, kI_n1, kI_n1', n1_add', eq_self, inb_t, kI_nat, kI_add, kI_mul, kI_sub, kI_div, kI_mod, kI_long, kL_add, kL_mul, kL_sub, kL_div, kL_mod, kL_int, n1_add, not_false_eq_true, not_true_eq_false, and_true, true_and, and_false, false_and, or_true, true_or, or_false, false_or, Nat.reduceEqDiff, IN, IM, hℓ, e2, xle_f, ltx_t, o1], by simp (disch := omega) only [↓nm_eq, ↓bd_x, bdx_s, ↓bx_x, bxx_r, bxx_l, ↓bn_x, bnx_r, chk_t, ↓reduceIte, q32, q64, kI_lt_t, kI_lt_f, kI_le_t, kI_le_f, kI_eq_t, kI_eq_f, kL_lt_t, kL_lt_f, kL_le_t, kL_le_f, kL_eq_t, kL_eq_f, kI_m1, kI_m1', m1_m1, kI_n1, kI_n1', n1_add', eq_self, inb_t, kI_nat, kI_add, kI_mul, kI_sub, kI_div, kI_mod, kI_long, kL_add, kL_mul, kL_sub, kL_div, kL_mod, kL_int, n1_add, not_false_eq_true, not_true_eq_false, and_true, true_and, and_false, false_and, or_true, true_or, or_false, false_or, Nat.reduceEqDiff, IN, IM, ev_parts h0, e1, h1, e3, xLle_f, ltx_t, o2]⟩
      · rw [if_neg c2]
        exact ⟨by simp (disch := omega) only [↓nm_eq, ↓bd_x, bdx_s, ↓bx_x, bxx_r, bxx_l, ↓bn_x, bnx_r, chk_t, ↓reduceIte, q32, q64, kI_lt_t, kI_lt_f, kI_le_t, kI_le_f, kI_eq_t, kI_eq_f, kL_lt_t, kL_lt_f, kL_le_t, kL_le_f, kL_eq_t, kL_eq_f, kI_m1, kI_m1', m1_m1, kI_n1, kI_n1', n1_add', eq_self, inb_t, kI_nat, kI_add, kI_mul, kI_sub, kI_div, kI_mod, kI_long, kL_add, kL_mul, kL_sub, kL_div, kL_mod, kL_int, n1_add, not_false_eq_true, not_true_eq_false, and_true, true_and, and_false, false_and, or_true, true_or, or_false, false_or, Nat.reduceEqDiff, IN, IM, hℓ, e2, xle_f, ltx_f], by simp (disch := omega) only [↓nm_eq, ↓bd_x, bdx_s, ↓bx_x, bxx_r, bxx_l, ↓bn_x, bnx_r, chk_t, ↓reduceIte, q32, q64, kI_lt_t, kI_lt_f, kI_le_t, kI_le_f, kI_eq_t, kI_eq_f, kL_lt_t, kL_lt_f, kL_le_t, kL_le_f, kL_eq_t, kL_eq_f, kI_m1, kI_m1', m1_m1, kI_n1, kI_n1', n1_add', eq_self, inb_t, kI_nat, kI_add, kI_mul, kI_sub, kI_div, kI_mod, kI_long, kL_add, kL_mul, kL_sub, kL_div, kL_mod, kL_int, n1_add, not_false_eq_true, not_true_eq_false, and_true, true_and, and_false, false_and, or_true, true_or, or_false, false_or, Nat.reduceEqDiff, IN, IM, ev_parts h0, e1, h1, e3, xLle_f, ltx_f]⟩
