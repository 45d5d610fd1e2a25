def FF (s : Sx) (n : Nat) (ln fr : Nat → Nat) (len w f : Nat) : Prop := 1 ≤ f ∧ f ≤ 1001 ∧ (∀ q, 1 ≤ q → q < f → pE s n ln fr len q < w) ∧ (f ≤ 1000 → w ≤ pE s n ln fr len f)
theorem FF_ex (s : Sx) (n : Nat) (ln fr : Nat → Nat) (len w : Nat) : ∃ f, FF s n ln fr len w f := by
  obtain ⟨f, h1, h2⟩ := least_ex (P := fun f => f = 1001 ∨ (1 ≤ f ∧ w ≤ pE s n ln fr len f)) ⟨1001, Or.inl rfl⟩
  have h3 : f ≤ 1001 := by
    by_cases q : 1001 < f
    · exact absurd (Or.inl rfl) (h2 1001 q)
    · omega
  refine ⟨f, by omega, h3, fun q q1 q2 => ?_, fun q => by omega⟩
  by_cases w1 : w ≤ pE s n ln fr len q
  · exact absurd (Or.inr ⟨q1, w1⟩) (h2 q q2)
  · omega
section PC2
variable {s : Sx} {n : Nat} {ln fr : Nat → Nat} {ℓ φ : Nat → Int32} {tN : Nat → Nat → Int64}
theorem pE_b (hs : s.OK) (hl : LnOK n ln fr) {len p : Nat} (hp : p ≤ 1000) : pE s n ln fr len p ≤ 4000000 := by
  have := cb_b hs hl (len := len) hp n
  unfold pE eN
  omega
theorem ev_smallest (hs : s.OK) (hl : LnOK n ln fr) (hℓ : ∀ i, i < n → ℓ i = kI (ln i)) (hφ : ∀ i, i < n → φ i = kI (fr i)) {pec : Nat → Int32} (he : pec 0 = kI (s.b.pe 0)) {len : Nat} (hlen : 2 * (sm ln n + len) ≤ s.b.wn) (hT : ∀ j t, j < 9 → t ≤ s.b.wn → tN j t = kL (AN n ln (pB s n ln fr).fq s.b.ls (puP 1 (fun _ => 0) fun _ => s.b.pe 0) j t)) {w f : Nat} (hw4 : w ≤ 4000000) (hf : FF s n ln fr len w f) :
    Cf_P_smallestFraction_peel (kI n) (kI s.b.ft) (kI s.b.ls) ℓ φ pec tN (kI (2 * (sm ln n + len))) (kI (sm ln n)) (kL w) = some (if f ≤ 1000 ∧ pE s n ln fr len f = w then kI f else -1) := by
  obtain ⟨f1, f2, f3, f4⟩ := hf
  have hw : s.b.wn ≤ 200 := hs.1.2.2.2.2.1.2
  have hloop : ∀ k fu T, k ≤ 9 → k + 1 < fu → T ≤ f - 1 → f - 1 < T + 2 * 2 ^ k → Cl_P_smallestFraction_peel_15 (kI n) (kI s.b.ft) (kI s.b.ls) ℓ φ tN (kI (2 * (sm ln n + len))) (kI (sm ln n)) (kL w) (kL (beyond n ln (pB s n ln fr).fq s.b.ls (puP 1 (fun _ => 0) fun _ => s.b.pe 0))) fu (kI T) (kI (2 ^ k)) = some (kI (f - 1)) := by
    intro k
    induction k with
    | zero =>
      intro fu T _ hfu h1 h2
      obtain ⟨g, rfl⟩ : ∃ g, fu = g + 2 := ⟨fu - 2, by omega⟩
      rw [Nat.pow_zero] at h2 ⊢
      simp only [Cl_P_smallestFraction_peel_15, Cf_P_smallestFraction_peel_55]
      by_cases c1 : 1000 < T + 1
      · simp (disch := omega) only [↓nm_eq, ↓bd_x, bdx_s, ↓bx_x, bxx_r, bxx_l, ↓bn_x, bnx_r, chk_t, ↓reduceIte, q32, q64, kI_lt_t, kI_lt_f, kI_le_t, kI_le_f, kI_eq_t, kI_eq_f, kL_lt_t, kL_lt_f, kL_le_t, kL_le_f, kL_eq_t, kL_eq_f, kI_m1, kI_m1', m1_m1, kI_n1, kI_n1', n1_add', eq_self, inb_t, kI_nat, kI_add, kI_mul, kI_sub, kI_div, kI_mod, kI_long, kL_add, kL_mul, kL_sub, kL_div, kL_mod, kL_int, n1_add, not_false_eq_true, not_true_eq_false, and_true, true_and, and_false, false_and, or_true, true_or, or_false, false_or, Nat.reduceEqDiff, c1]
        rw [show T = f - 1 from by omega]
      · have e1 := ev_newEnd hs hl hℓ hφ hlen hT (show T + 1 ≤ 1000 by omega)
        have e2 := pE_b hs hl (len := len) (show T + 1 ≤ 1000 by omega)
        by_cases c2 : w ≤ pE s n ln fr len (T + 1)
        · have : f ≤ T + 1 := by
            by_cases q : T + 1 < f
            · have := f3 (T + 1) (by omega) q
              omega
            · omega
          simp (disch := omega) only [↓nm_eq, ↓bd_x, bdx_s, ↓bx_x, bxx_r, bxx_l, ↓bn_x, bnx_r, chk_t, ↓reduceIte, q32, q64, kI_lt_t, kI_lt_f, kI_le_t, kI_le_f, kI_eq_t, kI_eq_f, kL_lt_t, kL_lt_f, kL_le_t, kL_le_f, kL_eq_t, kL_eq_f, kI_m1, kI_m1', m1_m1, kI_n1, kI_n1', n1_add', eq_self, inb_t, kI_nat, kI_add, kI_mul, kI_sub, kI_div, kI_mod, kI_long, kL_add, kL_mul, kL_sub, kL_div, kL_mod, kL_int, n1_add, not_false_eq_true, not_true_eq_false, and_true, true_and, and_false, false_and, or_true, true_or, or_false, false_or, Nat.reduceEqDiff, c1, e1, c2]
          rw [show T = f - 1 from by omega]
        · have : T + 1 < f := by
            by_cases q : f ≤ T + 1
            · have h3 := f4 (by omega)
              have h4 := pE_mono hs hl (len := len) q
              omega
            · omega
          simp (disch := omega) only [↓nm_eq, ↓bd_x, bdx_s, ↓bx_x, bxx_r, bxx_l, ↓bn_x, bnx_r, chk_t, ↓reduceIte, q32, q64, kI_lt_t, kI_lt_f, kI_le_t, kI_le_f, kI_eq_t, kI_eq_f, kL_lt_t, kL_lt_f, kL_le_t, kL_le_f, kL_eq_t, kL_eq_f, kI_m1, kI_m1', m1_m1, kI_n1, kI_n1', n1_add', eq_self, inb_t, kI_nat, kI_add, kI_mul, kI_sub, kI_div, kI_mod, kI_long, kL_add, kL_mul, kL_sub, kL_div, kL_mod, kL_int, n1_add, not_false_eq_true, not_true_eq_false, and_true, true_and, and_false, false_and, or_true, true_or, or_false, false_or, Nat.reduceEqDiff, c1, e1, c2]
          rw [show T + 1 = f - 1 from by omega]
    | succ k ih =>
      intro fu T hk hfu h1 h2
      obtain ⟨g, rfl⟩ : ∃ g, fu = g + 1 := ⟨fu - 1, by omega⟩
      have hp0 : 2 ^ (k + 1) = 2 * 2 ^ k := by rw [Nat.pow_succ]; omega
      have hp1 : 2 ^ k ≤ 2 ^ 8 := Nat.pow_le_pow_right (by decide) (by omega)
      have hp2 : 0 < 2 ^ k := Nat.two_pow_pos k
      have hp3 : 2 ^ 8 = 256 := by decide
      rw [hp0] at h2 ⊢
      have d2 : 2 * 2 ^ k / 2 = 2 ^ k := by omega
      simp only [Cl_P_smallestFraction_peel_15, Cf_P_smallestFraction_peel_55]
      generalize 2 ^ k = P at hp1 hp2 h2 ih d2 ⊢
      by_cases c1 : 1000 < T + 2 * P
      · simp (disch := omega) only [↓nm_eq, ↓bd_x, bdx_s, ↓bx_x, bxx_r, bxx_l, ↓bn_x, bnx_r, chk_t, ↓reduceIte, q32, q64, kI_lt_t, kI_lt_f, kI_le_t, kI_le_f, kI_eq_t, kI_eq_f, kL_lt_t, kL_lt_f, kL_le_t, kL_le_f, kL_eq_t, kL_eq_f, kI_m1, kI_m1', m1_m1, kI_n1, kI_n1', n1_add', eq_self, inb_t, kI_nat, kI_add, kI_mul, kI_sub, kI_div, kI_mod, kI_long, kL_add, kL_mul, kL_sub, kL_div, kL_mod, kL_int, n1_add, not_false_eq_true, not_true_eq_false, and_true, true_and, and_false, false_and, or_true, true_or, or_false, false_or, Nat.reduceEqDiff, c1, d2]
        exact ih g T (by omega) (by omega) (by omega) (by omega)
      · have e1 := ev_newEnd hs hl hℓ hφ hlen hT (show T + 2 * P ≤ 1000 by omega)
        have e2 := pE_b hs hl (len := len) (show T + 2 * P ≤ 1000 by omega)
        by_cases c2 : w ≤ pE s n ln fr len (T + 2 * P)
        · have : f ≤ T + 2 * P := by
            by_cases q : T + 2 * P < f
            · have := f3 (T + 2 * P) (by omega) q
              omega
            · omega
          simp (disch := omega) only [↓nm_eq, ↓bd_x, bdx_s, ↓bx_x, bxx_r, bxx_l, ↓bn_x, bnx_r, chk_t, ↓reduceIte, q32, q64, kI_lt_t, kI_lt_f, kI_le_t, kI_le_f, kI_eq_t, kI_eq_f, kL_lt_t, kL_lt_f, kL_le_t, kL_le_f, kL_eq_t, kL_eq_f, kI_m1, kI_m1', m1_m1, kI_n1, kI_n1', n1_add', eq_self, inb_t, kI_nat, kI_add, kI_mul, kI_sub, kI_div, kI_mod, kI_long, kL_add, kL_mul, kL_sub, kL_div, kL_mod, kL_int, n1_add, not_false_eq_true, not_true_eq_false, and_true, true_and, and_false, false_and, or_true, true_or, or_false, false_or, Nat.reduceEqDiff, c1, e1, c2, d2]
          exact ih g T (by omega) (by omega) (by omega) (by omega)
        · have : T + 2 * P < f := by
            by_cases q : f ≤ T + 2 * P
            · have h3 := f4 (by omega)
              have h4 := pE_mono hs hl (len := len) q
              omega
            · omega
          simp (disch := omega) only [↓nm_eq, ↓bd_x, bdx_s, ↓bx_x, bxx_r, bxx_l, ↓bn_x, bnx_r, chk_t, ↓reduceIte, q32, q64, kI_lt_t, kI_lt_f, kI_le_t, kI_le_f, kI_eq_t, kI_eq_f, kL_lt_t, kL_lt_f, kL_le_t, kL_le_f, kL_eq_t, kL_eq_f, kI_m1, kI_m1', m1_m1, kI_n1, kI_n1', n1_add', eq_self, inb_t, kI_nat, kI_add, kI_mul, kI_sub, kI_div, kI_mod, kI_long, kL_add, kL_mul, kL_sub, kL_div, kL_mod, kL_int, n1_add, not_false_eq_true, not_true_eq_false, and_true, true_and, and_false, false_and, or_true, true_or, or_false, false_or, Nat.reduceEqDiff, c1, e1, c2, d2]
          exact ih g (T + 2 * P) (by omega) (by omega) (by omega) (by omega)
  have h0 := hloop 9 FUEL 0 (by omega) (by have : FUEL = 4096 := rfl; omega) (by omega) (by rw [show 2 ^ 9 = 512 from by decide]; omega)
  rw [show 2 ^ 9 = 512 from by decide] at h0
  have hb := ev_beyond hs hl hφ he (show sm ln n ≤ s.b.wn by omega) hT
  unfold Cf_P_smallestFraction_peel Cf_P_smallestFraction_peel_98 Cf_P_smallestFraction_peel_99 Cf_P_smallestFraction_peel_112
  have e3 : f - 1 + 1 = f := by omega
  by_cases c1 : f ≤ 1000
  · have e1 := ev_newEnd hs hl hℓ hφ hlen hT c1
    have e2 := pE_b hs hl (len := len) c1
    by_cases c2 : pE s n ln fr len f = w
    · rw [if_pos ⟨c1, c2⟩]
      simp (disch := omega) only [↓nm_eq, ↓bd_x, bdx_s, ↓bx_x, bxx_r, bxx_l, ↓bn_x, bnx_r, chk_t, ↓reduceIte, q32, q64, kI_lt_t, kI_lt_f, kI_le_t, kI_le_f, kI_eq_t, kI_eq_f, kL_lt_t, kL_lt_f, kL_le_t, kL_le_f, kL_eq_t, kL_eq_f, kI_m1, kI_m1', m1_m1, kI_n1, kI_n1', n1_add', eq_self, inb_t, kI_nat, kI_add, kI_mul, kI_sub, kI_div, kI_mod, kI_long, kL_add, kL_mul, kL_sub, kL_div, kL_mod, kL_int, n1_add, not_false_eq_true, not_true_eq_false, and_true, true_and, and_false, false_and, or_true, true_or, or_false, false_or, Nat.reduceEqDiff, hb, h0, e3, e1, c2]
    · rw [if_neg (fun q => c2 q.2)]
      simp (disch := omega) only [↓nm_eq, ↓bd_x, bdx_s, ↓bx_x, bxx_r, bxx_l, ↓bn_x, bnx_r, chk_t, ↓reduceIte, q32, q64, kI_lt_t, kI_lt_f, kI_le_t, kI_le_f, kI_eq_t, kI_eq_f, kL_lt_t, kL_lt_f, kL_le_t, kL_le_f, kL_eq_t, kL_eq_f, kI_m1, kI_m1', m1_m1, kI_n1, kI_n1', n1_add', eq_self, inb_t, kI_nat, kI_add, kI_mul, kI_sub, kI_div, kI_mod, kI_long, kL_add, kL_mul, kL_sub, kL_div, kL_mod, kL_int, n1_add, not_false_eq_true, not_true_eq_false, and_true, true_and, and_false, false_and, or_true, true_or, or_false, false_or, Nat.reduceEqDiff, hb, h0, e3, e1, c2]
  · rw [if_neg (fun q => c1 q.1)]
    simp (disch := omega) only [↓nm_eq, ↓bd_x, bdx_s, ↓bx_x, bxx_r, bxx_l, ↓bn_x, bnx_r, chk_t, ↓reduceIte, q32, q64, kI_lt_t, kI_lt_f, kI_le_t, kI_le_f, kI_eq_t, kI_eq_f, kL_lt_t, kL_lt_f, kL_le_t, kL_le_f, kL_eq_t, kL_eq_f, kI_m1, kI_m1', m1_m1, kI_n1, kI_n1', n1_add', eq_self, inb_t, kI_nat, kI_add, kI_mul, kI_sub, kI_div, kI_mod, kI_long, kL_add, kL_mul, kL_sub, kL_div, kL_mod, kL_int, n1_add, not_false_eq_true, not_true_eq_false, and_true, true_and, and_false, false_and, or_true, true_or, or_false, false_or, Nat.reduceEqDiff, hb, h0, e3]
theorem ev_firstUnequalT {f g : Nat → Nat} {F G : Nat → Int64} (hF : ∀ t, t < 201 → F t = kL (f t)) (hG : ∀ t, t < 201 → G t = kL (g t)) (bf : ∀ t, t < 201 → f t ≤ 4000000) (bg : ∀ t, t < 201 → g t ≤ 4000000) {w t : Nat} (hw : w ≤ 200) (ht : FU f g (w + 1) t) : Cf_L_firstUnequal_n_seen_t_echoes F G (kI w) = some (if t ≤ w then kI t else -1) := by
  obtain ⟨t1, t2, t3⟩ := ht
  obtain ⟨a, e, q⟩ := loop_gen (L := fun fu (_ : Unit) x => Cl_L_firstUnequal_n_seen_t_echoes_2 F G (kI w) fu x) (fun i _ => i ≤ t) (fun a => a = if t ≤ w then Sum.inl (kI t) else Sum.inr ()) (w + 1) (fun fu i u hi hs => by
      have b1 := bf i (by omega)
      have b2 := bg i (by omega)
      simp only [Cl_L_firstUnequal_n_seen_t_echoes_2]
      by_cases c : i = t
      · subst c
        have c2 := t3 (by omega)
        refine Or.inl ⟨_, ?_, rfl⟩
        rw [if_pos (show i ≤ w by omega)]
        simp (disch := omega) only [↓nm_eq, ↓bd_x, bdx_s, ↓bx_x, bxx_r, bxx_l, ↓bn_x, bnx_r, chk_t, ↓reduceIte, q32, q64, kI_lt_t, kI_lt_f, kI_le_t, kI_le_f, kI_eq_t, kI_eq_f, kL_lt_t, kL_lt_f, kL_le_t, kL_le_f, kL_eq_t, kL_eq_f, kI_m1, kI_m1', m1_m1, kI_n1, kI_n1', n1_add', eq_self, inb_t, kI_nat, kI_add, kI_mul, kI_sub, kI_div, kI_mod, kI_long, kL_add, kL_mul, kL_sub, kL_div, kL_mod, kL_int, n1_add, not_false_eq_true, not_true_eq_false, and_true, true_and, and_false, false_and, or_true, true_or, or_false, false_or, Nat.reduceEqDiff, hF, hG]
      · have c2 := t2 i (by omega)
        refine Or.inr ⟨(), ?_, by omega⟩
        simp (disch := omega) only [↓nm_eq, ↓bd_x, bdx_s, ↓bx_x, bxx_r, bxx_l, ↓bn_x, bnx_r, chk_t, ↓reduceIte, q32, q64, kI_lt_t, kI_lt_f, kI_le_t, kI_le_f, kI_eq_t, kI_eq_f, kL_lt_t, kL_lt_f, kL_le_t, kL_le_f, kL_eq_t, kL_eq_f, kI_m1, kI_m1', m1_m1, kI_n1, kI_n1', n1_add', eq_self, inb_t, kI_nat, kI_add, kI_mul, kI_sub, kI_div, kI_mod, kI_long, kL_add, kL_mul, kL_sub, kL_div, kL_mod, kL_int, n1_add, not_false_eq_true, not_true_eq_false, and_true, true_and, and_false, false_and, or_true, true_or, or_false, false_or, Nat.reduceEqDiff, hF, hG, c2])
    (fun fu u hs => ⟨Sum.inr (), by simp only [Cl_L_firstUnequal_n_seen_t_echoes_2]; simp (disch := omega) only [↓nm_eq, ↓bd_x, bdx_s, ↓bx_x, bxx_r, bxx_l, ↓bn_x, bnx_r, chk_t, ↓reduceIte, q32, q64, kI_lt_t, kI_lt_f, kI_le_t, kI_le_f, kI_eq_t, kI_eq_f, kL_lt_t, kL_lt_f, kL_le_t, kL_le_f, kL_eq_t, kL_eq_f, kI_m1, kI_m1', m1_m1, kI_n1, kI_n1', n1_add', eq_self, inb_t, kI_nat, kI_add, kI_mul, kI_sub, kI_div, kI_mod, kI_long, kL_add, kL_mul, kL_sub, kL_div, kL_mod, kL_int, n1_add, not_false_eq_true, not_true_eq_false, and_true, true_and, and_false, false_and, or_true, true_or, or_false, false_or, Nat.reduceEqDiff], by rw [if_neg (by omega)]⟩) FUEL 0 () (by have : FUEL = 4096 := rfl; omega) (by omega) (Nat.zero_le _)
  subst q
  unfold Cf_L_firstUnequal_n_seen_t_echoes Cf_L_firstUnequal_n_seen_t_echoes_32
  rw [q32, bd_e e]
  by_cases c : t ≤ w
  · rw [if_pos c, if_pos c]
  · rw [if_neg c, if_neg c]
end PC2
