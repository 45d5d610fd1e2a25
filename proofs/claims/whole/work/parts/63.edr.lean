theorem up_at' {f : Nat → Int64} {i j : Nat} {v : Int64} (h : j = i) : vp_updL f i v j = v := by rw [h]; exact up_at
theorem ev_laysPart {z : Nat → Int64} {k a p : Nat} (hk : k < 8) (ha : a ≤ 1000) (hp : p ≤ 1000) : Rf_laysPart z (kI k) (kI a) (kI p) = some (vp_updL (vp_updL z (1 + k) (kL a)) (9 + k) (kL p)) := by
  unfold Rf_laysPart
  simp (disch := omega) only [↓nm_eq, ↓bd_x, bdx_s, ↓bx_x, bxx_r, bxx_l, ↓bn_x, bnx_r, chk_t, ↓reduceIte, q32, q64, kI_lt_t, kI_lt_f, kI_le_t, kI_le_f, kI_eq_t, kI_eq_f, kL_lt_t, kL_lt_f, kL_le_t, kL_le_f, kL_eq_t, kL_eq_f, kI_m1, kI_m1', m1_m1, kI_n1, kI_n1', n1_add', eq_self, inb_t, kI_nat, kI_add, kI_mul, kI_sub, kI_div, kI_mod, kI_long, kL_add, kL_mul, kL_sub, kL_div, kL_mod, kL_int, n1_add, not_false_eq_true, not_true_eq_false, and_true, true_and, and_false, false_and, or_true, true_or, or_false, false_or, Nat.reduceEqDiff, IN, IM]
def Sx.wb (s : Sx) (b : Bn) : Sx := (Sx.mk b s.so s.se)
theorem RS_line {s : Sx} {m m' : Nat → Int64} (hm : RS s m) (hnp : s.b.np ≤ 4) {n' : Nat} {ln' fr' : Nat → Nat} (h0 : m' 0 = kL n') (h1 : ∀ k, k < n' → m' (1 + k) = kL (ln' k)) (h2 : ∀ k, k < n' → m' (9 + k) = kL (fr' k)) (hf : ∀ j, 17 ≤ j → j < 431 → m' j = m j) : RS (s.wb (Bn.mk n' ln' fr' s.b.ft s.b.ls s.b.wn s.b.np s.b.pt s.b.pe)) m' := by
  obtain ⟨m0, m1, m2, m3, m4, m5, m6, m7, m8, m9, m10⟩ := hm
  refine ⟨h0, h1, h2, ?_, ?_, ?_, ?_, fun i hi => ?_, fun i hi => ?_, fun t ht => ?_, fun t ht => ?_⟩
  · rw [hf _ (by omega) (by omega)]; exact m3
  · rw [hf _ (by omega) (by omega)]; exact m4
  · rw [hf _ (by omega) (by omega)]; exact m5
  · rw [hf _ (by omega) (by omega)]; exact m6
  · have hi' : i < s.b.np := hi
    rw [hf _ (by omega) (by omega)]; exact m7 i hi
  · have hi' : i < s.b.np := hi
    rw [hf _ (by omega) (by omega)]; exact m8 i hi
  · rw [hf _ (by omega) (by omega)]; exact m9 t ht
  · rw [hf _ (by omega) (by omega)]; exact m10 t ht
theorem RS_pulse {s : Sx} {m m' : Nat → Int64} (hm : RS s m) (hn : s.b.n ≤ 8) {n' : Nat} {pt' pe' : Nat → Nat} (h0 : m' 20 = kL n') (h1 : ∀ k, k < n' → m' (21 + 2 * k) = kL (pt' k)) (h2 : ∀ k, k < n' → m' (21 + 2 * k + 1) = kL (pe' k)) (hf : ∀ j, j < 20 ∨ (29 ≤ j ∧ j < 431) → m' j = m j) : RS (s.wb (Bn.mk s.b.n s.b.ln s.b.fr s.b.ft s.b.ls s.b.wn n' pt' pe')) m' := by
  obtain ⟨m0, m1, m2, m3, m4, m5, m6, m7, m8, m9, m10⟩ := hm
  refine ⟨?_, fun k hk => ?_, fun k hk => ?_, ?_, ?_, ?_, h0, h1, h2, fun t ht => ?_, fun t ht => ?_⟩
  · rw [hf _ (by omega)]; exact m0
  · have hk' : k < s.b.n := hk
    rw [hf _ (by omega)]; exact m1 k hk
  · have hk' : k < s.b.n := hk
    rw [hf _ (by omega)]; exact m2 k hk
  · rw [hf _ (by omega)]; exact m3
  · rw [hf _ (by omega)]; exact m4
  · rw [hf _ (by omega)]; exact m5
  · rw [hf _ (by omega)]; exact m9 t ht
  · rw [hf _ (by omega)]; exact m10 t ht
section EDR
variable {s : Sx} (hs : s.OK) {m : Nat → Int64} (hm : RS s m)
theorem ev_addsPart (hs : s.OK) (hm : RS s m) {l p : Nat} (hn : s.b.n < 8) (hl : l ≤ 20) (hp : p ≤ 1000) : ∃ m', Rf_addsPart m (kI l) (kI p) = some (m', kI (s.b.n + 1)) ∧ RS (s.wb (addB s.b l p)) m' := by
  obtain ⟨m0, m1, m2, m3, m4, m5, m6, m7, m8, m9, m10⟩ := hm
  have hnp : s.b.np ≤ 4 := hs.1.2.2.2.2.2.2.1
  refine ⟨vp_updL (vp_updL (vp_updL m (1 + s.b.n) (kL l)) (9 + s.b.n) (kL p)) 0 (kL (s.b.n + 1)), ?_, ?_⟩
  · unfold Rf_addsPart Rf_laysPart Rf_parts
    simp (disch := omega) only [↓nm_eq, ↓bd_x, bdx_s, ↓bx_x, bxx_r, bxx_l, ↓bn_x, bnx_r, chk_t, ↓reduceIte, q32, q64, kI_lt_t, kI_lt_f, kI_le_t, kI_le_f, kI_eq_t, kI_eq_f, kL_lt_t, kL_lt_f, kL_le_t, kL_le_f, kL_eq_t, kL_eq_f, kI_m1, kI_m1', m1_m1, kI_n1, kI_n1', n1_add', eq_self, inb_t, kI_nat, kI_add, kI_mul, kI_sub, kI_div, kI_mod, kI_long, kL_add, kL_mul, kL_sub, kL_div, kL_mod, kL_int, n1_add, not_false_eq_true, not_true_eq_false, and_true, true_and, and_false, false_and, or_true, true_or, or_false, false_or, Nat.reduceEqDiff, IN, IM, m0, up_ne, up_at']
  · refine ⟨up_at, fun k hk => ?_, fun k hk => ?_, ?_, ?_, ?_, ?_, fun i hi => ?_, fun i hi => ?_, fun t ht => ?_, fun t ht => ?_⟩
    · have hk' : k < s.b.n + 1 := hk
      show _ = kL (upN s.b.ln s.b.n l k)
      by_cases e : k = s.b.n
      · rw [e, upN_at, up_ne (by omega), up_ne (by omega), up_at]
      · rw [upN_ne e, up_ne (by omega), up_ne (by omega), up_ne (by omega), m1 k (by omega)]
    · have hk' : k < s.b.n + 1 := hk
      show _ = kL (upN s.b.fr s.b.n p k)
      by_cases e : k = s.b.n
      · rw [e, upN_at, up_ne (by omega), up_at]
      · rw [upN_ne e, up_ne (by omega), up_ne (by omega), up_ne (by omega), m2 k (by omega)]
    · rw [up_ne (by omega), up_ne (by omega), up_ne (by omega)]; exact m3
    · rw [up_ne (by omega), up_ne (by omega), up_ne (by omega)]; exact m4
    · rw [up_ne (by omega), up_ne (by omega), up_ne (by omega)]; exact m5
    · rw [up_ne (by omega), up_ne (by omega), up_ne (by omega)]; exact m6
    · rw [up_ne (by omega), up_ne (by omega), up_ne (by omega)]; exact m7 i hi
    · rw [up_ne (by omega), up_ne (by omega), up_ne (by omega)]; exact m8 i hi
    · rw [up_ne (by omega), up_ne (by omega), up_ne (by omega)]; exact m9 t ht
    · rw [up_ne (by omega), up_ne (by omega), up_ne (by omega)]; exact m10 t ht
theorem ev_setsPart (hs : s.OK) (hm : RS s m) {k l p : Nat} (hk : k < s.b.n) (hl : l ≤ 20) (hp : p ≤ 1000) : ∃ m', Rf_setsPart m (kI k) (kI l) (kI p) = some (m', kI (s.b.fr k)) ∧ RS (s.wb (setB s.b k l p)) m' := by
  obtain ⟨m0, m1, m2, m3, m4, m5, m6, m7, m8, m9, m10⟩ := hm
  have hnp : s.b.np ≤ 4 := hs.1.2.2.2.2.2.2.1
  have hn := hs.1.1
  refine ⟨vp_updL (vp_updL m (1 + k) (kL l)) (9 + k) (kL p), ?_, ?_⟩
  · unfold Rf_setsPart Rf_laysPart
    simp (disch := omega) only [↓nm_eq, ↓bd_x, bdx_s, ↓bx_x, bxx_r, bxx_l, ↓bn_x, bnx_r, chk_t, ↓reduceIte, q32, q64, kI_lt_t, kI_lt_f, kI_le_t, kI_le_f, kI_eq_t, kI_eq_f, kL_lt_t, kL_lt_f, kL_le_t, kL_le_f, kL_eq_t, kL_eq_f, kI_m1, kI_m1', m1_m1, kI_n1, kI_n1', n1_add', eq_self, inb_t, kI_nat, kI_add, kI_mul, kI_sub, kI_div, kI_mod, kI_long, kL_add, kL_mul, kL_sub, kL_div, kL_mod, kL_int, n1_add, not_false_eq_true, not_true_eq_false, and_true, true_and, and_false, false_and, or_true, true_or, or_false, false_or, Nat.reduceEqDiff, IN, IM, m2]
  · refine ⟨?_, fun j hj => ?_, fun j hj => ?_, ?_, ?_, ?_, ?_, fun i hi => ?_, fun i hi => ?_, fun t ht => ?_, fun t ht => ?_⟩
    · rw [up_ne (by omega), up_ne (by omega)]; exact m0
    · have hj' : j < s.b.n := hj
      show _ = kL (upN s.b.ln k l j)
      by_cases e : j = k
      · rw [e, upN_at, up_ne (by omega), up_at]
      · rw [upN_ne e, up_ne (by omega), up_ne (by omega), m1 j (by omega)]
    · have hj' : j < s.b.n := hj
      show _ = kL (upN s.b.fr k p j)
      by_cases e : j = k
      · rw [e, upN_at, up_at]
      · rw [upN_ne e, up_ne (by omega), up_ne (by omega), m2 j (by omega)]
    · rw [up_ne (by omega), up_ne (by omega)]; exact m3
    · rw [up_ne (by omega), up_ne (by omega)]; exact m4
    · rw [up_ne (by omega), up_ne (by omega)]; exact m5
    · rw [up_ne (by omega), up_ne (by omega)]; exact m6
    · rw [up_ne (by omega), up_ne (by omega)]; exact m7 i hi
    · rw [up_ne (by omega), up_ne (by omega)]; exact m8 i hi
    · rw [up_ne (by omega), up_ne (by omega)]; exact m9 t ht
    · rw [up_ne (by omega), up_ne (by omega)]; exact m10 t ht
theorem ev_removesPart (hs : s.OK) (hm : RS s m) {k : Nat} (hk : k < s.b.n) : ∃ m', Rf_removesPart m (kI k) = some (m', kI (s.b.n - 1)) ∧ RS (s.wb (cutB s.b k)) m' := by
  have hm0 := hm
  obtain ⟨m0, m1, m2, m3, m4, m5, m6, m7, m8, m9, m10⟩ := hm
  have hnp : s.b.np ≤ 4 := hs.1.2.2.2.2.2.2.1
  have hn := hs.1.1
  obtain ⟨a, e, q1, q2, q3⟩ := loop_gen (L := fun fu (z : Nat → Int64) x => Rl_removesPart_12 fu z x) (fun i z => k ≤ i ∧ (∀ j, 1 + k ≤ j → j < 1 + i → z j = m (j + 1)) ∧ (∀ j, 9 + k ≤ j → j < 9 + i → z j = m (j + 1)) ∧ ∀ j, ¬ (1 + k ≤ j ∧ j < 1 + i) → ¬ (9 + k ≤ j ∧ j < 9 + i) → z j = if j = 0 then kL (s.b.n - 1) else m j) (fun z => (∀ j, 1 + k ≤ j → j < s.b.n → z j = m (j + 1)) ∧ (∀ j, 9 + k ≤ j → j < 8 + s.b.n → z j = m (j + 1)) ∧ ∀ j, ¬ (1 + k ≤ j ∧ j < s.b.n) → ¬ (9 + k ≤ j ∧ j < 8 + s.b.n) → z j = if j = 0 then kL (s.b.n - 1) else m j) (s.b.n - 1) (fun fu i z hi hz => by
      obtain ⟨hki, h1, h2, h3⟩ := hz
      have r0 : z 0 = kL (s.b.n - 1) := (h3 0 (by omega) (by omega)).trans (if_pos rfl)
      have r1 : z (1 + i + 1) = m (1 + i + 1) := (h3 _ (by omega) (by omega)).trans (if_neg (by omega))
      have r2 : z (9 + i + 1) = m (9 + i + 1) := (h3 _ (by omega) (by omega)).trans (if_neg (by omega))
      refine Or.inr ⟨vp_updL (vp_updL z (1 + i) (m (1 + i + 1))) (9 + i) (m (9 + i + 1)), ?_, by omega, fun j j1 j2 => ?_, fun j j1 j2 => ?_, fun j j1 j2 => ?_⟩
      · simp only [Rl_removesPart_12, Rf_parts]
        simp (disch := omega) only [↓nm_eq, ↓bd_x, bdx_s, ↓bx_x, bxx_r, bxx_l, ↓bn_x, bnx_r, chk_t, ↓reduceIte, q32, q64, kI_lt_t, kI_lt_f, kI_le_t, kI_le_f, kI_eq_t, kI_eq_f, kL_lt_t, kL_lt_f, kL_le_t, kL_le_f, kL_eq_t, kL_eq_f, kI_m1, kI_m1', m1_m1, kI_n1, kI_n1', n1_add', eq_self, inb_t, kI_nat, kI_add, kI_mul, kI_sub, kI_div, kI_mod, kI_long, kL_add, kL_mul, kL_sub, kL_div, kL_mod, kL_int, n1_add, not_false_eq_true, not_true_eq_false, and_true, true_and, and_false, false_and, or_true, true_or, or_false, false_or, Nat.reduceEqDiff, IN, IM, r0, r1, r2, up_ne]
      · rw [up_ne (by omega)]
        by_cases e : j = 1 + i
        · rw [e, up_at]
        · rw [up_ne e]; exact h1 j j1 (by omega)
      · by_cases e : j = 9 + i
        · rw [e, up_at]
        · rw [up_ne e, up_ne (by omega)]; exact h2 j j1 (by omega)
      · rw [up_ne (by omega), up_ne (by omega)]; exact h3 j (by omega) (by omega))
    (fun fu z hz => ⟨z, by
      obtain ⟨hki, h1, h2, h3⟩ := hz
      have r0 : z 0 = kL (s.b.n - 1) := (h3 0 (by omega) (by omega)).trans (if_pos rfl)
      simp only [Rl_removesPart_12, Rf_parts]
      simp (disch := omega) only [↓nm_eq, ↓bd_x, bdx_s, ↓bx_x, bxx_r, bxx_l, ↓bn_x, bnx_r, chk_t, ↓reduceIte, q32, q64, kI_lt_t, kI_lt_f, kI_le_t, kI_le_f, kI_eq_t, kI_eq_f, kL_lt_t, kL_lt_f, kL_le_t, kL_le_f, kL_eq_t, kL_eq_f, kI_m1, kI_m1', m1_m1, kI_n1, kI_n1', n1_add', eq_self, inb_t, kI_nat, kI_add, kI_mul, kI_sub, kI_div, kI_mod, kI_long, kL_add, kL_mul, kL_sub, kL_div, kL_mod, kL_int, n1_add, not_false_eq_true, not_true_eq_false, and_true, true_and, and_false, false_and, or_true, true_or, or_false, false_or, Nat.reduceEqDiff, IN, IM, r0], fun j j1 j2 => hz.2.1 j j1 (by omega), fun j j1 j2 => hz.2.2.1 j j1 (by omega), fun j j1 j2 => hz.2.2.2 j (by omega) (by omega)⟩) FUEL k (vp_updL m 0 (kL (s.b.n - 1))) (by have : FUEL = 4096 := rfl; omega) (by omega) ⟨Nat.le_refl k, fun j _ _ => by omega, fun j _ _ => by omega, fun j _ _ => by
        by_cases e : j = 0
        · rw [e, up_at, if_pos rfl]
        · rw [up_ne e, if_neg e]⟩
  have a0 : a 0 = kL (s.b.n - 1) := (q3 0 (by omega) (by omega)).trans (if_pos rfl)
  refine ⟨a, ?_, RS_line hm0 hnp a0 (fun j hj => ?_) (fun j hj => ?_) (fun j j1 j2 => (q3 j (by omega) (by omega)).trans (if_neg (by omega)))⟩
  · unfold Rf_removesPart Rf_parts
    simp (disch := omega) only [↓nm_eq, ↓bd_x, bdx_s, ↓bx_x, bxx_r, bxx_l, ↓bn_x, bnx_r, chk_t, ↓reduceIte, q32, q64, kI_lt_t, kI_lt_f, kI_le_t, kI_le_f, kI_eq_t, kI_eq_f, kL_lt_t, kL_lt_f, kL_le_t, kL_le_f, kL_eq_t, kL_eq_f, kI_m1, kI_m1', m1_m1, kI_n1, kI_n1', n1_add', eq_self, inb_t, kI_nat, kI_add, kI_mul, kI_sub, kI_div, kI_mod, kI_long, kL_add, kL_mul, kL_sub, kL_div, kL_mod, kL_int, n1_add, not_false_eq_true, not_true_eq_false, and_true, true_and, and_false, false_and, or_true, true_or, or_false, false_or, Nat.reduceEqDiff, IN, IM, m0, e, a0]
  · by_cases c : k ≤ j ∧ j < s.b.n - 1
    · rw [if_pos c, q1 _ (by omega) (by omega), show 1 + j + 1 = 1 + (j + 1) from by omega, m1 _ (by omega)]
    · rw [if_neg c, q3 _ (by omega) (by omega), if_neg (by omega), m1 _ (by omega)]
  · by_cases c : k ≤ j ∧ j < s.b.n - 1
    · rw [if_pos c, q2 _ (by omega) (by omega), show 9 + j + 1 = 9 + (j + 1) from by omega, m2 _ (by omega)]
    · rw [if_neg c, q3 _ (by omega) (by omega), if_neg (by omega), m2 _ (by omega)]
theorem ev_splLoop (hs : s.OK) (hm : RS s m) {k : Nat} (hk : k < s.b.n) (hn : s.b.n < 8) {x5 x6 : Int32} : ∀ d fu z, d < fu → k + d ≤ s.b.n → (∀ j, 1 + (k + d) < j → j ≤ 1 + s.b.n → z j = m (j - 1)) → (∀ j, 9 + (k + d) < j → j ≤ 9 + s.b.n → z j = m (j - 1)) → (∀ j, ¬ (1 + (k + d) < j ∧ j ≤ 1 + s.b.n) → ¬ (9 + (k + d) < j ∧ j ≤ 9 + s.b.n) → z j = m j) → ∃ z', Rl_splitsPart_6 (kI k) x5 x6 fu z (kI (k + d)) = some z' ∧ (∀ j, 1 + k < j → j ≤ 1 + s.b.n → z' j = m (j - 1)) ∧ (∀ j, 9 + k < j → j ≤ 9 + s.b.n → z' j = m (j - 1)) ∧ ∀ j, ¬ (1 + k < j ∧ j ≤ 1 + s.b.n) → ¬ (9 + k < j ∧ j ≤ 9 + s.b.n) → z' j = m j := by
  intro d
  induction d with
  | zero =>
    intro fu z h1 h2 z1 z2 z3
    obtain ⟨g, rfl⟩ : ∃ g, fu = g + 1 := ⟨fu - 1, by omega⟩
    refine ⟨z, ?_, z1, z2, z3⟩
    simp only [Rl_splitsPart_6]
    simp (disch := omega) only [↓nm_eq, ↓bd_x, bdx_s, ↓bx_x, bxx_r, bxx_l, ↓bn_x, bnx_r, chk_t, ↓reduceIte, q32, q64, kI_lt_t, kI_lt_f, kI_le_t, kI_le_f, kI_eq_t, kI_eq_f, kL_lt_t, kL_lt_f, kL_le_t, kL_le_f, kL_eq_t, kL_eq_f, kI_m1, kI_m1', m1_m1, kI_n1, kI_n1', n1_add', eq_self, inb_t, kI_nat, kI_add, kI_mul, kI_sub, kI_div, kI_mod, kI_long, kL_add, kL_mul, kL_sub, kL_div, kL_mod, kL_int, n1_add, not_false_eq_true, not_true_eq_false, and_true, true_and, and_false, false_and, or_true, true_or, or_false, false_or, Nat.reduceEqDiff, IN, IM, Nat.add_zero]
  | succ d ih =>
    intro fu z h1 h2 z1 z2 z3
    obtain ⟨g, rfl⟩ : ∃ g, fu = g + 1 := ⟨fu - 1, by omega⟩
    have r1 : z (1 + (k + d)) = m (1 + (k + d)) := z3 _ (by omega) (by omega)
    have r2 : z (9 + (k + d)) = m (9 + (k + d)) := z3 _ (by omega) (by omega)
    obtain ⟨z', e, q1, q2, q3⟩ := ih g (vp_updL (vp_updL z (1 + (k + d + 1)) (m (1 + (k + d)))) (9 + (k + d + 1)) (m (9 + (k + d)))) (by omega) (by omega) (fun j j1 j2 => by
        rw [up_ne (by omega)]
        by_cases e : j = 1 + (k + d + 1)
        · rw [e, up_at, show 1 + (k + d + 1) - 1 = 1 + (k + d) from by omega]
        · rw [up_ne e]; exact z1 j (by omega) j2) (fun j j1 j2 => by
        by_cases e : j = 9 + (k + d + 1)
        · rw [e, up_at, show 9 + (k + d + 1) - 1 = 9 + (k + d) from by omega]
        · rw [up_ne e, up_ne (by omega)]; exact z2 j (by omega) j2) (fun j j1 j2 => by
        rw [up_ne (by omega), up_ne (by omega)]
        exact z3 j (by omega) (by omega))
    refine ⟨z', ?_, q1, q2, q3⟩
    simp only [Rl_splitsPart_6]
    have e0 : k + (d + 1) = k + d + 1 := by omega
    have e1 : 1 + (k + d + 1) - 1 = 1 + (k + d) := by omega
    have e2 : 9 + (k + d + 1) - 1 = 9 + (k + d) := by omega
    have e3 : k + d + 1 - 1 = k + d := by omega
    rw [e0]
    simp (disch := omega) only [↓nm_eq, ↓bd_x, bdx_s, ↓bx_x, bxx_r, bxx_l, ↓bn_x, bnx_r, chk_t, ↓reduceIte, q32, q64, kI_lt_t, kI_lt_f, kI_le_t, kI_le_f, kI_eq_t, kI_eq_f, kL_lt_t, kL_lt_f, kL_le_t, kL_le_f, kL_eq_t, kL_eq_f, kI_m1, kI_m1', m1_m1, kI_n1, kI_n1', n1_add', eq_self, inb_t, kI_nat, kI_add, kI_mul, kI_sub, kI_div, kI_mod, kI_long, kL_add, kL_mul, kL_sub, kL_div, kL_mod, kL_int, n1_add, not_false_eq_true, not_true_eq_false, and_true, true_and, and_false, false_and, or_true, true_or, or_false, false_or, Nat.reduceEqDiff, IN, IM, e1, e2, e3, r1, r2, up_ne, e]
theorem ev_splitsPart (hs : s.OK) (hm : RS s m) {k a p : Nat} (hk : k < s.b.n) (hn : s.b.n < 8) (ha : a < s.b.ln k) (hp : p ≤ 1000) : ∃ m', Rf_splitsPart m (kI k) (kI a) (kI p) = some (m', kI (s.b.n + 1)) ∧ RS (s.wb (splB s.b k a p)) m' := by
  have hm0 := hm
  obtain ⟨m0, m1, m2, m3, m4, m5, m6, m7, m8, m9, m10⟩ := hm
  have hnp : s.b.np ≤ 4 := hs.1.2.2.2.2.2.2.1
  have hl := hs.1.2.1 k hk
  obtain ⟨z, e, q1, q2, q3⟩ := ev_splLoop hs hm0 hk hn (x5 := kI a) (x6 := kI p) (s.b.n - k) FUEL m (by have : FUEL = 4096 := rfl; omega) (by omega) (fun j _ _ => by omega) (fun j _ _ => by omega) (fun j _ _ => rfl)
  rw [show k + (s.b.n - k) = s.b.n from by omega] at e
  have z0 : z 0 = kL s.b.n := (q3 0 (by omega) (by omega)).trans m0
  have zk : z (1 + k + 1) = kL (s.b.ln k) := by rw [q1 _ (by omega) (by omega), Nat.add_sub_cancel, m1 k hk]
  refine ⟨vp_updL (vp_updL (vp_updL (vp_updL z 0 (kL (s.b.n + 1))) (1 + k + 1) (kL (s.b.ln k - a))) (1 + k) (kL a)) (9 + k) (kL p), ?_, RS_line hm0 hnp ?_ (fun j hj => ?_) (fun j hj => ?_) (fun j j1 j2 => ?_)⟩
  · have y0 : vp_updL z 0 (kL (s.b.n + 1)) (1 + k + 1) = kL (s.b.ln k) := by rw [up_ne (by omega), zk]
    have y1 : vp_updL (vp_updL (vp_updL (vp_updL z 0 (kL (s.b.n + 1))) (1 + k + 1) (kL (s.b.ln k - a))) (1 + k) (kL a)) (9 + k) (kL p) 0 = kL (s.b.n + 1) := by rw [up_ne (by omega), up_ne (by omega), up_ne (by omega), up_at]
    unfold Rf_splitsPart
    rw [ev_parts m0, bd_s, e, bd_s]
    simp (disch := omega) only [↓nm_eq, ↓bd_x, bdx_s, ↓bx_x, bxx_r, bxx_l, ↓bn_x, bnx_r, chk_t, ↓reduceIte, q32, q64, kI_lt_t, kI_lt_f, kI_le_t, kI_le_f, kI_eq_t, kI_eq_f, kL_lt_t, kL_lt_f, kL_le_t, kL_le_f, kL_eq_t, kL_eq_f, kI_m1, kI_m1', m1_m1, kI_n1, kI_n1', n1_add', eq_self, inb_t, kI_nat, kI_add, kI_mul, kI_sub, kI_div, kI_mod, kI_long, kL_add, kL_mul, kL_sub, kL_div, kL_mod, kL_int, n1_add, not_false_eq_true, not_true_eq_false, and_true, true_and, and_false, false_and, or_true, true_or, or_false, false_or, Nat.reduceEqDiff, IN, IM, z0, y0, ev_laysPart, ev_parts y1]
  · rw [up_ne (by omega), up_ne (by omega), up_ne (by omega), up_at]
  · by_cases c : j = k
    · rw [c, if_pos rfl, up_ne (by omega), up_at]
    · rw [if_neg c]
      by_cases c1 : j = k + 1
      · rw [c1, if_pos rfl, up_ne (by omega), up_ne (by omega), up_at' (by omega)]
      · rw [if_neg c1, up_ne (by omega), up_ne (by omega), up_ne (by omega), up_ne (by omega)]
        by_cases c2 : k < j ∧ j ≤ s.b.n
        · rw [if_pos c2, q1 _ (by omega) (by omega), show 1 + j - 1 = 1 + (j - 1) from by omega, m1 _ (by omega)]
        · rw [if_neg c2, q3 _ (by omega) (by omega), m1 _ (by omega)]
  · by_cases c : j = k
    · rw [c, if_pos rfl, up_at]
    · rw [if_neg c, up_ne (by omega), up_ne (by omega), up_ne (by omega), up_ne (by omega)]
      by_cases c2 : k < j ∧ j ≤ s.b.n
      · rw [if_pos c2, q2 _ (by omega) (by omega), show 9 + j - 1 = 9 + (j - 1) from by omega, m2 _ (by omega)]
      · rw [if_neg c2, q3 _ (by omega) (by omega), m2 _ (by omega)]
  · rw [up_ne (by omega), up_ne (by omega), up_ne (by omega), up_ne (by omega)]
    exact q3 j (by omega) (by omega)
theorem ev_addsPulse (hs : s.OK) (hm : RS s m) {t e : Nat} (hn : s.b.np < 4) (ht : t ≤ 100) (he : e ≤ 1000000) : ∃ m', Rf_addsPulse m (kI t) (kI e) = some (m', kI (s.b.np + 1)) ∧ RS (s.wb (apB s.b t e)) m' := by
  have hm0 := hm
  obtain ⟨m0, m1, m2, m3, m4, m5, m6, m7, m8, m9, m10⟩ := hm
  refine ⟨vp_updL (vp_updL (vp_updL m (21 + 2 * s.b.np) (kL t)) (21 + 2 * s.b.np + 1) (kL e)) 20 (kL (s.b.np + 1)), ?_, RS_pulse hm0 hs.1.1 up_at (fun j hj => ?_) (fun j hj => ?_) (fun j hj => ?_)⟩
  · unfold Rf_addsPulse
    simp (disch := omega) only [↓nm_eq, ↓bd_x, bdx_s, ↓bx_x, bxx_r, bxx_l, ↓bn_x, bnx_r, chk_t, ↓reduceIte, q32, q64, kI_lt_t, kI_lt_f, kI_le_t, kI_le_f, kI_eq_t, kI_eq_f, kL_lt_t, kL_lt_f, kL_le_t, kL_le_f, kL_eq_t, kL_eq_f, kI_m1, kI_m1', m1_m1, kI_n1, kI_n1', n1_add', eq_self, inb_t, kI_nat, kI_add, kI_mul, kI_sub, kI_div, kI_mod, kI_long, kL_add, kL_mul, kL_sub, kL_div, kL_mod, kL_int, n1_add, not_false_eq_true, not_true_eq_false, and_true, true_and, and_false, false_and, or_true, true_or, or_false, false_or, Nat.reduceEqDiff, IN, IM, m6, up_ne, up_at']
  · by_cases c : j = s.b.np
    · rw [c, upN_at, up_ne (by omega), up_ne (by omega), up_at]
    · rw [upN_ne c, up_ne (by omega), up_ne (by omega), up_ne (by omega), m7 _ (by omega)]
  · by_cases c : j = s.b.np
    · rw [c, upN_at, up_ne (by omega), up_at]
    · rw [upN_ne c, up_ne (by omega), up_ne (by omega), up_ne (by omega), m8 _ (by omega)]
  · rw [up_ne (by omega), up_ne (by omega), up_ne (by omega)]
theorem ev_pulLoop (hs : s.OK) (hm : RS s m) {k : Nat} (hk : k < s.b.np) (h2 : 2 ≤ s.b.np) : ∃ m', Rl_removePulse_74 FUEL (vp_updL m 20 (kL (s.b.np - 1))) (kI (21 + 2 * k)) = some m' ∧ m' 20 = kL (s.b.np - 1) ∧ RS (s.wb (cpB s.b k)) m' := by
  have hm0 := hm
  obtain ⟨m0, m1, m2, m3, m4, m5, m6, m7, m8, m9, m10⟩ := hm
  have hnp : s.b.np ≤ 4 := hs.1.2.2.2.2.2.2.1
  obtain ⟨a, e, q1, q2⟩ := loop_gen (L := fun fu (z : Nat → Int64) x => Rl_removePulse_74 fu z x) (fun i z => 21 + 2 * k ≤ i ∧ (∀ j, 21 + 2 * k ≤ j → j < i → z j = m (j + 2)) ∧ ∀ j, ¬ (21 + 2 * k ≤ j ∧ j < i) → z j = if j = 20 then kL (s.b.np - 1) else m j) (fun z => (∀ j, 21 + 2 * k ≤ j → j < 21 + 2 * (s.b.np - 1) → z j = m (j + 2)) ∧ ∀ j, ¬ (21 + 2 * k ≤ j ∧ j < 21 + 2 * (s.b.np - 1)) → z j = if j = 20 then kL (s.b.np - 1) else m j) (21 + 2 * (s.b.np - 1)) (fun fu i z hi hz => by
      obtain ⟨hki, h1, h3⟩ := hz
      have r0 : z 20 = kL (s.b.np - 1) := (h3 20 (by omega)).trans (if_pos rfl)
      have r1 : z (i + 2) = m (i + 2) := (h3 _ (by omega)).trans (if_neg (by omega))
      refine Or.inr ⟨vp_updL z i (m (i + 2)), ?_, by omega, fun j j1 j2 => ?_, fun j j1 => ?_⟩
      · simp only [Rl_removePulse_74]
        simp (disch := omega) only [↓nm_eq, ↓bd_x, bdx_s, ↓bx_x, bxx_r, bxx_l, ↓bn_x, bnx_r, chk_t, ↓reduceIte, q32, q64, kI_lt_t, kI_lt_f, kI_le_t, kI_le_f, kI_eq_t, kI_eq_f, kL_lt_t, kL_lt_f, kL_le_t, kL_le_f, kL_eq_t, kL_eq_f, kI_m1, kI_m1', m1_m1, kI_n1, kI_n1', n1_add', eq_self, inb_t, kI_nat, kI_add, kI_mul, kI_sub, kI_div, kI_mod, kI_long, kL_add, kL_mul, kL_sub, kL_div, kL_mod, kL_int, n1_add, not_false_eq_true, not_true_eq_false, and_true, true_and, and_false, false_and, or_true, true_or, or_false, false_or, Nat.reduceEqDiff, IN, IM, r0, r1]
      · by_cases e : j = i
        · rw [e, up_at]
        · rw [up_ne e]; exact h1 j j1 (by omega)
      · rw [up_ne (by omega)]; exact h3 j (by omega))
    (fun fu z hz => ⟨z, by
      obtain ⟨hki, h1, h3⟩ := hz
      have r0 : z 20 = kL (s.b.np - 1) := (h3 20 (by omega)).trans (if_pos rfl)
      simp only [Rl_removePulse_74]
      simp (disch := omega) only [↓nm_eq, ↓bd_x, bdx_s, ↓bx_x, bxx_r, bxx_l, ↓bn_x, bnx_r, chk_t, ↓reduceIte, q32, q64, kI_lt_t, kI_lt_f, kI_le_t, kI_le_f, kI_eq_t, kI_eq_f, kL_lt_t, kL_lt_f, kL_le_t, kL_le_f, kL_eq_t, kL_eq_f, kI_m1, kI_m1', m1_m1, kI_n1, kI_n1', n1_add', eq_self, inb_t, kI_nat, kI_add, kI_mul, kI_sub, kI_div, kI_mod, kI_long, kL_add, kL_mul, kL_sub, kL_div, kL_mod, kL_int, n1_add, not_false_eq_true, not_true_eq_false, and_true, true_and, and_false, false_and, or_true, true_or, or_false, false_or, Nat.reduceEqDiff, IN, IM, r0], hz.2⟩) FUEL (21 + 2 * k) (vp_updL m 20 (kL (s.b.np - 1))) (by have : FUEL = 4096 := rfl; omega) (by omega) ⟨Nat.le_refl _, fun j _ _ => by omega, fun j _ => by
        by_cases e : j = 20
        · rw [e, up_at, if_pos rfl]
        · rw [up_ne e, if_neg e]⟩
  have a0 : a 20 = kL (s.b.np - 1) := (q2 20 (by omega)).trans (if_pos rfl)
  refine ⟨a, e, a0, RS_pulse hm0 hs.1.1 a0 (fun j hj => ?_) (fun j hj => ?_) (fun j hj => (q2 j (by omega)).trans (if_neg (by omega)))⟩
  · by_cases c : k ≤ j ∧ j < s.b.np - 1
    · rw [if_pos c, q1 _ (by omega) (by omega), show 21 + 2 * j + 2 = 21 + 2 * (j + 1) from by omega, m7 _ (by omega)]
    · rw [if_neg c, q2 _ (by omega), if_neg (by omega), m7 _ (by omega)]
  · by_cases c : k ≤ j ∧ j < s.b.np - 1
    · rw [if_pos c, q1 _ (by omega) (by omega), show 21 + 2 * j + 1 + 2 = 21 + 2 * (j + 1) + 1 from by omega, m8 _ (by omega)]
    · rw [if_neg c, q2 _ (by omega), if_neg (by omega), m8 _ (by omega)]
theorem ev_exchange {a b : Nat} (ha : a < 431) (hb : b < 431) {z : Nat → Int64} : Rf_exchange z (kI a) (kI b) = some (vp_updL (vp_updL z a (z b)) b (z a)) := by
  unfold Rf_exchange
  simp (disch := omega) only [↓nm_eq, ↓bd_x, bdx_s, ↓bx_x, bxx_r, bxx_l, ↓bn_x, bnx_r, chk_t, ↓reduceIte, q32, q64, kI_lt_t, kI_lt_f, kI_le_t, kI_le_f, kI_eq_t, kI_eq_f, kL_lt_t, kL_lt_f, kL_le_t, kL_le_f, kL_eq_t, kL_eq_f, kI_m1, kI_m1', m1_m1, kI_n1, kI_n1', n1_add', eq_self, inb_t, kI_nat, kI_add, kI_mul, kI_sub, kI_div, kI_mod, kI_long, kL_add, kL_mul, kL_sub, kL_div, kL_mod, kL_int, n1_add, not_false_eq_true, not_true_eq_false, and_true, true_and, and_false, false_and, or_true, true_or, or_false, false_or, Nat.reduceEqDiff, IN, IM]
theorem ev_revLoop1 {N : Nat} (h1 : 1 ≤ N) (hN : N ≤ 8) {f : Nat → Int64} {z0 : Nat → Int64} (hz0 : ∀ j, j < N → z0 (1 + j) = f j) : ∀ fu i z, 2 * i ≤ N → N / 2 - i < fu → (∀ j, j < N → z (1 + j) = sw f N i j) → (∀ j, j < 1 ∨ 1 + N ≤ j → z j = z0 j) → ∃ z', Rl_reverse_16 (kI N) fu z (kI i) = some z' ∧ (∀ j, j < N → z' (1 + j) = sw f N (N / 2) j) ∧ ∀ j, j < 1 ∨ 1 + N ≤ j → z' j = z0 j := by
  intro fu
  induction fu with
  | zero => intro i z _ h; omega
  | succ fu ih =>
    intro i z h2 h3 z1 z2
    simp only [Rl_reverse_16]
    by_cases c : 2 * i + 1 < N
    · have r1 := z1 i (by omega)
      have r2 := z1 (N - 1 - i) (by omega)
      rw [sw_lo f c] at r1
      rw [sw_hi f c] at r2
      have e1 : 1 + N - 1 - i = 1 + (N - 1 - i) := by omega
      obtain ⟨z', e, q1, q2⟩ := ih (i + 1) (vp_updL (vp_updL z (1 + i) (f (N - 1 - i))) (1 + (N - 1 - i)) (f i)) (by omega) (by omega) (fun j hj => by
        rw [← sw_step f c (fun g i v j => if j = i then v else g j) (fun _ _ _ _ => rfl)]
        (try dsimp only)
        by_cases k1 : j = N - 1 - i
        · rw [if_pos k1, k1, up_at]
        · rw [if_neg k1, up_ne (by omega)]
          by_cases k2 : j = i
          · rw [if_pos k2, k2, up_at]
          · rw [if_neg k2, up_ne (by omega), z1 j hj]) (fun j hj => by rw [up_ne (by omega), up_ne (by omega)]; exact z2 j hj)
      refine ⟨z', ?_, q1, q2⟩
      simp (disch := omega) only [↓nm_eq, ↓bd_x, bdx_s, ↓bx_x, bxx_r, bxx_l, ↓bn_x, bnx_r, chk_t, ↓reduceIte, q32, q64, kI_lt_t, kI_lt_f, kI_le_t, kI_le_f, kI_eq_t, kI_eq_f, kL_lt_t, kL_lt_f, kL_le_t, kL_le_f, kL_eq_t, kL_eq_f, kI_m1, kI_m1', m1_m1, kI_n1, kI_n1', n1_add', eq_self, inb_t, kI_nat, kI_add, kI_mul, kI_sub, kI_div, kI_mod, kI_long, kL_add, kL_mul, kL_sub, kL_div, kL_mod, kL_int, n1_add, not_false_eq_true, not_true_eq_false, and_true, true_and, and_false, false_and, or_true, true_or, or_false, false_or, Nat.reduceEqDiff, IN, IM, e1, ev_exchange, r1, r2, e]
    · rw [show i = N / 2 from by omega] at z1
      exact ⟨z, by simp (disch := omega) only [↓nm_eq, ↓bd_x, bdx_s, ↓bx_x, bxx_r, bxx_l, ↓bn_x, bnx_r, chk_t, ↓reduceIte, q32, q64, kI_lt_t, kI_lt_f, kI_le_t, kI_le_f, kI_eq_t, kI_eq_f, kL_lt_t, kL_lt_f, kL_le_t, kL_le_f, kL_eq_t, kL_eq_f, kI_m1, kI_m1', m1_m1, kI_n1, kI_n1', n1_add', eq_self, inb_t, kI_nat, kI_add, kI_mul, kI_sub, kI_div, kI_mod, kI_long, kL_add, kL_mul, kL_sub, kL_div, kL_mod, kL_int, n1_add, not_false_eq_true, not_true_eq_false, and_true, true_and, and_false, false_and, or_true, true_or, or_false, false_or, Nat.reduceEqDiff, IN, IM], z1, z2⟩
theorem ev_revLoop2 {N : Nat} (h1 : 1 ≤ N) (hN : N + 1 ≤ 8) {f : Nat → Int64} {z0 : Nat → Int64} (hz0 : ∀ j, j < N → z0 (9 + j) = f j) : ∀ fu i z, 2 * i ≤ N → N / 2 - i < fu → (∀ j, j < N → z (9 + j) = sw f N i j) → (∀ j, j < 9 ∨ 9 + N ≤ j → z j = z0 j) → ∃ z', Rl_reverse_47 (kI (N + 1)) fu z (kI i) = some z' ∧ (∀ j, j < N → z' (9 + j) = sw f N (N / 2) j) ∧ ∀ j, j < 9 ∨ 9 + N ≤ j → z' j = z0 j := by
  intro fu
  induction fu with
  | zero => intro i z _ h; omega
  | succ fu ih =>
    intro i z h2 h3 z1 z2
    simp only [Rl_reverse_47]
    have d1 : N + 1 - 2 = N - 1 := by omega
    by_cases c : 2 * i + 1 < N
    · have r1 := z1 i (by omega)
      have r2 := z1 (N - 1 - i) (by omega)
      rw [sw_lo f c] at r1
      rw [sw_hi f c] at r2
      have e1 : 9 + (N + 1) - 2 - i = 9 + (N - 1 - i) := by omega
      obtain ⟨z', e, q1, q2⟩ := ih (i + 1) (vp_updL (vp_updL z (9 + i) (f (N - 1 - i))) (9 + (N - 1 - i)) (f i)) (by omega) (by omega) (fun j hj => by
        rw [← sw_step f c (fun g i v j => if j = i then v else g j) (fun _ _ _ _ => rfl)]
        (try dsimp only)
        by_cases k1 : j = N - 1 - i
        · rw [if_pos k1, k1, up_at]
        · rw [if_neg k1, up_ne (by omega)]
          by_cases k2 : j = i
          · rw [if_pos k2, k2, up_at]
          · rw [if_neg k2, up_ne (by omega), z1 j hj]) (fun j hj => by rw [up_ne (by omega), up_ne (by omega)]; exact z2 j hj)
      refine ⟨z', ?_, q1, q2⟩
      simp (disch := omega) only [↓nm_eq, ↓bd_x, bdx_s, ↓bx_x, bxx_r, bxx_l, ↓bn_x, bnx_r, chk_t, ↓reduceIte, q32, q64, kI_lt_t, kI_lt_f, kI_le_t, kI_le_f, kI_eq_t, kI_eq_f, kL_lt_t, kL_lt_f, kL_le_t, kL_le_f, kL_eq_t, kL_eq_f, kI_m1, kI_m1', m1_m1, kI_n1, kI_n1', n1_add', eq_self, inb_t, kI_nat, kI_add, kI_mul, kI_sub, kI_div, kI_mod, kI_long, kL_add, kL_mul, kL_sub, kL_div, kL_mod, kL_int, n1_add, not_false_eq_true, not_true_eq_false, and_true, true_and, and_false, false_and, or_true, true_or, or_false, false_or, Nat.reduceEqDiff, IN, IM, e1, ev_exchange, r1, r2, e]
    · rw [show i = N / 2 from by omega] at z1
      exact ⟨z, by simp (disch := omega) only [↓nm_eq, ↓bd_x, bdx_s, ↓bx_x, bxx_r, bxx_l, ↓bn_x, bnx_r, chk_t, ↓reduceIte, q32, q64, kI_lt_t, kI_lt_f, kI_le_t, kI_le_f, kI_eq_t, kI_eq_f, kL_lt_t, kL_lt_f, kL_le_t, kL_le_f, kL_eq_t, kL_eq_f, kI_m1, kI_m1', m1_m1, kI_n1, kI_n1', n1_add', eq_self, inb_t, kI_nat, kI_add, kI_mul, kI_sub, kI_div, kI_mod, kI_long, kL_add, kL_mul, kL_sub, kL_div, kL_mod, kL_int, n1_add, not_false_eq_true, not_true_eq_false, and_true, true_and, and_false, false_and, or_true, true_or, or_false, false_or, Nat.reduceEqDiff, IN, IM], z1, z2⟩
theorem ev_sumOfLengths {b : Bn} (hb : b.n ≤ 8) {z : Nat → Int64} (h0 : z 0 = kL b.n) (h1 : ∀ k, k < b.n → z (1 + k) = kL (b.ln k)) : Rf_sumOfLengths z = some (kI (sm b.ln b.n)) := by
  obtain ⟨a, e, q⟩ := loop_gen (L := fun fu (s : Int32) x => Rl_sumOfLengths_4 z fu s x) (fun i s => s = kI (sm b.ln i)) (fun s => s = kI (sm b.ln b.n)) b.n (fun fu i s hi hs => by
      refine Or.inr ⟨_, ?_, rfl⟩
      subst hs
      simp only [Rl_sumOfLengths_4]
      simp (disch := omega) only [↓nm_eq, ↓bd_x, bdx_s, ↓bx_x, bxx_r, bxx_l, ↓bn_x, bnx_r, chk_t, ↓reduceIte, q32, q64, kI_lt_t, kI_lt_f, kI_le_t, kI_le_f, kI_eq_t, kI_eq_f, kL_lt_t, kL_lt_f, kL_le_t, kL_le_f, kL_eq_t, kL_eq_f, kI_m1, kI_m1', m1_m1, kI_n1, kI_n1', n1_add', eq_self, inb_t, kI_nat, kI_add, kI_mul, kI_sub, kI_div, kI_mod, kI_long, kL_add, kL_mul, kL_sub, kL_div, kL_mod, kL_int, n1_add, not_false_eq_true, not_true_eq_false, and_true, true_and, and_false, false_and, or_true, true_or, or_false, false_or, Nat.reduceEqDiff, IN, IM, ev_parts h0, h1]
      rfl)
    (fun fu s hs => ⟨s, by simp only [Rl_sumOfLengths_4]; simp (disch := omega) only [↓nm_eq, ↓bd_x, bdx_s, ↓bx_x, bxx_r, bxx_l, ↓bn_x, bnx_r, chk_t, ↓reduceIte, q32, q64, kI_lt_t, kI_lt_f, kI_le_t, kI_le_f, kI_eq_t, kI_eq_f, kL_lt_t, kL_lt_f, kL_le_t, kL_le_f, kL_eq_t, kL_eq_f, kI_m1, kI_m1', m1_m1, kI_n1, kI_n1', n1_add', eq_self, inb_t, kI_nat, kI_add, kI_mul, kI_sub, kI_div, kI_mod, kI_long, kL_add, kL_mul, kL_sub, kL_div, kL_mod, kL_int, n1_add, not_false_eq_true, not_true_eq_false, and_true, true_and, and_false, false_and, or_true, true_or, or_false, false_or, Nat.reduceEqDiff, IN, IM, ev_parts h0], hs⟩) FUEL 0 (kI 0) (by have : FUEL = 4096 := rfl; omega) (by omega) rfl
  subst q
  unfold Rf_sumOfLengths
  rw [q32_0, bd_e e]
theorem ev_revM (hs : s.OK) (hm : RS s m) : ∃ z1 z2, Rl_reverse_16 (kI s.b.n) FUEL m (kI 0) = some z1 ∧ Rl_reverse_47 (kI s.b.n) FUEL z1 (kI 0) = some z2 ∧ RS (s.wb (revB s.b)) z2 := by
  have hm0 := hm
  obtain ⟨m0, m1, m2, m3, m4, m5, m6, m7, m8, m9, m10⟩ := hm
  have hnp : s.b.np ≤ 4 := hs.1.2.2.2.2.2.2.1
  have hn := hs.1.1
  have hF : FUEL = 4095 + 1 := rfl
  have hF' : FUEL = 4096 := rfl
  by_cases c0 : s.b.n = 0
  · refine ⟨m, m, ?_, ?_, RS_line hm0 hnp m0 (fun k hk => by omega) (fun k hk => by omega) (fun j _ _ => rfl)⟩
    · rw [c0, hF]
      rfl
    · rw [c0, hF]
      rfl
  · obtain ⟨z1, e1, q1, q2⟩ := ev_revLoop1 (N := s.b.n) (by omega) hn (f := fun j => m (1 + j)) (z0 := m) (fun j _ => rfl) FUEL 0 m (by omega) (by omega) (fun j _ => by rw [sw_0]) (fun j _ => rfl)
    have l1 : ∀ k, k < s.b.n → z1 (1 + k) = kL ((revB s.b).ln k) := fun k hk => by
      rw [q1 k hk, sw_end _ hk]
      show m (1 + (s.b.n - 1 - k)) = kL (if k < s.b.n then s.b.ln (s.b.n - 1 - k) else s.b.ln k)
      rw [if_pos hk, m1 _ (by omega)]
    by_cases c1 : s.b.n = 1
    · refine ⟨z1, z1, e1, ?_, RS_line hm0 hnp ((q2 0 (by omega)).trans m0) l1 (fun k hk => ?_) (fun j _ _ => q2 j (by omega))⟩
      · rw [c1, hF]
        rfl
      · rw [if_neg (by omega), q2 _ (by omega), m2 k hk]
    · obtain ⟨z2, e2, p1, p2⟩ := ev_revLoop2 (N := s.b.n - 1) (by omega) (by omega) (f := fun j => z1 (9 + j)) (z0 := z1) (fun j _ => rfl) FUEL 0 z1 (by omega) (by omega) (fun j _ => by rw [sw_0]) (fun j _ => rfl)
      rw [show s.b.n - 1 + 1 = s.b.n from by omega] at e2
      refine ⟨z1, z2, e1, e2, RS_line hm0 hnp ?_ (fun k hk => ?_) (fun k hk => ?_) (fun j _ _ => ?_)⟩
      · rw [p2 0 (by omega), q2 0 (by omega), m0]
      · rw [p2 _ (by omega)]; exact l1 k hk
      · by_cases c : k + 1 < s.b.n
        · rw [if_pos c, p1 k (by omega), sw_end _ (by omega)]
          rw [q2 _ (by omega), m2 _ (by omega), show s.b.n - 1 - 1 - k = s.b.n - 2 - k from by omega]
        · rw [if_neg c, p2 _ (by omega), q2 _ (by omega), m2 k hk]
      · rw [p2 _ (by omega), q2 _ (by omega)]
end EDR
