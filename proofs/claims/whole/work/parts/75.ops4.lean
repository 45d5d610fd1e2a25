theorem rrI {x : Int32} {a b : Nat} (ha : a < 1000000000) (hb : b < 1000000000) : Cf_L_requireRange x.toInt64 (kL a) (kL b) = some (if IN x a b then .inr () else .inl 1) := by
  unfold Cf_L_requireRange
  rw [wI ha hb, bd_s]
  by_cases c : IN x a b
  · rw [if_pos c, if_pos c]; rfl
  · rw [if_neg c, if_neg c]; rfl
theorem rnI {x : Int32} {n : Nat} (hn : n < 1000000000) : Cf_L_requireNumber x (kI n) = some (if IM x 0 n then .inr () else .inl 0) := by
  unfold Cf_L_requireNumber Cf_L_requireNumber_9
  have l1 : (x < (0 : Int32)) = (x.toInt < 0) := propext (by rw [Int32.lt_iff_toInt_lt]; exact Iff.rfl)
  have l2 : (x < kI n) = (x.toInt < (n : Int)) := propext (by rw [Int32.lt_iff_toInt_lt, kI_toInt (by omega)])
  by_cases c1 : x.toInt < 0
  · rw [if_pos (by rw [l1]; exact c1), if_neg (show ¬ IM x 0 n from fun q => by have := (IM_iff.mp q).1; omega)]
  · rw [if_neg (by rw [l1]; exact c1)]
    by_cases c2 : x.toInt < (n : Int)
    · rw [if_pos (by rw [l2]; exact c2), if_pos (show IM x 0 n from IM_iff.mpr ⟨by omega, c2⟩)]
    · rw [if_neg (by rw [l2]; exact c2), if_neg (show ¬ IM x 0 n from fun q => c2 (IM_iff.mp q).2)]
theorem ev_reachN {ln : Nat → Nat} {ℓ : Nat → Int32} {k N : Nat} (hk : k ≤ N) (hN : N ≤ 8) (hℓ : ∀ i, i < N → ℓ i = kI (ln i)) : Cf_B_reach_n ℓ (kI k) = some (kI (sm ln k)) := by
  obtain ⟨a, e, q⟩ := loop_gen (L := fun fu (s : Int32) x => Cl_B_reach_n_4 ℓ (kI k) fu s x) (fun i s => s = kI (sm ln i)) (fun s => s = kI (sm ln k)) k (fun fu i s hi hs => by
      refine Or.inr ⟨_, ?_, rfl⟩
      subst hs
      simp only [Cl_B_reach_n_4]
      simp (disch := omega) only [↓nm_eq, ↓bd_x, bdx_s, ↓bx_x, bxx_r, bxx_l, ↓bn_x, bnx_r, chk_t, ↓reduceIte, q32, q64, kI_lt_t, kI_lt_f, kI_le_t, kI_le_f, kI_eq_t, kI_eq_f, kL_lt_t, kL_lt_f, kL_le_t, kL_le_f, kL_eq_t, kL_eq_f, kI_m1, kI_m1', m1_m1, kI_n1, kI_n1', n1_add', eq_self, inb_t, kI_nat, kI_add, kI_mul, kI_sub, kI_div, kI_mod, kI_long, kL_add, kL_mul, kL_sub, kL_div, kL_mod, kL_int, n1_add, not_false_eq_true, not_true_eq_false, and_true, true_and, and_false, false_and, or_true, true_or, or_false, false_or, Nat.reduceEqDiff, IN, IM, hℓ]
      rfl)
    (fun fu s hs => ⟨s, by simp only [Cl_B_reach_n_4]; simp (disch := omega) only [↓nm_eq, ↓bd_x, bdx_s, ↓bx_x, bxx_r, bxx_l, ↓bn_x, bnx_r, chk_t, ↓reduceIte, q32, q64, kI_lt_t, kI_lt_f, kI_le_t, kI_le_f, kI_eq_t, kI_eq_f, kL_lt_t, kL_lt_f, kL_le_t, kL_le_f, kL_eq_t, kL_eq_f, kI_m1, kI_m1', m1_m1, kI_n1, kI_n1', n1_add', eq_self, inb_t, kI_nat, kI_add, kI_mul, kI_sub, kI_div, kI_mod, kI_long, kL_add, kL_mul, kL_sub, kL_div, kL_mod, kL_int, n1_add, not_false_eq_true, not_true_eq_false, and_true, true_and, and_false, false_and, or_true, true_or, or_false, false_or, Nat.reduceEqDiff, IN, IM], hs⟩) FUEL 0 (kI 0) (by have : FUEL = 4096 := rfl; omega) (by omega) rfl
  subst q
  unfold Cf_B_reach_n Cf_B_reach_n_30
  rw [q32_0, bd_e e]
section OPS4
variable {σ : SS} {c : CK} {d : RK} {x1 x2 x3 : Int32} {y : Int64}
theorem OP_reverse (hC : CR σ c) (hD : DL σ d) : ∃ (r : Int32) (ℓ φ : Nat → Int32) (hp' : Nat → Nat) (g0 g1 g2 : SC) (m' sv' : Nat → Int64), Cf_L_reverse c.waveIsFresh c.peelingIsFresh c.n.count c.n.front c.n.least c.n.window c.n.pulses c.n.lengths c.n.fractions c.n.pulseTimes c.n.pulseEnergies c.n.sound c.n.seen c.hcount c.hp c.h0.count c.h0.front c.h0.least c.h0.window c.h0.pulses c.h0.lengths c.h0.fractions c.h0.pulseTimes c.h0.pulseEnergies c.h0.sound c.h0.seen c.h1.count c.h1.front c.h1.least c.h1.window c.h1.pulses c.h1.lengths c.h1.fractions c.h1.pulseTimes c.h1.pulseEnergies c.h1.sound c.h1.seen c.h2.count c.h2.front c.h2.least c.h2.window c.h2.pulses c.h2.lengths c.h2.fractions c.h2.pulseTimes c.h2.pulseEnergies c.h2.sound c.h2.seen = some (kI 0, kI 0, ℓ, φ, kI (pk σ.k), hp', g0.count, g0.front, g0.least, g0.window, g0.pulses, g0.lengths, g0.fractions, g0.pulseTimes, g0.pulseEnergies, g0.sound, g0.seen, g1.count, g1.front, g1.least, g1.window, g1.pulses, g1.lengths, g1.fractions, g1.pulseTimes, g1.pulseEnergies, g1.sound, g1.seen, g2.count, g2.front, g2.least, g2.window, g2.pulses, g2.lengths, g2.fractions, g2.pulseTimes, g2.pulseEnergies, g2.sound, g2.seen, r) ∧ Rf_reverse d.m d.saved d.savedCount d.code = some (m', sv', kI (pk σ.k), kI 0, r) ∧ CR (σ.ch (σ.s.wb (revB σ.s.b))) (CK.mk (kI 0) (kI 0) (SC.mk c.n.count c.n.front c.n.least c.n.window c.n.pulses ℓ φ c.n.pulseTimes c.n.pulseEnergies c.n.sound c.n.seen) (kI (pk σ.k)) hp' g0 g1 g2 c.s_length c.s_command c.s_position c.s_fault c.s_bytes c.s_numbers c.w_near c.w_far c.w_echoes c.w_totals c.p_result c.p_endTime c.q c.t_near c.t_far c.t_echoes c.t_totals) ∧ DL (σ.ch (σ.s.wb (revB σ.s.b))) (RK.mk m' sv' (kI (pk σ.k)) d.script d.scriptLength (kI 0) d.lineParts d.lengths d.fractions d.pulseMany d.times d.energies d.far d.near d.echoes d.left d.dropped d.merged d.drops d.contributions d.packet d.peelResult d.peelTime d.peelSum d.at_ d.commands d.draft d.hash) := by
  obtain ⟨hp', g0, g1, g2, e2, q3⟩ := op_keep hC
  obtain ⟨sv', e4, q4⟩ := op_keepR hC.1 hD
  have hC0 := hC
  obtain ⟨hO, hn, hh, hsc, hw, hp⟩ := hC
  obtain ⟨⟨n1, n2, n3, n4, n5, n6, n7, n8, n9⟩, n10, n11⟩ := hn
  have hb := hO.1.1
  have hb' := revB_OK hb
  obtain ⟨ℓ, φ, e1, q1, q2⟩ := ev_turnRound (ℓ := c.n.lengths) (φ := c.n.fractions) hb.1
  obtain ⟨z1, z2, e5, e6, q5⟩ := ev_revM hO.1 hD.1
  have l1 : ∀ k, k < σ.s.b.n → ℓ k = kI ((revB σ.s.b).ln k) := fun k hk => by
    rw [q1 k hk, n6 _ (by omega)]
    show _ = kI (if k < σ.s.b.n then σ.s.b.ln (σ.s.b.n - 1 - k) else σ.s.b.ln k)
    rw [if_pos hk]
  have hx : SC.R (SC.mk c.n.count c.n.front c.n.least c.n.window c.n.pulses ℓ φ c.n.pulseTimes c.n.pulseEnergies c.n.sound c.n.seen) (σ.s.wb (revB σ.s.b)) := ⟨⟨n1, n2, n3, n4, n5, l1, fun k hk => by
    have hk' : k < σ.s.b.n := hk
    show φ k = kI (if k + 1 < σ.s.b.n then σ.s.b.fr (σ.s.b.n - 2 - k) else σ.s.b.fr k)
    rw [q2 k hk']
    by_cases w : k + 1 < σ.s.b.n
    · rw [if_pos w, if_pos w]; exact n7 _ (by omega)
    · rw [if_neg w, if_neg w]; exact n7 _ (by omega), n8, n9⟩, n10, n11⟩
  have hs' : (σ.s.wb (revB σ.s.b)).OK := ⟨hb', hO.1.2⟩
  refine ⟨kI (sm (revB σ.s.b).ln σ.s.b.n), ℓ, φ, hp', g0, g1, g2, z2, sv', ?_, ?_, CR_ch hC0 hs' hx q3, DL_ch hD q5 q4 (kI 0)⟩
  · unfold Cf_L_reverse Cf_L_forgetResults
    rw [e2, bd_s]
    (try dsimp only)
    rw [n1] at *
    simp (disch := omega) only [↓nm_eq, ↓bd_x, bdx_s, ↓bx_x, bxx_r, bxx_l, ↓bn_x, bnx_r, chk_t, ↓reduceIte, q32, q64, kI_lt_t, kI_lt_f, kI_le_t, kI_le_f, kI_eq_t, kI_eq_f, kL_lt_t, kL_lt_f, kL_le_t, kL_le_f, kL_eq_t, kL_eq_f, kI_m1, kI_m1', m1_m1, kI_n1, kI_n1', n1_add', eq_self, inb_t, kI_nat, kI_add, kI_mul, kI_sub, kI_div, kI_mod, kI_long, kL_add, kL_mul, kL_sub, kL_div, kL_mod, kL_int, n1_add, not_false_eq_true, not_true_eq_false, and_true, true_and, and_false, false_and, or_true, true_or, or_false, false_or, Nat.reduceEqDiff, IN, IM, e1, ev_reachN (Nat.le_refl _) hb.1 l1]
  · unfold Rf_reverse
    have es := ev_sumOfLengths (b := revB σ.s.b) hb.1 q5.1 q5.2.1
    have es' : Rf_sumOfLengths z2 = some (kI (sm (revB σ.s.b).ln σ.s.b.n)) := es
    simp (disch := omega) only [↓nm_eq, ↓bd_x, bdx_s, ↓bx_x, bxx_r, bxx_l, ↓bn_x, bnx_r, chk_t, ↓reduceIte, q32, q64, kI_lt_t, kI_lt_f, kI_le_t, kI_le_f, kI_eq_t, kI_eq_f, kL_lt_t, kL_lt_f, kL_le_t, kL_le_f, kL_eq_t, kL_eq_f, kI_m1, kI_m1', m1_m1, kI_n1, kI_n1', n1_add', eq_self, inb_t, kI_nat, kI_add, kI_mul, kI_sub, kI_div, kI_mod, kI_long, kL_add, kL_mul, kL_sub, kL_div, kL_mod, kL_int, n1_add, not_false_eq_true, not_true_eq_false, and_true, true_and, and_false, false_and, or_true, true_or, or_false, false_or, Nat.reduceEqDiff, IN, IM, e4, ev_parts hD.1.1, e5, e6, es']
def SB (x1 x2 x3 : Int32) : Prop := IN x1 0 999 ∧ IN x2 0 1000 ∧ IN x3 1 200
def sbB (b : Bn) (x1 x2 x3 : Int32) : Bn := (Bn.mk b.n b.ln b.fr x1.toNatClampNeg x2.toNatClampNeg x3.toNatClampNeg b.np b.pt b.pe)
theorem OP_setBench_x (hD : DL σ d) (h : ¬ SB x1 x2 x3) : Cf_L_setBench c.waveIsFresh c.peelingIsFresh c.n.count c.n.front c.n.least c.n.window c.n.pulses c.n.lengths c.n.fractions c.n.pulseTimes c.n.pulseEnergies c.n.sound c.n.seen c.hcount c.hp c.h0.count c.h0.front c.h0.least c.h0.window c.h0.pulses c.h0.lengths c.h0.fractions c.h0.pulseTimes c.h0.pulseEnergies c.h0.sound c.h0.seen c.h1.count c.h1.front c.h1.least c.h1.window c.h1.pulses c.h1.lengths c.h1.fractions c.h1.pulseTimes c.h1.pulseEnergies c.h1.sound c.h1.seen c.h2.count c.h2.front c.h2.least c.h2.window c.h2.pulses c.h2.lengths c.h2.fractions c.h2.pulseTimes c.h2.pulseEnergies c.h2.sound c.h2.seen x1 x2 x3 = some (.inl 1) ∧ Rf_setBench d.m d.saved d.savedCount d.code x1 x2 x3 = some (d.m, d.saved, d.savedCount, kI 1, kI 0) := by
  unfold SB at h
  unfold Cf_L_setBench Rf_setBench Rf_setBench_41 Rf_setBench_42
  by_cases c1 : IN x1 0 999
  · by_cases c2 : IN x2 0 1000
    · have c3 : ¬ IN x3 1 200 := fun q => h ⟨c1, c2, q⟩
      exact ⟨by simp (disch := omega) only [↓nm_eq, ↓bd_x, bdx_s, ↓bx_x, bxx_r, bxx_l, ↓bn_x, bnx_r, chk_t, ↓reduceIte, q32, q64, kI_lt_t, kI_lt_f, kI_le_t, kI_le_f, kI_eq_t, kI_eq_f, kL_lt_t, kL_lt_f, kL_le_t, kL_le_f, kL_eq_t, kL_eq_f, kI_m1, kI_m1', m1_m1, kI_n1, kI_n1', n1_add', eq_self, inb_t, kI_nat, kI_add, kI_mul, kI_sub, kI_div, kI_mod, kI_long, kL_add, kL_mul, kL_sub, kL_div, kL_mod, kL_int, n1_add, not_false_eq_true, not_true_eq_false, and_true, true_and, and_false, false_and, or_true, true_or, or_false, false_or, Nat.reduceEqDiff, IN, IM, rrI, c1, c2, c3], by simp (disch := omega) only [↓nm_eq, ↓bd_x, bdx_s, ↓bx_x, bxx_r, bxx_l, ↓bn_x, bnx_r, chk_t, ↓reduceIte, q32, q64, kI_lt_t, kI_lt_f, kI_le_t, kI_le_f, kI_eq_t, kI_eq_f, kL_lt_t, kL_lt_f, kL_le_t, kL_le_f, kL_eq_t, kL_eq_f, kI_m1, kI_m1', m1_m1, kI_n1, kI_n1', n1_add', eq_self, inb_t, kI_nat, kI_add, kI_mul, kI_sub, kI_div, kI_mod, kI_long, kL_add, kL_mul, kL_sub, kL_div, kL_mod, kL_int, n1_add, not_false_eq_true, not_true_eq_false, and_true, true_and, and_false, false_and, or_true, true_or, or_false, false_or, Nat.reduceEqDiff, IN, IM, iI, c1, c2, c3]⟩
    · exact ⟨by simp (disch := omega) only [↓nm_eq, ↓bd_x, bdx_s, ↓bx_x, bxx_r, bxx_l, ↓bn_x, bnx_r, chk_t, ↓reduceIte, q32, q64, kI_lt_t, kI_lt_f, kI_le_t, kI_le_f, kI_eq_t, kI_eq_f, kL_lt_t, kL_lt_f, kL_le_t, kL_le_f, kL_eq_t, kL_eq_f, kI_m1, kI_m1', m1_m1, kI_n1, kI_n1', n1_add', eq_self, inb_t, kI_nat, kI_add, kI_mul, kI_sub, kI_div, kI_mod, kI_long, kL_add, kL_mul, kL_sub, kL_div, kL_mod, kL_int, n1_add, not_false_eq_true, not_true_eq_false, and_true, true_and, and_false, false_and, or_true, true_or, or_false, false_or, Nat.reduceEqDiff, IN, IM, rrI, c1, c2], by simp (disch := omega) only [↓nm_eq, ↓bd_x, bdx_s, ↓bx_x, bxx_r, bxx_l, ↓bn_x, bnx_r, chk_t, ↓reduceIte, q32, q64, kI_lt_t, kI_lt_f, kI_le_t, kI_le_f, kI_eq_t, kI_eq_f, kL_lt_t, kL_lt_f, kL_le_t, kL_le_f, kL_eq_t, kL_eq_f, kI_m1, kI_m1', m1_m1, kI_n1, kI_n1', n1_add', eq_self, inb_t, kI_nat, kI_add, kI_mul, kI_sub, kI_div, kI_mod, kI_long, kL_add, kL_mul, kL_sub, kL_div, kL_mod, kL_int, n1_add, not_false_eq_true, not_true_eq_false, and_true, true_and, and_false, false_and, or_true, true_or, or_false, false_or, Nat.reduceEqDiff, IN, IM, iI, c1, c2]⟩
  · exact ⟨by simp (disch := omega) only [↓nm_eq, ↓bd_x, bdx_s, ↓bx_x, bxx_r, bxx_l, ↓bn_x, bnx_r, chk_t, ↓reduceIte, q32, q64, kI_lt_t, kI_lt_f, kI_le_t, kI_le_f, kI_eq_t, kI_eq_f, kL_lt_t, kL_lt_f, kL_le_t, kL_le_f, kL_eq_t, kL_eq_f, kI_m1, kI_m1', m1_m1, kI_n1, kI_n1', n1_add', eq_self, inb_t, kI_nat, kI_add, kI_mul, kI_sub, kI_div, kI_mod, kI_long, kL_add, kL_mul, kL_sub, kL_div, kL_mod, kL_int, n1_add, not_false_eq_true, not_true_eq_false, and_true, true_and, and_false, false_and, or_true, true_or, or_false, false_or, Nat.reduceEqDiff, IN, IM, rrI, c1], by simp (disch := omega) only [↓nm_eq, ↓bd_x, bdx_s, ↓bx_x, bxx_r, bxx_l, ↓bn_x, bnx_r, chk_t, ↓reduceIte, q32, q64, kI_lt_t, kI_lt_f, kI_le_t, kI_le_f, kI_eq_t, kI_eq_f, kL_lt_t, kL_lt_f, kL_le_t, kL_le_f, kL_eq_t, kL_eq_f, kI_m1, kI_m1', m1_m1, kI_n1, kI_n1', n1_add', eq_self, inb_t, kI_nat, kI_add, kI_mul, kI_sub, kI_div, kI_mod, kI_long, kL_add, kL_mul, kL_sub, kL_div, kL_mod, kL_int, n1_add, not_false_eq_true, not_true_eq_false, and_true, true_and, and_false, false_and, or_true, true_or, or_false, false_or, Nat.reduceEqDiff, IN, IM, iI, c1]⟩
theorem OP_setBench (hC : CR σ c) (hD : DL σ d) (h : SB x1 x2 x3) : ∃ (r : Int32) (hp' : Nat → Nat) (g0 g1 g2 : SC) (m' sv' : Nat → Int64), Cf_L_setBench c.waveIsFresh c.peelingIsFresh c.n.count c.n.front c.n.least c.n.window c.n.pulses c.n.lengths c.n.fractions c.n.pulseTimes c.n.pulseEnergies c.n.sound c.n.seen c.hcount c.hp c.h0.count c.h0.front c.h0.least c.h0.window c.h0.pulses c.h0.lengths c.h0.fractions c.h0.pulseTimes c.h0.pulseEnergies c.h0.sound c.h0.seen c.h1.count c.h1.front c.h1.least c.h1.window c.h1.pulses c.h1.lengths c.h1.fractions c.h1.pulseTimes c.h1.pulseEnergies c.h1.sound c.h1.seen c.h2.count c.h2.front c.h2.least c.h2.window c.h2.pulses c.h2.lengths c.h2.fractions c.h2.pulseTimes c.h2.pulseEnergies c.h2.sound c.h2.seen x1 x2 x3 = some (.inr (kI 0, kI 0, x1, x2, x3, kI (pk σ.k), hp', g0.count, g0.front, g0.least, g0.window, g0.pulses, g0.lengths, g0.fractions, g0.pulseTimes, g0.pulseEnergies, g0.sound, g0.seen, g1.count, g1.front, g1.least, g1.window, g1.pulses, g1.lengths, g1.fractions, g1.pulseTimes, g1.pulseEnergies, g1.sound, g1.seen, g2.count, g2.front, g2.least, g2.window, g2.pulses, g2.lengths, g2.fractions, g2.pulseTimes, g2.pulseEnergies, g2.sound, g2.seen, r)) ∧ Rf_setBench d.m d.saved d.savedCount d.code x1 x2 x3 = some (m', sv', kI (pk σ.k), kI 0, r) ∧ CR (σ.ch (σ.s.wb (sbB σ.s.b x1 x2 x3))) (CK.mk (kI 0) (kI 0) (SC.mk c.n.count x1 x2 x3 c.n.pulses c.n.lengths c.n.fractions c.n.pulseTimes c.n.pulseEnergies c.n.sound c.n.seen) (kI (pk σ.k)) hp' g0 g1 g2 c.s_length c.s_command c.s_position c.s_fault c.s_bytes c.s_numbers c.w_near c.w_far c.w_echoes c.w_totals c.p_result c.p_endTime c.q c.t_near c.t_far c.t_echoes c.t_totals) ∧ DL (σ.ch (σ.s.wb (sbB σ.s.b x1 x2 x3))) (RK.mk m' sv' (kI (pk σ.k)) d.script d.scriptLength (kI 0) d.lineParts d.lengths d.fractions d.pulseMany d.times d.energies d.far d.near d.echoes d.left d.dropped d.merged d.drops d.contributions d.packet d.peelResult d.peelTime d.peelSum d.at_ d.commands d.draft d.hash) := by
  obtain ⟨hp', g0, g1, g2, e2, q3⟩ := op_keep hC
  obtain ⟨sv', e4, q4⟩ := op_keepR hC.1 hD
  have hC0 := hC
  obtain ⟨hO, hn, hh, hsc, hw, hp⟩ := hC
  obtain ⟨⟨n1, n2, n3, n4, n5, n6, n7, n8, n9⟩, n10, n11⟩ := hn
  obtain ⟨m0, m1, m2, m3, m4, m5, m6, m7, m8, m9, m10⟩ := hD.1
  obtain ⟨a1, a2, a3, a4, a5, a6, a7, a8⟩ := hO.1.1
  obtain ⟨c1, c2, c3⟩ := h
  obtain ⟨a, u1, u2, u3, u4⟩ := IN_nat c1
  obtain ⟨b, v1, v2, v3, v4⟩ := IN_nat c2
  obtain ⟨w, w1, w2, w3, w4⟩ := IN_nat c3
  have hb' : (sbB σ.s.b x1 x2 x3).OK := by
    unfold sbB
    rw [u2, v2, w2, kI_nat u1, kI_nat v1, kI_nat w1]
    exact ⟨a1, a2, u4, v4, ⟨w3, w4⟩, a6, a7, a8⟩
  have hx : SC.R (SC.mk c.n.count x1 x2 x3 c.n.pulses c.n.lengths c.n.fractions c.n.pulseTimes c.n.pulseEnergies c.n.sound c.n.seen) (σ.s.wb (sbB σ.s.b x1 x2 x3)) := by
    refine ⟨⟨n1, ?_, ?_, ?_, n5, n6, n7, n8, n9⟩, n10, n11⟩
    · show x1 = kI x1.toNatClampNeg
      rw [u2, kI_nat u1]
    · show x2 = kI x2.toNatClampNeg
      rw [v2, kI_nat v1]
    · show x3 = kI x3.toNatClampNeg
      rw [w2, kI_nat w1]
  have hm' : RS (σ.s.wb (sbB σ.s.b x1 x2 x3)) (vp_updL (vp_updL (vp_updL d.m 17 x1.toInt64) 18 x2.toInt64) 19 x3.toInt64) := by
    refine ⟨?_, fun k hk => ?_, fun k hk => ?_, ?_, ?_, ?_, ?_, fun i hi => ?_, fun i hi => ?_, fun t ht => ?_, fun t ht => ?_⟩
    · rw [up_ne (by omega), up_ne (by omega), up_ne (by omega)]; exact m0
    · have hk' : k < σ.s.b.n := hk
      rw [up_ne (by omega), up_ne (by omega), up_ne (by omega)]; exact m1 k hk
    · have hk' : k < σ.s.b.n := hk
      rw [up_ne (by omega), up_ne (by omega), up_ne (by omega)]; exact m2 k hk
    · rw [up_ne (by omega), up_ne (by omega), up_at]
      show x1.toInt64 = kL x1.toNatClampNeg
      rw [u2, kI_nat u1, kI_long u1]
    · rw [up_ne (by omega), up_at]
      show x2.toInt64 = kL x2.toNatClampNeg
      rw [v2, kI_nat v1, kI_long v1]
    · rw [up_at]
      show x3.toInt64 = kL x3.toNatClampNeg
      rw [w2, kI_nat w1, kI_long w1]
    · rw [up_ne (by omega), up_ne (by omega), up_ne (by omega)]; exact m6
    · rw [up_ne (by omega), up_ne (by omega), up_ne (by omega)]; exact m7 i hi
    · rw [up_ne (by omega), up_ne (by omega), up_ne (by omega)]; exact m8 i hi
    · rw [up_ne (by omega), up_ne (by omega), up_ne (by omega)]; exact m9 t ht
    · rw [up_ne (by omega), up_ne (by omega), up_ne (by omega)]; exact m10 t ht
  have hs' : (σ.s.wb (sbB σ.s.b x1 x2 x3)).OK := ⟨hb', hO.1.2⟩
  refine ⟨kI σ.s.b.wn, hp', g0, g1, g2, vp_updL (vp_updL (vp_updL d.m 17 x1.toInt64) 18 x2.toInt64) 19 x3.toInt64, sv', ?_, ?_, CR_ch hC0 hs' hx q3, DL_ch hD hm' q4 (kI 0)⟩
  · unfold Cf_L_setBench Cf_L_forgetResults
    simp (disch := omega) only [↓nm_eq, ↓bd_x, bdx_s, ↓bx_x, bxx_r, bxx_l, ↓bn_x, bnx_r, chk_t, ↓reduceIte, q32, q64, kI_lt_t, kI_lt_f, kI_le_t, kI_le_f, kI_eq_t, kI_eq_f, kL_lt_t, kL_lt_f, kL_le_t, kL_le_f, kL_eq_t, kL_eq_f, kI_m1, kI_m1', m1_m1, kI_n1, kI_n1', n1_add', eq_self, inb_t, kI_nat, kI_add, kI_mul, kI_sub, kI_div, kI_mod, kI_long, kL_add, kL_mul, kL_sub, kL_div, kL_mod, kL_int, n1_add, not_false_eq_true, not_true_eq_false, and_true, true_and, and_false, false_and, or_true, true_or, or_false, false_or, Nat.reduceEqDiff, IN, IM, rrI, c1, c2, c3, e2]
    rw [n4]
  · unfold Rf_setBench Rf_setBench_42
    simp (disch := omega) only [↓nm_eq, ↓bd_x, bdx_s, ↓bx_x, bxx_r, bxx_l, ↓bn_x, bnx_r, chk_t, ↓reduceIte, q32, q64, kI_lt_t, kI_lt_f, kI_le_t, kI_le_f, kI_eq_t, kI_eq_f, kL_lt_t, kL_lt_f, kL_le_t, kL_le_f, kL_eq_t, kL_eq_f, kI_m1, kI_m1', m1_m1, kI_n1, kI_n1', n1_add', eq_self, inb_t, kI_nat, kI_add, kI_mul, kI_sub, kI_div, kI_mod, kI_long, kL_add, kL_mul, kL_sub, kL_div, kL_mod, kL_int, n1_add, not_false_eq_true, not_true_eq_false, and_true, true_and, and_false, false_and, or_true, true_or, or_false, false_or, Nat.reduceEqDiff, IN, IM, iI, c1, c2, c3, e4, ev_window m5]
theorem OP_removePulse_x0 (hC : CR σ c) (hD : DL σ d) (h : ¬ IM x1 0 σ.s.b.np) : Cf_L_removePulse c.waveIsFresh c.peelingIsFresh c.n.count c.n.front c.n.least c.n.window c.n.pulses c.n.lengths c.n.fractions c.n.pulseTimes c.n.pulseEnergies c.n.sound c.n.seen c.hcount c.hp c.h0.count c.h0.front c.h0.least c.h0.window c.h0.pulses c.h0.lengths c.h0.fractions c.h0.pulseTimes c.h0.pulseEnergies c.h0.sound c.h0.seen c.h1.count c.h1.front c.h1.least c.h1.window c.h1.pulses c.h1.lengths c.h1.fractions c.h1.pulseTimes c.h1.pulseEnergies c.h1.sound c.h1.seen c.h2.count c.h2.front c.h2.least c.h2.window c.h2.pulses c.h2.lengths c.h2.fractions c.h2.pulseTimes c.h2.pulseEnergies c.h2.sound c.h2.seen x1 = some (.inl 0) ∧ Rf_removePulse d.m d.saved d.savedCount d.code x1 = some (d.m, d.saved, d.savedCount, kI 1, kI 0) := by
  have hnp : σ.s.b.np ≤ 4 := hC.1.1.1.2.2.2.2.2.2.1
  have n5 := hC.2.1.1.2.2.2.2.1
  have m6 := hD.1.2.2.2.2.2.2.1
  have e := iML (x := x1) (a := 0) (n := σ.s.b.np) (by omega) (by omega)
  rw [if_neg h] at e
  constructor
  · unfold Cf_L_removePulse
    rw [n5, rnI (by omega), if_neg h]
    rfl
  · unfold Rf_removePulse Rf_removePulse_40
    simp only [nm_eq]
    rw [chk_true (by decide), t32_20, m6, q64_0, q64_1, e, bd_s]
    rfl
theorem OP_removePulse_x2 (hC : CR σ c) (hD : DL σ d) (h : IM x1 0 σ.s.b.np) (h1 : σ.s.b.np = 1) : Cf_L_removePulse c.waveIsFresh c.peelingIsFresh c.n.count c.n.front c.n.least c.n.window c.n.pulses c.n.lengths c.n.fractions c.n.pulseTimes c.n.pulseEnergies c.n.sound c.n.seen c.hcount c.hp c.h0.count c.h0.front c.h0.least c.h0.window c.h0.pulses c.h0.lengths c.h0.fractions c.h0.pulseTimes c.h0.pulseEnergies c.h0.sound c.h0.seen c.h1.count c.h1.front c.h1.least c.h1.window c.h1.pulses c.h1.lengths c.h1.fractions c.h1.pulseTimes c.h1.pulseEnergies c.h1.sound c.h1.seen c.h2.count c.h2.front c.h2.least c.h2.window c.h2.pulses c.h2.lengths c.h2.fractions c.h2.pulseTimes c.h2.pulseEnergies c.h2.sound c.h2.seen x1 = some (.inl 2) ∧ Rf_removePulse d.m d.saved d.savedCount d.code x1 = some (d.m, d.saved, d.savedCount, kI 2, kI 0) := by
  have n5 := hC.2.1.1.2.2.2.2.1
  have m6 := hD.1.2.2.2.2.2.2.1
  have e := iML (x := x1) (a := 0) (n := σ.s.b.np) (by omega) (by omega)
  rw [if_pos h] at e
  constructor
  · unfold Cf_L_removePulse
    rw [n5, rnI (by omega), if_pos h, bx_r, h1]
    rfl
  · unfold Rf_removePulse Rf_removePulse_40
    simp only [nm_eq]
    rw [chk_true (by decide), t32_20, m6, q64_0, q64_1, e, bd_s, h1]
    rfl
theorem OP_removePulse (hC : CR σ c) (hD : DL σ d) (h : IM x1 0 σ.s.b.np) (h1 : ¬ σ.s.b.np = 1) : ∃ (r np : Int32) (pt pe : Nat → Int32) (hp' : Nat → Nat) (g0 g1 g2 : SC) (m' sv' : Nat → Int64), Cf_L_removePulse c.waveIsFresh c.peelingIsFresh c.n.count c.n.front c.n.least c.n.window c.n.pulses c.n.lengths c.n.fractions c.n.pulseTimes c.n.pulseEnergies c.n.sound c.n.seen c.hcount c.hp c.h0.count c.h0.front c.h0.least c.h0.window c.h0.pulses c.h0.lengths c.h0.fractions c.h0.pulseTimes c.h0.pulseEnergies c.h0.sound c.h0.seen c.h1.count c.h1.front c.h1.least c.h1.window c.h1.pulses c.h1.lengths c.h1.fractions c.h1.pulseTimes c.h1.pulseEnergies c.h1.sound c.h1.seen c.h2.count c.h2.front c.h2.least c.h2.window c.h2.pulses c.h2.lengths c.h2.fractions c.h2.pulseTimes c.h2.pulseEnergies c.h2.sound c.h2.seen x1 = some (.inr (kI 0, kI 0, np, pt, pe, kI (pk σ.k), hp', g0.count, g0.front, g0.least, g0.window, g0.pulses, g0.lengths, g0.fractions, g0.pulseTimes, g0.pulseEnergies, g0.sound, g0.seen, g1.count, g1.front, g1.least, g1.window, g1.pulses, g1.lengths, g1.fractions, g1.pulseTimes, g1.pulseEnergies, g1.sound, g1.seen, g2.count, g2.front, g2.least, g2.window, g2.pulses, g2.lengths, g2.fractions, g2.pulseTimes, g2.pulseEnergies, g2.sound, g2.seen, r)) ∧ Rf_removePulse d.m d.saved d.savedCount d.code x1 = some (m', sv', kI (pk σ.k), kI 0, r) ∧ CR (σ.ch (σ.s.wb (cpB σ.s.b x1.toNatClampNeg))) (CK.mk (kI 0) (kI 0) (SC.mk c.n.count c.n.front c.n.least c.n.window np c.n.lengths c.n.fractions pt pe c.n.sound c.n.seen) (kI (pk σ.k)) hp' g0 g1 g2 c.s_length c.s_command c.s_position c.s_fault c.s_bytes c.s_numbers c.w_near c.w_far c.w_echoes c.w_totals c.p_result c.p_endTime c.q c.t_near c.t_far c.t_echoes c.t_totals) ∧ DL (σ.ch (σ.s.wb (cpB σ.s.b x1.toNatClampNeg))) (RK.mk m' sv' (kI (pk σ.k)) d.script d.scriptLength (kI 0) d.lineParts d.lengths d.fractions d.pulseMany d.times d.energies d.far d.near d.echoes d.left d.dropped d.merged d.drops d.contributions d.packet d.peelResult d.peelTime d.peelSum d.at_ d.commands d.draft d.hash) := by
  obtain ⟨hp', g0, g1, g2, e2, q3⟩ := op_keep hC
  obtain ⟨sv', e4, q4⟩ := op_keepR hC.1 hD
  have hC0 := hC
  have hr := rnI (x := x1) (n := σ.s.b.np) (by have : σ.s.b.np ≤ 4 := hC.1.1.1.2.2.2.2.2.2.1; omega)
  rw [if_pos h] at hr
  have e := iML (x := x1) (a := 0) (n := σ.s.b.np) (by omega) (by have : σ.s.b.np ≤ 4 := hC.1.1.1.2.2.2.2.2.2.1; omega)
  rw [if_pos h] at e
  obtain ⟨k0, k1, k2, k3, k4⟩ := IM_nat h
  subst k2
  rw [kI_nat k1]
  obtain ⟨hO, hn, hh, hsc, hw, hp⟩ := hC
  obtain ⟨⟨n1, n2, n3, n4, n5, n6, n7, n8, n9⟩, n10, n11⟩ := hn
  have hb := hO.1.1
  have hnp : σ.s.b.np ≤ 4 := hb.2.2.2.2.2.2.1
  obtain ⟨m', e5, a0, q5⟩ := ev_pulLoop hO.1 hD.1 k4 (by omega)
  have e1 := ev_cutPulseN (ℓ := c.n.pulseTimes) (φ := c.n.pulseEnergies) k4 hnp
  have hx : SC.R (SC.mk c.n.count c.n.front c.n.least c.n.window (kI (σ.s.b.np - 1)) c.n.lengths c.n.fractions (fun j => if k0 ≤ j ∧ j < σ.s.b.np - 1 then c.n.pulseTimes (j + 1) else c.n.pulseTimes j) (fun j => if k0 ≤ j ∧ j < σ.s.b.np - 1 then c.n.pulseEnergies (j + 1) else c.n.pulseEnergies j) c.n.sound c.n.seen) (σ.s.wb (cpB σ.s.b k0)) := by
    refine ⟨⟨n1, n2, n3, n4, rfl, n6, n7, fun k hk => ?_, fun k hk => ?_⟩, n10, n11⟩
    · have hk' : k < σ.s.b.np - 1 := hk
      show (if k0 ≤ k ∧ k < σ.s.b.np - 1 then c.n.pulseTimes (k + 1) else c.n.pulseTimes k) = kI (if k0 ≤ k ∧ k < σ.s.b.np - 1 then σ.s.b.pt (k + 1) else σ.s.b.pt k)
      by_cases w : k0 ≤ k ∧ k < σ.s.b.np - 1
      · rw [if_pos w, if_pos w]; exact n8 _ (by omega)
      · rw [if_neg w, if_neg w]; exact n8 _ (by omega)
    · have hk' : k < σ.s.b.np - 1 := hk
      show (if k0 ≤ k ∧ k < σ.s.b.np - 1 then c.n.pulseEnergies (k + 1) else c.n.pulseEnergies k) = kI (if k0 ≤ k ∧ k < σ.s.b.np - 1 then σ.s.b.pe (k + 1) else σ.s.b.pe k)
      by_cases w : k0 ≤ k ∧ k < σ.s.b.np - 1
      · rw [if_pos w, if_pos w]; exact n9 _ (by omega)
      · rw [if_neg w, if_neg w]; exact n9 _ (by omega)
  have hs' : (σ.s.wb (cpB σ.s.b k0)).OK := ⟨cpB_OK hb k4 (by omega), hO.1.2⟩
  refine ⟨kI (σ.s.b.np - 1), kI (σ.s.b.np - 1), (fun j => if k0 ≤ j ∧ j < σ.s.b.np - 1 then c.n.pulseTimes (j + 1) else c.n.pulseTimes j), (fun j => if k0 ≤ j ∧ j < σ.s.b.np - 1 then c.n.pulseEnergies (j + 1) else c.n.pulseEnergies j), hp', g0, g1, g2, m', sv', ?_, ?_, CR_ch hC0 hs' hx q3, DL_ch hD q5 q4 (kI 0)⟩
  · unfold Cf_L_removePulse Cf_L_forgetResults
    have h1' : ¬ c.n.pulses = (1 : Int32) := by rw [n5, q32_1, kI_eq (by omega) (by omega)]; exact h1
    have hr' : Cf_L_requireNumber (kI k0) c.n.pulses = some (.inr ()) := by rw [n5]; exact hr
    have e1' : Cf_B_cutPulse_n c.n.pulses c.n.pulseTimes c.n.pulseEnergies (kI k0) = some (kI (σ.s.b.np - 1), (fun j => if k0 ≤ j ∧ j < σ.s.b.np - 1 then c.n.pulseTimes (j + 1) else c.n.pulseTimes j), (fun j => if k0 ≤ j ∧ j < σ.s.b.np - 1 then c.n.pulseEnergies (j + 1) else c.n.pulseEnergies j), kI (σ.s.b.np - 1)) := by rw [n5]; exact e1
    rw [hr', bx_r, if_neg h1', e2, bd_s]
    (try dsimp only)
    rw [bd_s]
    (try dsimp only)
    rw [e1', bd_s]
    rfl
  · have m6 := hD.1.2.2.2.2.2.2.1
    unfold Rf_removePulse Rf_removePulse_40
    simp only [nm_eq]
    rw [chk_true (show inb (20 : Int32) 431 by decide), t32_20, m6, q64_0, q64_1, e, bd_s]
    simp (disch := omega) only [↓nm_eq, ↓bd_x, bdx_s, ↓bx_x, bxx_r, bxx_l, ↓bn_x, bnx_r, chk_t, ↓reduceIte, q32, q64, kI_lt_t, kI_lt_f, kI_le_t, kI_le_f, kI_eq_t, kI_eq_f, kL_lt_t, kL_lt_f, kL_le_t, kL_le_f, kL_eq_t, kL_eq_f, kI_m1, kI_m1', m1_m1, kI_n1, kI_n1', n1_add', eq_self, inb_t, kI_nat, kI_add, kI_mul, kI_sub, kI_div, kI_mod, kI_long, kL_add, kL_mul, kL_sub, kL_div, kL_mod, kL_int, n1_add, not_false_eq_true, not_true_eq_false, and_true, true_and, and_false, false_and, or_true, true_or, or_false, false_or, Nat.reduceEqDiff, IN, IM, e4, m6, e5, a0]
def SO (x1 : Int32) (y : Int64) : Prop := IN x1 0 200 ∧ (0 ≤ y.toInt ∧ y.toInt ≤ 4000000)
theorem rrL {y : Int64} : Cf_L_requireRange y (kL 0) (kL 4000000) = some (if 0 ≤ y.toInt ∧ y.toInt ≤ 4000000 then .inr () else .inl 1) := by
  unfold Cf_L_requireRange
  rw [ev_within, kL_toInt (by omega), kL_toInt (by omega), bd_s]
  by_cases c : 0 ≤ y.toInt ∧ y.toInt ≤ 4000000
  · rw [if_pos (show ((0 : Nat) : Int) ≤ y.toInt ∧ y.toInt ≤ ((4000000 : Nat) : Int) by omega), if_pos c]; rfl
  · rw [if_neg (show ¬ (((0 : Nat) : Int) ≤ y.toInt ∧ y.toInt ≤ ((4000000 : Nat) : Int)) by omega), if_neg c]; rfl
theorem inL {y : Int64} : Rf_in y (kL 0) (kL 4000000) = some (if 0 ≤ y.toInt ∧ y.toInt ≤ 4000000 then kI 1 else kI 0) := by
  rw [ev_in, kL_toInt (by omega), kL_toInt (by omega)]
  exact congrArg some (ite_cg (by omega))
theorem OP_setObserved_x (hD : DL σ d) (h : ¬ SO x1 y) : Cf_L_setObserved c.waveIsFresh c.peelingIsFresh c.n.count c.n.front c.n.least c.n.window c.n.pulses c.n.lengths c.n.fractions c.n.pulseTimes c.n.pulseEnergies c.n.sound c.n.seen c.hcount c.hp c.h0.count c.h0.front c.h0.least c.h0.window c.h0.pulses c.h0.lengths c.h0.fractions c.h0.pulseTimes c.h0.pulseEnergies c.h0.sound c.h0.seen c.h1.count c.h1.front c.h1.least c.h1.window c.h1.pulses c.h1.lengths c.h1.fractions c.h1.pulseTimes c.h1.pulseEnergies c.h1.sound c.h1.seen c.h2.count c.h2.front c.h2.least c.h2.window c.h2.pulses c.h2.lengths c.h2.fractions c.h2.pulseTimes c.h2.pulseEnergies c.h2.sound c.h2.seen x1 y = some (.inl 1) ∧ Rf_setObserved d.m d.saved d.savedCount d.code x1 y = some (d.m, d.saved, d.savedCount, kI 1, kL 0) := by
  unfold SO at h
  unfold Cf_L_setObserved Rf_setObserved Rf_setObserved_28 Rf_setObserved_29
  by_cases c1 : IN x1 0 200
  · have c2 : ¬ (0 ≤ y.toInt ∧ y.toInt ≤ 4000000) := fun q => h ⟨c1, q⟩
    have r1 := rrL (y := y)
    have r2 := inL (y := y)
    rw [if_neg c2] at r1 r2
    exact ⟨by simp (disch := omega) only [↓nm_eq, ↓bd_x, bdx_s, ↓bx_x, bxx_r, bxx_l, ↓bn_x, bnx_r, chk_t, ↓reduceIte, q32, q64, kI_lt_t, kI_lt_f, kI_le_t, kI_le_f, kI_eq_t, kI_eq_f, kL_lt_t, kL_lt_f, kL_le_t, kL_le_f, kL_eq_t, kL_eq_f, kI_m1, kI_m1', m1_m1, kI_n1, kI_n1', n1_add', eq_self, inb_t, kI_nat, kI_add, kI_mul, kI_sub, kI_div, kI_mod, kI_long, kL_add, kL_mul, kL_sub, kL_div, kL_mod, kL_int, n1_add, not_false_eq_true, not_true_eq_false, and_true, true_and, and_false, false_and, or_true, true_or, or_false, false_or, Nat.reduceEqDiff, IN, IM, rrI, c1, r1], by simp (disch := omega) only [↓nm_eq, ↓bd_x, bdx_s, ↓bx_x, bxx_r, bxx_l, ↓bn_x, bnx_r, chk_t, ↓reduceIte, q32, q64, kI_lt_t, kI_lt_f, kI_le_t, kI_le_f, kI_eq_t, kI_eq_f, kL_lt_t, kL_lt_f, kL_le_t, kL_le_f, kL_eq_t, kL_eq_f, kI_m1, kI_m1', m1_m1, kI_n1, kI_n1', n1_add', eq_self, inb_t, kI_nat, kI_add, kI_mul, kI_sub, kI_div, kI_mod, kI_long, kL_add, kL_mul, kL_sub, kL_div, kL_mod, kL_int, n1_add, not_false_eq_true, not_true_eq_false, and_true, true_and, and_false, false_and, or_true, true_or, or_false, false_or, Nat.reduceEqDiff, IN, IM, iI, c1, r2]⟩
  · exact ⟨by simp (disch := omega) only [↓nm_eq, ↓bd_x, bdx_s, ↓bx_x, bxx_r, bxx_l, ↓bn_x, bnx_r, chk_t, ↓reduceIte, q32, q64, kI_lt_t, kI_lt_f, kI_le_t, kI_le_f, kI_eq_t, kI_eq_f, kL_lt_t, kL_lt_f, kL_le_t, kL_le_f, kL_eq_t, kL_eq_f, kI_m1, kI_m1', m1_m1, kI_n1, kI_n1', n1_add', eq_self, inb_t, kI_nat, kI_add, kI_mul, kI_sub, kI_div, kI_mod, kI_long, kL_add, kL_mul, kL_sub, kL_div, kL_mod, kL_int, n1_add, not_false_eq_true, not_true_eq_false, and_true, true_and, and_false, false_and, or_true, true_or, or_false, false_or, Nat.reduceEqDiff, IN, IM, rrI, c1], by simp (disch := omega) only [↓nm_eq, ↓bd_x, bdx_s, ↓bx_x, bxx_r, bxx_l, ↓bn_x, bnx_r, chk_t, ↓reduceIte, q32, q64, kI_lt_t, kI_lt_f, kI_le_t, kI_le_f, kI_eq_t, kI_eq_f, kL_lt_t, kL_lt_f, kL_le_t, kL_le_f, kL_eq_t, kL_eq_f, kI_m1, kI_m1', m1_m1, kI_n1, kI_n1', n1_add', eq_self, inb_t, kI_nat, kI_add, kI_mul, kI_sub, kI_div, kI_mod, kI_long, kL_add, kL_mul, kL_sub, kL_div, kL_mod, kL_int, n1_add, not_false_eq_true, not_true_eq_false, and_true, true_and, and_false, false_and, or_true, true_or, or_false, false_or, Nat.reduceEqDiff, IN, IM, iI, c1]⟩
theorem OP_setObserved (hC : CR σ c) (hD : DL σ d) (h : SO x1 y) : ∃ (σ' : SS) (r : Int64) (se : Nat → Int64) (hp' : Nat → Nat) (g0 g1 g2 : SC) (m' sv' : Nat → Int64), Cf_L_setObserved c.waveIsFresh c.peelingIsFresh c.n.count c.n.front c.n.least c.n.window c.n.pulses c.n.lengths c.n.fractions c.n.pulseTimes c.n.pulseEnergies c.n.sound c.n.seen c.hcount c.hp c.h0.count c.h0.front c.h0.least c.h0.window c.h0.pulses c.h0.lengths c.h0.fractions c.h0.pulseTimes c.h0.pulseEnergies c.h0.sound c.h0.seen c.h1.count c.h1.front c.h1.least c.h1.window c.h1.pulses c.h1.lengths c.h1.fractions c.h1.pulseTimes c.h1.pulseEnergies c.h1.sound c.h1.seen c.h2.count c.h2.front c.h2.least c.h2.window c.h2.pulses c.h2.lengths c.h2.fractions c.h2.pulseTimes c.h2.pulseEnergies c.h2.sound c.h2.seen x1 y = some (.inr (kI 0, kI 0, se, kI (pk σ.k), hp', g0.count, g0.front, g0.least, g0.window, g0.pulses, g0.lengths, g0.fractions, g0.pulseTimes, g0.pulseEnergies, g0.sound, g0.seen, g1.count, g1.front, g1.least, g1.window, g1.pulses, g1.lengths, g1.fractions, g1.pulseTimes, g1.pulseEnergies, g1.sound, g1.seen, g2.count, g2.front, g2.least, g2.window, g2.pulses, g2.lengths, g2.fractions, g2.pulseTimes, g2.pulseEnergies, g2.sound, g2.seen, r)) ∧ Rf_setObserved d.m d.saved d.savedCount d.code x1 y = some (m', sv', kI (pk σ.k), kI 0, r) ∧ CR σ' (CK.mk (kI 0) (kI 0) (SC.mk c.n.count c.n.front c.n.least c.n.window c.n.pulses c.n.lengths c.n.fractions c.n.pulseTimes c.n.pulseEnergies c.n.sound se) (kI (pk σ.k)) hp' g0 g1 g2 c.s_length c.s_command c.s_position c.s_fault c.s_bytes c.s_numbers c.w_near c.w_far c.w_echoes c.w_totals c.p_result c.p_endTime c.q c.t_near c.t_far c.t_echoes c.t_totals) ∧ DL σ' (RK.mk m' sv' (kI (pk σ.k)) d.script d.scriptLength (kI 0) d.lineParts d.lengths d.fractions d.pulseMany d.times d.energies d.far d.near d.echoes d.left d.dropped d.merged d.drops d.contributions d.packet d.peelResult d.peelTime d.peelSum d.at_ d.commands d.draft d.hash) := by
  obtain ⟨hp', g0, g1, g2, e2, q3⟩ := op_keep hC
  obtain ⟨sv', e4, q4⟩ := op_keepR hC.1 hD
  have hC0 := hC
  obtain ⟨hO, hn, hh, hsc, hw, hp⟩ := hC
  obtain ⟨⟨n1, n2, n3, n4, n5, n6, n7, n8, n9⟩, n10, n11⟩ := hn
  obtain ⟨m0, m1, m2, m3, m4, m5, m6, m7, m8, m9, m10⟩ := hD.1
  have hb := hO.1.1
  have hnn := hb.1
  have hnp : σ.s.b.np ≤ 4 := hb.2.2.2.2.2.2.1
  obtain ⟨c1, c2⟩ := h
  have r1 := rrL (y := y)
  have r2 := inL (y := y)
  rw [if_pos c2] at r1 r2
  have s1 := rrI (x := x1) (a := 0) (b := 200) (by omega) (by omega)
  have s2 := iI (x := x1) (a := 0) (b := 200) (by omega) (by omega)
  rw [if_pos c1] at s1 s2
  obtain ⟨t, u1, u2, u3, u4⟩ := IN_nat c1
  subst u2
  rw [kI_long u1] at s1 s2
  obtain ⟨e, ee⟩ : ∃ e : Nat, y.toInt = (e : Int) := ⟨y.toInt.toNat, by omega⟩
  have hy : y = kL e := kL_inj (by omega) ee
  subst hy
  have hx : SC.R (SC.mk c.n.count c.n.front c.n.least c.n.window c.n.pulses c.n.lengths c.n.fractions c.n.pulseTimes c.n.pulseEnergies c.n.sound (vp_updL c.n.seen t (kL e))) (Sx.mk σ.s.b σ.s.so (upN σ.s.se t e)) := by
    refine ⟨⟨n1, n2, n3, n4, n5, n6, n7, n8, n9⟩, n10, fun u hu => ?_⟩
    show vp_updL c.n.seen t (kL e) u = kL (upN σ.s.se t e u)
    by_cases w : u = t
    · rw [w, up_at, upN_at]
    · rw [up_ne w, upN_ne w]; exact n11 u hu
  have hs' : Sx.OK (Sx.mk σ.s.b σ.s.so (upN σ.s.se t e)) := by
    refine ⟨hb, fun u hu => ⟨(hO.1.2 u hu).1, ?_⟩⟩
    show upN σ.s.se t e u ≤ 4000000
    by_cases w : u = t
    · rw [w, upN_at]; omega
    · rw [upN_ne w]; exact (hO.1.2 u hu).2
  have hm' : RS (Sx.mk σ.s.b σ.s.so (upN σ.s.se t e)) (vp_updL d.m (230 + t) (kL e)) := by
    refine ⟨?_, fun k hk => ?_, fun k hk => ?_, ?_, ?_, ?_, ?_, fun i hi => ?_, fun i hi => ?_, fun u hu => ?_, fun u hu => ?_⟩
    · rw [up_ne (by omega)]; exact m0
    · have hk' : k < σ.s.b.n := hk
      rw [up_ne (by omega)]; exact m1 k hk
    · have hk' : k < σ.s.b.n := hk
      rw [up_ne (by omega)]; exact m2 k hk
    · rw [up_ne (by omega)]; exact m3
    · rw [up_ne (by omega)]; exact m4
    · rw [up_ne (by omega)]; exact m5
    · rw [up_ne (by omega)]; exact m6
    · have hi' : i < σ.s.b.np := hi
      rw [up_ne (by omega)]; exact m7 i hi
    · have hi' : i < σ.s.b.np := hi
      rw [up_ne (by omega)]; exact m8 i hi
    · rw [up_ne (by omega)]; exact m9 u hu
    · show vp_updL d.m (230 + t) (kL e) (230 + u) = kL (upN σ.s.se t e u)
      by_cases w : u = t
      · rw [w, up_at, upN_at]
      · rw [up_ne (by omega), upN_ne w]; exact m10 u hu
  refine ⟨σ.ch (Sx.mk σ.s.b σ.s.so (upN σ.s.se t e)), kL (σ.s.se t), vp_updL c.n.seen t (kL e), hp', g0, g1, g2, vp_updL d.m (230 + t) (kL e), sv', ?_, ?_, CR_ch hC0 hs' hx q3, DL_ch hD hm' q4 (kI 0)⟩
  · unfold Cf_L_setObserved Cf_L_forgetResults
    simp (disch := omega) only [↓nm_eq, ↓bd_x, bdx_s, ↓bx_x, bxx_r, bxx_l, ↓bn_x, bnx_r, chk_t, ↓reduceIte, q32, q64, kI_lt_t, kI_lt_f, kI_le_t, kI_le_f, kI_eq_t, kI_eq_f, kL_lt_t, kL_lt_f, kL_le_t, kL_le_f, kL_eq_t, kL_eq_f, kI_m1, kI_m1', m1_m1, kI_n1, kI_n1', n1_add', eq_self, inb_t, kI_nat, kI_add, kI_mul, kI_sub, kI_div, kI_mod, kI_long, kL_add, kL_mul, kL_sub, kL_div, kL_mod, kL_int, n1_add, not_false_eq_true, not_true_eq_false, and_true, true_and, and_false, false_and, or_true, true_or, or_false, false_or, Nat.reduceEqDiff, IN, IM, s1, r1, n11, e2]
  · unfold Rf_setObserved Rf_setObserved_29
    simp (disch := omega) only [↓nm_eq, ↓bd_x, bdx_s, ↓bx_x, bxx_r, bxx_l, ↓bn_x, bnx_r, chk_t, ↓reduceIte, q32, q64, kI_lt_t, kI_lt_f, kI_le_t, kI_le_f, kI_eq_t, kI_eq_f, kL_lt_t, kL_lt_f, kL_le_t, kL_le_f, kL_eq_t, kL_eq_f, kI_m1, kI_m1', m1_m1, kI_n1, kI_n1', n1_add', eq_self, inb_t, kI_nat, kI_add, kI_mul, kI_sub, kI_div, kI_mod, kI_long, kL_add, kL_mul, kL_sub, kL_div, kL_mod, kL_int, n1_add, not_false_eq_true, not_true_eq_false, and_true, true_and, and_false, false_and, or_true, true_or, or_false, false_or, Nat.reduceEqDiff, IN, IM, s2, r2, e4, m10]
theorem OP_undo_x (hC : CR σ c) (hD : DL σ d) (h : σ.k = 0) : Cf_L_undo c.waveIsFresh c.peelingIsFresh c.n.count c.n.front c.n.least c.n.window c.n.pulses c.n.lengths c.n.fractions c.n.pulseTimes c.n.pulseEnergies c.n.sound c.n.seen c.hcount c.hp c.h0.count c.h0.front c.h0.least c.h0.window c.h0.pulses c.h0.lengths c.h0.fractions c.h0.pulseTimes c.h0.pulseEnergies c.h0.sound c.h0.seen c.h1.count c.h1.front c.h1.least c.h1.window c.h1.pulses c.h1.lengths c.h1.fractions c.h1.pulseTimes c.h1.pulseEnergies c.h1.sound c.h1.seen c.h2.count c.h2.front c.h2.least c.h2.window c.h2.pulses c.h2.lengths c.h2.fractions c.h2.pulseTimes c.h2.pulseEnergies c.h2.sound c.h2.seen = some (.inl 2) ∧ Rf_undo d.m d.saved d.savedCount d.code = some (d.m, d.savedCount, kI 1, kI 0) := by
  have h1 := hC.2.2.1.2.1
  have h2 := hD.2.1.2.1
  constructor
  · unfold Cf_L_undo
    rw [h1, h]
    rfl
  · unfold Rf_undo Rf_undo_13
    rw [h2, h]
    rfl
theorem OP_undo (hC : CR σ c) (hD : DL σ d) (h : ¬ σ.k = 0) : ∃ (r : Int32) (g : SC) (m' : Nat → Int64), Cf_L_undo c.waveIsFresh c.peelingIsFresh c.n.count c.n.front c.n.least c.n.window c.n.pulses c.n.lengths c.n.fractions c.n.pulseTimes c.n.pulseEnergies c.n.sound c.n.seen c.hcount c.hp c.h0.count c.h0.front c.h0.least c.h0.window c.h0.pulses c.h0.lengths c.h0.fractions c.h0.pulseTimes c.h0.pulseEnergies c.h0.sound c.h0.seen c.h1.count c.h1.front c.h1.least c.h1.window c.h1.pulses c.h1.lengths c.h1.fractions c.h1.pulseTimes c.h1.pulseEnergies c.h1.sound c.h1.seen c.h2.count c.h2.front c.h2.least c.h2.window c.h2.pulses c.h2.lengths c.h2.fractions c.h2.pulseTimes c.h2.pulseEnergies c.h2.sound c.h2.seen = some (.inr (kI 0, kI 0, g.count, g.front, g.least, g.window, g.pulses, g.lengths, g.fractions, g.pulseTimes, g.pulseEnergies, g.sound, g.seen, kI (σ.k - 1), r)) ∧ Rf_undo d.m d.saved d.savedCount d.code = some (m', kI (σ.k - 1), kI 0, r) ∧ CR (SS.mk (σ.H (σ.k - 1)) (σ.k - 1) σ.H σ.L σ.bt) (CK.mk (kI 0) (kI 0) g (kI (σ.k - 1)) c.hp c.h0 c.h1 c.h2 c.s_length c.s_command c.s_position c.s_fault c.s_bytes c.s_numbers c.w_near c.w_far c.w_echoes c.w_totals c.p_result c.p_endTime c.q c.t_near c.t_far c.t_echoes c.t_totals) ∧ DL (SS.mk (σ.H (σ.k - 1)) (σ.k - 1) σ.H σ.L σ.bt) (RK.mk m' d.saved (kI (σ.k - 1)) d.script d.scriptLength (kI 0) d.lineParts d.lengths d.fractions d.pulseMany d.times d.energies d.far d.near d.echoes d.left d.dropped d.merged d.drops d.contributions d.packet d.peelResult d.peelTime d.peelSum d.at_ d.commands d.draft d.hash) := by
  obtain ⟨hO, hn, hh, hsc, hw, hp⟩ := hC
  have hk3 := hO.2.1
  obtain ⟨g, e1, q1, q2⟩ := ev_restore (c := c.n) hh (by omega) (hO.2.2.1 _ (by omega))
  obtain ⟨m', e2, q3, q4⟩ := ev_undoR (m := d.m) hO.2.2.1 (by omega) hD.2.1
  refine ⟨kI (σ.k - 1), g, m', ?_, ?_, ⟨⟨hO.2.2.1 _ (by omega), by show σ.k - 1 ≤ 3; omega, fun i hi => hO.2.2.1 i (by have : i < σ.k - 1 := hi; omega), hO.2.2.2⟩, q1, q2, hsc, Or.inl rfl, Or.inl rfl⟩, q3, q4, hD.2.2.1, hD.2.2.2⟩
  · unfold Cf_L_undo Cf_L_forgetResults
    have h0 : ¬ c.hcount = 0 := by rw [hh.2.1, q32_0, kI_eq (by omega) (by omega)]; exact h
    rw [if_neg h0, e1, bd_s]
    simp (disch := omega) only [↓nm_eq, ↓bd_x, bdx_s, ↓bx_x, bxx_r, bxx_l, ↓bn_x, bnx_r, chk_t, ↓reduceIte, q32, q64, kI_lt_t, kI_lt_f, kI_le_t, kI_le_f, kI_eq_t, kI_eq_f, kL_lt_t, kL_lt_f, kL_le_t, kL_le_f, kL_eq_t, kL_eq_f, kI_m1, kI_m1', m1_m1, kI_n1, kI_n1', n1_add', eq_self, inb_t, kI_nat, kI_add, kI_mul, kI_sub, kI_div, kI_mod, kI_long, kL_add, kL_mul, kL_sub, kL_div, kL_mod, kL_int, n1_add, not_false_eq_true, not_true_eq_false, and_true, true_and, and_false, false_and, or_true, true_or, or_false, false_or, Nat.reduceEqDiff, IN, IM]
  · unfold Rf_undo Rf_undo_13
    rw [hD.2.1.2.1]
    simp (disch := omega) only [↓nm_eq, ↓bd_x, bdx_s, ↓bx_x, bxx_r, bxx_l, ↓bn_x, bnx_r, chk_t, ↓reduceIte, q32, q64, kI_lt_t, kI_lt_f, kI_le_t, kI_le_f, kI_eq_t, kI_eq_f, kL_lt_t, kL_lt_f, kL_le_t, kL_le_f, kL_eq_t, kL_eq_f, kI_m1, kI_m1', m1_m1, kI_n1, kI_n1', n1_add', eq_self, inb_t, kI_nat, kI_add, kI_mul, kI_sub, kI_div, kI_mod, kI_long, kL_add, kL_mul, kL_sub, kL_div, kL_mod, kL_int, n1_add, not_false_eq_true, not_true_eq_false, and_true, true_and, and_false, false_and, or_true, true_or, or_false, false_or, Nat.reduceEqDiff, IN, IM, e2]
theorem nar_b : ∀ v, v < 128 → vp_nar .byte (kI v).toInt8.toInt32 = kI v := by decide +kernel
theorem OP_type_x1 (hD : DL σ d) (h : ¬ IN x1 0 127) : Cf_L_type c.s_length c.s_bytes x1 = some (.inl 1) ∧ Rf_type d.script d.scriptLength d.code x1 = some (d.script, d.scriptLength, kI 1, kI 0) := by
  unfold Cf_L_type Rf_type Rf_type_31
  exact ⟨by simp (disch := omega) only [↓nm_eq, ↓bd_x, bdx_s, ↓bx_x, bxx_r, bxx_l, ↓bn_x, bnx_r, chk_t, ↓reduceIte, q32, q64, kI_lt_t, kI_lt_f, kI_le_t, kI_le_f, kI_eq_t, kI_eq_f, kL_lt_t, kL_lt_f, kL_le_t, kL_le_f, kL_eq_t, kL_eq_f, kI_m1, kI_m1', m1_m1, kI_n1, kI_n1', n1_add', eq_self, inb_t, kI_nat, kI_add, kI_mul, kI_sub, kI_div, kI_mod, kI_long, kL_add, kL_mul, kL_sub, kL_div, kL_mod, kL_int, n1_add, not_false_eq_true, not_true_eq_false, and_true, true_and, and_false, false_and, or_true, true_or, or_false, false_or, Nat.reduceEqDiff, IN, IM, rrI, h], by simp (disch := omega) only [↓nm_eq, ↓bd_x, bdx_s, ↓bx_x, bxx_r, bxx_l, ↓bn_x, bnx_r, chk_t, ↓reduceIte, q32, q64, kI_lt_t, kI_lt_f, kI_le_t, kI_le_f, kI_eq_t, kI_eq_f, kL_lt_t, kL_lt_f, kL_le_t, kL_le_f, kL_eq_t, kL_eq_f, kI_m1, kI_m1', m1_m1, kI_n1, kI_n1', n1_add', eq_self, inb_t, kI_nat, kI_add, kI_mul, kI_sub, kI_div, kI_mod, kI_long, kL_add, kL_mul, kL_sub, kL_div, kL_mod, kL_int, n1_add, not_false_eq_true, not_true_eq_false, and_true, true_and, and_false, false_and, or_true, true_or, or_false, false_or, Nat.reduceEqDiff, IN, IM, iI, h]⟩
theorem OP_type_x2 (hC : CR σ c) (hD : DL σ d) (h : IN x1 0 127) (h2 : σ.L = 120) : Cf_L_type c.s_length c.s_bytes x1 = some (.inl 2) ∧ Rf_type d.script d.scriptLength d.code x1 = some (d.script, d.scriptLength, kI 2, kI 0) := by
  unfold Cf_L_type Rf_type Rf_type_31
  rw [hC.2.2.2.1.1, hD.2.2.1, h2]
  exact ⟨by simp (disch := omega) only [↓nm_eq, ↓bd_x, bdx_s, ↓bx_x, bxx_r, bxx_l, ↓bn_x, bnx_r, chk_t, ↓reduceIte, q32, q64, kI_lt_t, kI_lt_f, kI_le_t, kI_le_f, kI_eq_t, kI_eq_f, kL_lt_t, kL_lt_f, kL_le_t, kL_le_f, kL_eq_t, kL_eq_f, kI_m1, kI_m1', m1_m1, kI_n1, kI_n1', n1_add', eq_self, inb_t, kI_nat, kI_add, kI_mul, kI_sub, kI_div, kI_mod, kI_long, kL_add, kL_mul, kL_sub, kL_div, kL_mod, kL_int, n1_add, not_false_eq_true, not_true_eq_false, and_true, true_and, and_false, false_and, or_true, true_or, or_false, false_or, Nat.reduceEqDiff, IN, IM, rrI, h], by simp (disch := omega) only [↓nm_eq, ↓bd_x, bdx_s, ↓bx_x, bxx_r, bxx_l, ↓bn_x, bnx_r, chk_t, ↓reduceIte, q32, q64, kI_lt_t, kI_lt_f, kI_le_t, kI_le_f, kI_eq_t, kI_eq_f, kL_lt_t, kL_lt_f, kL_le_t, kL_le_f, kL_eq_t, kL_eq_f, kI_m1, kI_m1', m1_m1, kI_n1, kI_n1', n1_add', eq_self, inb_t, kI_nat, kI_add, kI_mul, kI_sub, kI_div, kI_mod, kI_long, kL_add, kL_mul, kL_sub, kL_div, kL_mod, kL_int, n1_add, not_false_eq_true, not_true_eq_false, and_true, true_and, and_false, false_and, or_true, true_or, or_false, false_or, Nat.reduceEqDiff, IN, IM, iI, h]⟩
theorem OP_type (hC : CR σ c) (hD : DL σ d) (h : IN x1 0 127) (h2 : ¬ σ.L = 120) : ∃ (σ' : SS) (r sl : Int32) (B S' : Nat → Int32), Cf_L_type c.s_length c.s_bytes x1 = some (.inr (sl, B, r)) ∧ Rf_type d.script d.scriptLength d.code x1 = some (S', sl, kI 0, r) ∧ CR σ' (CK.mk c.waveIsFresh c.peelingIsFresh c.n c.hcount c.hp c.h0 c.h1 c.h2 sl c.s_command c.s_position c.s_fault B c.s_numbers c.w_near c.w_far c.w_echoes c.w_totals c.p_result c.p_endTime c.q c.t_near c.t_far c.t_echoes c.t_totals) ∧ DL σ' (RK.mk d.m d.saved d.savedCount S' sl (kI 0) d.lineParts d.lengths d.fractions d.pulseMany d.times d.energies d.far d.near d.echoes d.left d.dropped d.merged d.drops d.contributions d.packet d.peelResult d.peelTime d.peelSum d.at_ d.commands d.draft d.hash) := by
  have s1 := rrI (x := x1) (a := 0) (b := 127) (by omega) (by omega)
  have s2 := iI (x := x1) (a := 0) (b := 127) (by omega) (by omega)
  rw [if_pos h] at s1 s2
  obtain ⟨v, v1, v2, v3, v4⟩ := IN_nat h
  subst v2
  rw [kI_long v1] at s1 s2
  have hn := nar_b v (by omega)
  obtain ⟨hO, hn0, hh, ⟨hs1, hs2⟩, hw, hp⟩ := hC
  obtain ⟨d1, d2, d3, d4⟩ := hD
  have hL := hO.2.2.2.1
  have hL2 := hO.2.2.2.2
  refine ⟨(SS.mk σ.s σ.k σ.H (σ.L + 1) (upN σ.bt σ.L v)), kI (σ.L + 1), kI (σ.L + 1), upd c.s_bytes σ.L (kI v), upd d.script σ.L (kI v), ?_, ?_, ⟨⟨hO.1, hO.2.1, hO.2.2.1, by show σ.L + 1 ≤ 120; omega, fun u hu => ?_⟩, hn0, hh, ⟨rfl, fun u hu => ?_⟩, hw, hp⟩, d1, d2, rfl, fun u hu => ?_⟩
  · unfold Cf_L_type Cf_C_append_scr Cf_C_append_scr_30
    rw [hs1]
    simp (disch := omega) only [↓nm_eq, ↓bd_x, bdx_s, ↓bx_x, bxx_r, bxx_l, ↓bn_x, bnx_r, chk_t, ↓reduceIte, q32, q64, kI_lt_t, kI_lt_f, kI_le_t, kI_le_f, kI_eq_t, kI_eq_f, kL_lt_t, kL_lt_f, kL_le_t, kL_le_f, kL_eq_t, kL_eq_f, kI_m1, kI_m1', m1_m1, kI_n1, kI_n1', n1_add', eq_self, inb_t, kI_nat, kI_add, kI_mul, kI_sub, kI_div, kI_mod, kI_long, kL_add, kL_mul, kL_sub, kL_div, kL_mod, kL_int, n1_add, not_false_eq_true, not_true_eq_false, and_true, true_and, and_false, false_and, or_true, true_or, or_false, false_or, Nat.reduceEqDiff, IN, IM, s1, hn]
  · unfold Rf_type Rf_type_31
    rw [d3]
    simp (disch := omega) only [↓nm_eq, ↓bd_x, bdx_s, ↓bx_x, bxx_r, bxx_l, ↓bn_x, bnx_r, chk_t, ↓reduceIte, q32, q64, kI_lt_t, kI_lt_f, kI_le_t, kI_le_f, kI_eq_t, kI_eq_f, kL_lt_t, kL_lt_f, kL_le_t, kL_le_f, kL_eq_t, kL_eq_f, kI_m1, kI_m1', m1_m1, kI_n1, kI_n1', n1_add', eq_self, inb_t, kI_nat, kI_add, kI_mul, kI_sub, kI_div, kI_mod, kI_long, kL_add, kL_mul, kL_sub, kL_div, kL_mod, kL_int, n1_add, not_false_eq_true, not_true_eq_false, and_true, true_and, and_false, false_and, or_true, true_or, or_false, false_or, Nat.reduceEqDiff, IN, IM, s2]
  · have hu' : u < σ.L + 1 := hu
    show upN σ.bt σ.L v u ≤ 127
    by_cases w : u = σ.L
    · rw [w, upN_at]; omega
    · rw [upN_ne w]; exact hL2 u (by omega)
  · have hu' : u < σ.L + 1 := hu
    show upd c.s_bytes σ.L (kI v) u = kI (upN σ.bt σ.L v u)
    by_cases w : u = σ.L
    · rw [w, upN_at, up32_at]
    · rw [upN_ne w, up32_ne w]; exact hs2 u (by omega)
  · have hu' : u < σ.L + 1 := hu
    show upd d.script σ.L (kI v) u = kI (upN σ.bt σ.L v u)
    by_cases w : u = σ.L
    · rw [w, upN_at, up32_at]
    · rw [upN_ne w, up32_ne w]; exact d4 u (by omega)
theorem OP_clearScript (hC : CR σ c) (hD : DL σ d) : Cf_L_clearScript c.s_length = some (kI 0, kI σ.L) ∧ Rf_clearScript d.scriptLength d.code = some (kI 0, kI 0, kI σ.L) ∧ CR (SS.mk σ.s σ.k σ.H 0 σ.bt) (CK.mk c.waveIsFresh c.peelingIsFresh c.n c.hcount c.hp c.h0 c.h1 c.h2 (kI 0) c.s_command c.s_position c.s_fault c.s_bytes c.s_numbers c.w_near c.w_far c.w_echoes c.w_totals c.p_result c.p_endTime c.q c.t_near c.t_far c.t_echoes c.t_totals) ∧ DL (SS.mk σ.s σ.k σ.H 0 σ.bt) (RK.mk d.m d.saved d.savedCount d.script (kI 0) (kI 0) d.lineParts d.lengths d.fractions d.pulseMany d.times d.energies d.far d.near d.echoes d.left d.dropped d.merged d.drops d.contributions d.packet d.peelResult d.peelTime d.peelSum d.at_ d.commands d.draft d.hash) := by
  obtain ⟨hO, hn0, hh, ⟨hs1, hs2⟩, hw, hp⟩ := hC
  obtain ⟨d1, d2, d3, d4⟩ := hD
  refine ⟨?_, ?_, ⟨⟨hO.1, hO.2.1, hO.2.2.1, Nat.zero_le 120, fun u hu => absurd hu (Nat.not_lt_zero u)⟩, hn0, hh, ⟨rfl, fun u hu => absurd hu (Nat.not_lt_zero u)⟩, hw, hp⟩, d1, d2, rfl, fun u hu => absurd hu (Nat.not_lt_zero u)⟩
  · unfold Cf_L_clearScript
    rw [hs1]
    rfl
  · unfold Rf_clearScript
    rw [d3]
    rfl
theorem OP_part_x0 (hC : CR σ c) (hD : DL σ d) (h : ¬ IM x1 0 σ.s.b.n) : Cf_L_part c.n.count c.n.lengths c.n.fractions x1 x2 = some (.inl 0) ∧ Rf_part d.m d.code x1 x2 = some (kI 1, kI 0) := by
  have hn := hC.1.1.1.1
  have n1 := hC.2.1.1.1
  have e := ev_isPart (x1 := x1) hn hD.1.1
  rw [if_neg h] at e
  constructor
  · unfold Cf_L_part
    rw [n1, rnI (by omega), if_neg h]
    rfl
  · unfold Rf_part Rf_part_30
    simp (disch := omega) only [↓nm_eq, ↓bd_x, bdx_s, ↓bx_x, bxx_r, bxx_l, ↓bn_x, bnx_r, chk_t, ↓reduceIte, q32, q64, kI_lt_t, kI_lt_f, kI_le_t, kI_le_f, kI_eq_t, kI_eq_f, kL_lt_t, kL_lt_f, kL_le_t, kL_le_f, kL_eq_t, kL_eq_f, kI_m1, kI_m1', m1_m1, kI_n1, kI_n1', n1_add', eq_self, inb_t, kI_nat, kI_add, kI_mul, kI_sub, kI_div, kI_mod, kI_long, kL_add, kL_mul, kL_sub, kL_div, kL_mod, kL_int, n1_add, not_false_eq_true, not_true_eq_false, and_true, true_and, and_false, false_and, or_true, true_or, or_false, false_or, Nat.reduceEqDiff, IN, IM, e]
theorem OP_part_x1 (hC : CR σ c) (hD : DL σ d) (h : IM x1 0 σ.s.b.n) (h2 : ¬ IN x2 0 2) : Cf_L_part c.n.count c.n.lengths c.n.fractions x1 x2 = some (.inl 1) ∧ Rf_part d.m d.code x1 x2 = some (kI 2, kI 0) := by
  have hn := hC.1.1.1.1
  have n1 := hC.2.1.1.1
  have e := ev_isPart (x1 := x1) hn hD.1.1
  rw [if_pos h] at e
  constructor
  · unfold Cf_L_part
    rw [n1, rnI (by omega), if_pos h, bx_r]
    simp (disch := omega) only [↓nm_eq, ↓bd_x, bdx_s, ↓bx_x, bxx_r, bxx_l, ↓bn_x, bnx_r, chk_t, ↓reduceIte, q32, q64, kI_lt_t, kI_lt_f, kI_le_t, kI_le_f, kI_eq_t, kI_eq_f, kL_lt_t, kL_lt_f, kL_le_t, kL_le_f, kL_eq_t, kL_eq_f, kI_m1, kI_m1', m1_m1, kI_n1, kI_n1', n1_add', eq_self, inb_t, kI_nat, kI_add, kI_mul, kI_sub, kI_div, kI_mod, kI_long, kL_add, kL_mul, kL_sub, kL_div, kL_mod, kL_int, n1_add, not_false_eq_true, not_true_eq_false, and_true, true_and, and_false, false_and, or_true, true_or, or_false, false_or, Nat.reduceEqDiff, IN, IM, rrI, h2]
  · unfold Rf_part Rf_part_30
    simp (disch := omega) only [↓nm_eq, ↓bd_x, bdx_s, ↓bx_x, bxx_r, bxx_l, ↓bn_x, bnx_r, chk_t, ↓reduceIte, q32, q64, kI_lt_t, kI_lt_f, kI_le_t, kI_le_f, kI_eq_t, kI_eq_f, kL_lt_t, kL_lt_f, kL_le_t, kL_le_f, kL_eq_t, kL_eq_f, kI_m1, kI_m1', m1_m1, kI_n1, kI_n1', n1_add', eq_self, inb_t, kI_nat, kI_add, kI_mul, kI_sub, kI_div, kI_mod, kI_long, kL_add, kL_mul, kL_sub, kL_div, kL_mod, kL_int, n1_add, not_false_eq_true, not_true_eq_false, and_true, true_and, and_false, false_and, or_true, true_or, or_false, false_or, Nat.reduceEqDiff, IN, IM, e, iI, h2]
theorem OP_part (hC : CR σ c) (hD : DL σ d) (h : IM x1 0 σ.s.b.n) (h2 : IN x2 0 2) : ∃ r, Cf_L_part c.n.count c.n.lengths c.n.fractions x1 x2 = some (.inr r) ∧ Rf_part d.m d.code x1 x2 = some (kI 0, r) := by
  have hn := hC.1.1.1.1
  have n1 := hC.2.1.1.1
  have n6 := hC.2.1.1.2.2.2.2.2.1
  have n7 := hC.2.1.1.2.2.2.2.2.2.1
  have m1 := hD.1.2.1
  have m2 := hD.1.2.2.1
  have e := ev_isPart (x1 := x1) hn hD.1.1
  rw [if_pos h] at e
  have hr := rnI (x := x1) (n := σ.s.b.n) (by omega)
  rw [if_pos h] at hr
  have s1 := rrI (x := x2) (a := 0) (b := 2) (by omega) (by omega)
  have s2 := iI (x := x2) (a := 0) (b := 2) (by omega) (by omega)
  rw [if_pos h2] at s1 s2
  obtain ⟨k, k1, k2, k3, k4⟩ := IM_nat h
  obtain ⟨w, w1, w2, w3, w4⟩ := IN_nat h2
  subst k2
  subst w2
  rw [kI_long w1] at s1 s2
  have hl := hC.1.1.1.2.1 k k4
  unfold Cf_L_part Cf_L_part_73 Rf_part Rf_part_30 Rf_part_69 Rf_part_73
  rw [n1]
  obtain rfl | rfl | rfl : w = 0 ∨ w = 1 ∨ w = 2 := by omega
  · exact ⟨kI (σ.s.b.ln k), by simp (disch := omega) only [↓nm_eq, ↓bd_x, bdx_s, ↓bx_x, bxx_r, bxx_l, ↓bn_x, bnx_r, chk_t, ↓reduceIte, q32, q64, kI_lt_t, kI_lt_f, kI_le_t, kI_le_f, kI_eq_t, kI_eq_f, kL_lt_t, kL_lt_f, kL_le_t, kL_le_f, kL_eq_t, kL_eq_f, kI_m1, kI_m1', m1_m1, kI_n1, kI_n1', n1_add', eq_self, inb_t, kI_nat, kI_add, kI_mul, kI_sub, kI_div, kI_mod, kI_long, kL_add, kL_mul, kL_sub, kL_div, kL_mod, kL_int, n1_add, not_false_eq_true, not_true_eq_false, and_true, true_and, and_false, false_and, or_true, true_or, or_false, false_or, Nat.reduceEqDiff, IN, IM, hr, s1, n6], by simp (disch := omega) only [↓nm_eq, ↓bd_x, bdx_s, ↓bx_x, bxx_r, bxx_l, ↓bn_x, bnx_r, chk_t, ↓reduceIte, q32, q64, kI_lt_t, kI_lt_f, kI_le_t, kI_le_f, kI_eq_t, kI_eq_f, kL_lt_t, kL_lt_f, kL_le_t, kL_le_f, kL_eq_t, kL_eq_f, kI_m1, kI_m1', m1_m1, kI_n1, kI_n1', n1_add', eq_self, inb_t, kI_nat, kI_add, kI_mul, kI_sub, kI_div, kI_mod, kI_long, kL_add, kL_mul, kL_sub, kL_div, kL_mod, kL_int, n1_add, not_false_eq_true, not_true_eq_false, and_true, true_and, and_false, false_and, or_true, true_or, or_false, false_or, Nat.reduceEqDiff, IN, IM, e, s2, m1]⟩
  · exact ⟨kI (σ.s.b.fr k), by simp (disch := omega) only [↓nm_eq, ↓bd_x, bdx_s, ↓bx_x, bxx_r, bxx_l, ↓bn_x, bnx_r, chk_t, ↓reduceIte, q32, q64, kI_lt_t, kI_lt_f, kI_le_t, kI_le_f, kI_eq_t, kI_eq_f, kL_lt_t, kL_lt_f, kL_le_t, kL_le_f, kL_eq_t, kL_eq_f, kI_m1, kI_m1', m1_m1, kI_n1, kI_n1', n1_add', eq_self, inb_t, kI_nat, kI_add, kI_mul, kI_sub, kI_div, kI_mod, kI_long, kL_add, kL_mul, kL_sub, kL_div, kL_mod, kL_int, n1_add, not_false_eq_true, not_true_eq_false, and_true, true_and, and_false, false_and, or_true, true_or, or_false, false_or, Nat.reduceEqDiff, IN, IM, hr, s1, n7], by simp (disch := omega) only [↓nm_eq, ↓bd_x, bdx_s, ↓bx_x, bxx_r, bxx_l, ↓bn_x, bnx_r, chk_t, ↓reduceIte, q32, q64, kI_lt_t, kI_lt_f, kI_le_t, kI_le_f, kI_eq_t, kI_eq_f, kL_lt_t, kL_lt_f, kL_le_t, kL_le_f, kL_eq_t, kL_eq_f, kI_m1, kI_m1', m1_m1, kI_n1, kI_n1', n1_add', eq_self, inb_t, kI_nat, kI_add, kI_mul, kI_sub, kI_div, kI_mod, kI_long, kL_add, kL_mul, kL_sub, kL_div, kL_mod, kL_int, n1_add, not_false_eq_true, not_true_eq_false, and_true, true_and, and_false, false_and, or_true, true_or, or_false, false_or, Nat.reduceEqDiff, IN, IM, e, s2, m2]⟩
  · exact ⟨kI (sm σ.s.b.ln (k + 1)), by simp (disch := omega) only [↓nm_eq, ↓bd_x, bdx_s, ↓bx_x, bxx_r, bxx_l, ↓bn_x, bnx_r, chk_t, ↓reduceIte, q32, q64, kI_lt_t, kI_lt_f, kI_le_t, kI_le_f, kI_eq_t, kI_eq_f, kL_lt_t, kL_lt_f, kL_le_t, kL_le_f, kL_eq_t, kL_eq_f, kI_m1, kI_m1', m1_m1, kI_n1, kI_n1', n1_add', eq_self, inb_t, kI_nat, kI_add, kI_mul, kI_sub, kI_div, kI_mod, kI_long, kL_add, kL_mul, kL_sub, kL_div, kL_mod, kL_int, n1_add, not_false_eq_true, not_true_eq_false, and_true, true_and, and_false, false_and, or_true, true_or, or_false, false_or, Nat.reduceEqDiff, IN, IM, hr, s1, ev_reachN (show k + 1 ≤ σ.s.b.n by omega) hn n6], by simp (disch := omega) only [↓nm_eq, ↓bd_x, bdx_s, ↓bx_x, bxx_r, bxx_l, ↓bn_x, bnx_r, chk_t, ↓reduceIte, q32, q64, kI_lt_t, kI_lt_f, kI_le_t, kI_le_f, kI_eq_t, kI_eq_f, kL_lt_t, kL_lt_f, kL_le_t, kL_le_f, kL_eq_t, kL_eq_f, kI_m1, kI_m1', m1_m1, kI_n1, kI_n1', n1_add', eq_self, inb_t, kI_nat, kI_add, kI_mul, kI_sub, kI_div, kI_mod, kI_long, kL_add, kL_mul, kL_sub, kL_div, kL_mod, kL_int, n1_add, not_false_eq_true, not_true_eq_false, and_true, true_and, and_false, false_and, or_true, true_or, or_false, false_or, Nat.reduceEqDiff, IN, IM, e, s2, ev_upTo hC.1.1.1 m1 k4]⟩
def bv (b : Bn) (i : Nat) : Nat := if i = 0 then b.n else if i = 1 then b.np else if i = 2 then b.ft else if i = 3 then b.ls else if i = 4 then b.wn else sm b.ln b.n
theorem ev_benchOf {s : Sx} (hs : s.OK) {m : Nat → Int64} (hm : RS s m) {i : Nat} (hi : i < 6) : Rf_benchOf m (kI i) = some (kI (bv s.b i)) := by
  obtain ⟨m0, m1, m2, m3, m4, m5, m6, m7, m8, m9, m10⟩ := hm
  unfold Rf_benchOf
  obtain rfl | rfl | rfl | rfl | rfl | rfl : i = 0 ∨ i = 1 ∨ i = 2 ∨ i = 3 ∨ i = 4 ∨ i = 5 := by omega
  · simp (disch := omega) only [↓nm_eq, ↓bd_x, bdx_s, ↓bx_x, bxx_r, bxx_l, ↓bn_x, bnx_r, chk_t, ↓reduceIte, q32, q64, kI_lt_t, kI_lt_f, kI_le_t, kI_le_f, kI_eq_t, kI_eq_f, kL_lt_t, kL_lt_f, kL_le_t, kL_le_f, kL_eq_t, kL_eq_f, kI_m1, kI_m1', m1_m1, kI_n1, kI_n1', n1_add', eq_self, inb_t, kI_nat, kI_add, kI_mul, kI_sub, kI_div, kI_mod, kI_long, kL_add, kL_mul, kL_sub, kL_div, kL_mod, kL_int, n1_add, not_false_eq_true, not_true_eq_false, and_true, true_and, and_false, false_and, or_true, true_or, or_false, false_or, Nat.reduceEqDiff, IN, IM, ev_parts m0]
    rfl
  · simp (disch := omega) only [↓nm_eq, ↓bd_x, bdx_s, ↓bx_x, bxx_r, bxx_l, ↓bn_x, bnx_r, chk_t, ↓reduceIte, q32, q64, kI_lt_t, kI_lt_f, kI_le_t, kI_le_f, kI_eq_t, kI_eq_f, kL_lt_t, kL_lt_f, kL_le_t, kL_le_f, kL_eq_t, kL_eq_f, kI_m1, kI_m1', m1_m1, kI_n1, kI_n1', n1_add', eq_self, inb_t, kI_nat, kI_add, kI_mul, kI_sub, kI_div, kI_mod, kI_long, kL_add, kL_mul, kL_sub, kL_div, kL_mod, kL_int, n1_add, not_false_eq_true, not_true_eq_false, and_true, true_and, and_false, false_and, or_true, true_or, or_false, false_or, Nat.reduceEqDiff, IN, IM, m6]
    rfl
  · simp (disch := omega) only [↓nm_eq, ↓bd_x, bdx_s, ↓bx_x, bxx_r, bxx_l, ↓bn_x, bnx_r, chk_t, ↓reduceIte, q32, q64, kI_lt_t, kI_lt_f, kI_le_t, kI_le_f, kI_eq_t, kI_eq_f, kL_lt_t, kL_lt_f, kL_le_t, kL_le_f, kL_eq_t, kL_eq_f, kI_m1, kI_m1', m1_m1, kI_n1, kI_n1', n1_add', eq_self, inb_t, kI_nat, kI_add, kI_mul, kI_sub, kI_div, kI_mod, kI_long, kL_add, kL_mul, kL_sub, kL_div, kL_mod, kL_int, n1_add, not_false_eq_true, not_true_eq_false, and_true, true_and, and_false, false_and, or_true, true_or, or_false, false_or, Nat.reduceEqDiff, IN, IM, m3]
    rfl
  · simp (disch := omega) only [↓nm_eq, ↓bd_x, bdx_s, ↓bx_x, bxx_r, bxx_l, ↓bn_x, bnx_r, chk_t, ↓reduceIte, q32, q64, kI_lt_t, kI_lt_f, kI_le_t, kI_le_f, kI_eq_t, kI_eq_f, kL_lt_t, kL_lt_f, kL_le_t, kL_le_f, kL_eq_t, kL_eq_f, kI_m1, kI_m1', m1_m1, kI_n1, kI_n1', n1_add', eq_self, inb_t, kI_nat, kI_add, kI_mul, kI_sub, kI_div, kI_mod, kI_long, kL_add, kL_mul, kL_sub, kL_div, kL_mod, kL_int, n1_add, not_false_eq_true, not_true_eq_false, and_true, true_and, and_false, false_and, or_true, true_or, or_false, false_or, Nat.reduceEqDiff, IN, IM, m4]
    rfl
  · simp (disch := omega) only [↓nm_eq, ↓bd_x, bdx_s, ↓bx_x, bxx_r, bxx_l, ↓bn_x, bnx_r, chk_t, ↓reduceIte, q32, q64, kI_lt_t, kI_lt_f, kI_le_t, kI_le_f, kI_eq_t, kI_eq_f, kL_lt_t, kL_lt_f, kL_le_t, kL_le_f, kL_eq_t, kL_eq_f, kI_m1, kI_m1', m1_m1, kI_n1, kI_n1', n1_add', eq_self, inb_t, kI_nat, kI_add, kI_mul, kI_sub, kI_div, kI_mod, kI_long, kL_add, kL_mul, kL_sub, kL_div, kL_mod, kL_int, n1_add, not_false_eq_true, not_true_eq_false, and_true, true_and, and_false, false_and, or_true, true_or, or_false, false_or, Nat.reduceEqDiff, IN, IM, m5]
    rfl
  · simp (disch := omega) only [↓nm_eq, ↓bd_x, bdx_s, ↓bx_x, bxx_r, bxx_l, ↓bn_x, bnx_r, chk_t, ↓reduceIte, q32, q64, kI_lt_t, kI_lt_f, kI_le_t, kI_le_f, kI_eq_t, kI_eq_f, kL_lt_t, kL_lt_f, kL_le_t, kL_le_f, kL_eq_t, kL_eq_f, kI_m1, kI_m1', m1_m1, kI_n1, kI_n1', n1_add', eq_self, inb_t, kI_nat, kI_add, kI_mul, kI_sub, kI_div, kI_mod, kI_long, kL_add, kL_mul, kL_sub, kL_div, kL_mod, kL_int, n1_add, not_false_eq_true, not_true_eq_false, and_true, true_and, and_false, false_and, or_true, true_or, or_false, false_or, Nat.reduceEqDiff, IN, IM, ev_sumOfLengths hs.1.1 m0 m1]
    rfl
theorem ev_benchC (hC : CR σ c) {i : Nat} (hi : i < 6) : Cf_L_bench c.n.count c.n.front c.n.least c.n.window c.n.pulses c.n.lengths (kI i) = some (.inr (kI (bv σ.s.b i))) := by
  obtain ⟨hO, hn, hh, hsc, hw, hp⟩ := hC
  obtain ⟨⟨n1, n2, n3, n4, n5, n6, n7, n8, n9⟩, n10, n11⟩ := hn
  have s1 := rrI (x := kI i) (a := 0) (b := 5) (by omega) (by omega)
  rw [kI_long (by omega), if_pos (show IN (kI i) 0 5 from IN_iff.mpr (by rw [kI_toInt (by omega)]; omega))] at s1
  unfold Cf_L_bench
  rw [n1, n2, n3, n4, n5]
  obtain rfl | rfl | rfl | rfl | rfl | rfl : i = 0 ∨ i = 1 ∨ i = 2 ∨ i = 3 ∨ i = 4 ∨ i = 5 := by omega
  · simp (disch := omega) only [↓nm_eq, ↓bd_x, bdx_s, ↓bx_x, bxx_r, bxx_l, ↓bn_x, bnx_r, chk_t, ↓reduceIte, q32, q64, kI_lt_t, kI_lt_f, kI_le_t, kI_le_f, kI_eq_t, kI_eq_f, kL_lt_t, kL_lt_f, kL_le_t, kL_le_f, kL_eq_t, kL_eq_f, kI_m1, kI_m1', m1_m1, kI_n1, kI_n1', n1_add', eq_self, inb_t, kI_nat, kI_add, kI_mul, kI_sub, kI_div, kI_mod, kI_long, kL_add, kL_mul, kL_sub, kL_div, kL_mod, kL_int, n1_add, not_false_eq_true, not_true_eq_false, and_true, true_and, and_false, false_and, or_true, true_or, or_false, false_or, Nat.reduceEqDiff, IN, IM, s1]
    rfl
  · simp (disch := omega) only [↓nm_eq, ↓bd_x, bdx_s, ↓bx_x, bxx_r, bxx_l, ↓bn_x, bnx_r, chk_t, ↓reduceIte, q32, q64, kI_lt_t, kI_lt_f, kI_le_t, kI_le_f, kI_eq_t, kI_eq_f, kL_lt_t, kL_lt_f, kL_le_t, kL_le_f, kL_eq_t, kL_eq_f, kI_m1, kI_m1', m1_m1, kI_n1, kI_n1', n1_add', eq_self, inb_t, kI_nat, kI_add, kI_mul, kI_sub, kI_div, kI_mod, kI_long, kL_add, kL_mul, kL_sub, kL_div, kL_mod, kL_int, n1_add, not_false_eq_true, not_true_eq_false, and_true, true_and, and_false, false_and, or_true, true_or, or_false, false_or, Nat.reduceEqDiff, IN, IM, s1]
    rfl
  · simp (disch := omega) only [↓nm_eq, ↓bd_x, bdx_s, ↓bx_x, bxx_r, bxx_l, ↓bn_x, bnx_r, chk_t, ↓reduceIte, q32, q64, kI_lt_t, kI_lt_f, kI_le_t, kI_le_f, kI_eq_t, kI_eq_f, kL_lt_t, kL_lt_f, kL_le_t, kL_le_f, kL_eq_t, kL_eq_f, kI_m1, kI_m1', m1_m1, kI_n1, kI_n1', n1_add', eq_self, inb_t, kI_nat, kI_add, kI_mul, kI_sub, kI_div, kI_mod, kI_long, kL_add, kL_mul, kL_sub, kL_div, kL_mod, kL_int, n1_add, not_false_eq_true, not_true_eq_false, and_true, true_and, and_false, false_and, or_true, true_or, or_false, false_or, Nat.reduceEqDiff, IN, IM, s1]
    rfl
  · simp (disch := omega) only [↓nm_eq, ↓bd_x, bdx_s, ↓bx_x, bxx_r, bxx_l, ↓bn_x, bnx_r, chk_t, ↓reduceIte, q32, q64, kI_lt_t, kI_lt_f, kI_le_t, kI_le_f, kI_eq_t, kI_eq_f, kL_lt_t, kL_lt_f, kL_le_t, kL_le_f, kL_eq_t, kL_eq_f, kI_m1, kI_m1', m1_m1, kI_n1, kI_n1', n1_add', eq_self, inb_t, kI_nat, kI_add, kI_mul, kI_sub, kI_div, kI_mod, kI_long, kL_add, kL_mul, kL_sub, kL_div, kL_mod, kL_int, n1_add, not_false_eq_true, not_true_eq_false, and_true, true_and, and_false, false_and, or_true, true_or, or_false, false_or, Nat.reduceEqDiff, IN, IM, s1]
    rfl
  · simp (disch := omega) only [↓nm_eq, ↓bd_x, bdx_s, ↓bx_x, bxx_r, bxx_l, ↓bn_x, bnx_r, chk_t, ↓reduceIte, q32, q64, kI_lt_t, kI_lt_f, kI_le_t, kI_le_f, kI_eq_t, kI_eq_f, kL_lt_t, kL_lt_f, kL_le_t, kL_le_f, kL_eq_t, kL_eq_f, kI_m1, kI_m1', m1_m1, kI_n1, kI_n1', n1_add', eq_self, inb_t, kI_nat, kI_add, kI_mul, kI_sub, kI_div, kI_mod, kI_long, kL_add, kL_mul, kL_sub, kL_div, kL_mod, kL_int, n1_add, not_false_eq_true, not_true_eq_false, and_true, true_and, and_false, false_and, or_true, true_or, or_false, false_or, Nat.reduceEqDiff, IN, IM, s1]
    rfl
  · simp (disch := omega) only [↓nm_eq, ↓bd_x, bdx_s, ↓bx_x, bxx_r, bxx_l, ↓bn_x, bnx_r, chk_t, ↓reduceIte, q32, q64, kI_lt_t, kI_lt_f, kI_le_t, kI_le_f, kI_eq_t, kI_eq_f, kL_lt_t, kL_lt_f, kL_le_t, kL_le_f, kL_eq_t, kL_eq_f, kI_m1, kI_m1', m1_m1, kI_n1, kI_n1', n1_add', eq_self, inb_t, kI_nat, kI_add, kI_mul, kI_sub, kI_div, kI_mod, kI_long, kL_add, kL_mul, kL_sub, kL_div, kL_mod, kL_int, n1_add, not_false_eq_true, not_true_eq_false, and_true, true_and, and_false, false_and, or_true, true_or, or_false, false_or, Nat.reduceEqDiff, IN, IM, s1, ev_reachN (Nat.le_refl _) hO.1.1.1 n6]
    rfl
theorem OP_bench_x (h : ¬ IN x1 0 5) : Cf_L_bench c.n.count c.n.front c.n.least c.n.window c.n.pulses c.n.lengths x1 = some (.inl 1) ∧ Rf_bench d.m d.code x1 = some (kI 1, kI 0) := by
  unfold Cf_L_bench Rf_bench Rf_bench_18 Rf_bench_37
  exact ⟨by simp (disch := omega) only [↓nm_eq, ↓bd_x, bdx_s, ↓bx_x, bxx_r, bxx_l, ↓bn_x, bnx_r, chk_t, ↓reduceIte, q32, q64, kI_lt_t, kI_lt_f, kI_le_t, kI_le_f, kI_eq_t, kI_eq_f, kL_lt_t, kL_lt_f, kL_le_t, kL_le_f, kL_eq_t, kL_eq_f, kI_m1, kI_m1', m1_m1, kI_n1, kI_n1', n1_add', eq_self, inb_t, kI_nat, kI_add, kI_mul, kI_sub, kI_div, kI_mod, kI_long, kL_add, kL_mul, kL_sub, kL_div, kL_mod, kL_int, n1_add, not_false_eq_true, not_true_eq_false, and_true, true_and, and_false, false_and, or_true, true_or, or_false, false_or, Nat.reduceEqDiff, IN, IM, rrI, h], by simp (disch := omega) only [↓nm_eq, ↓bd_x, bdx_s, ↓bx_x, bxx_r, bxx_l, ↓bn_x, bnx_r, chk_t, ↓reduceIte, q32, q64, kI_lt_t, kI_lt_f, kI_le_t, kI_le_f, kI_eq_t, kI_eq_f, kL_lt_t, kL_lt_f, kL_le_t, kL_le_f, kL_eq_t, kL_eq_f, kI_m1, kI_m1', m1_m1, kI_n1, kI_n1', n1_add', eq_self, inb_t, kI_nat, kI_add, kI_mul, kI_sub, kI_div, kI_mod, kI_long, kL_add, kL_mul, kL_sub, kL_div, kL_mod, kL_int, n1_add, not_false_eq_true, not_true_eq_false, and_true, true_and, and_false, false_and, or_true, true_or, or_false, false_or, Nat.reduceEqDiff, IN, IM, iI, h]⟩
theorem OP_bench (hC : CR σ c) (hD : DL σ d) (h : IN x1 0 5) : ∃ r, Cf_L_bench c.n.count c.n.front c.n.least c.n.window c.n.pulses c.n.lengths x1 = some (.inr r) ∧ Rf_bench d.m d.code x1 = some (kI 0, r) := by
  have s2 := iI (x := x1) (a := 0) (b := 5) (by omega) (by omega)
  rw [if_pos h] at s2
  obtain ⟨w, w1, w2, w3, w4⟩ := IN_nat h
  subst w2
  rw [kI_long w1] at s2
  refine ⟨_, ev_benchC hC (by omega), ?_⟩
  unfold Rf_bench Rf_bench_18 Rf_bench_37
  simp (disch := omega) only [↓nm_eq, ↓bd_x, bdx_s, ↓bx_x, bxx_r, bxx_l, ↓bn_x, bnx_r, chk_t, ↓reduceIte, q32, q64, kI_lt_t, kI_lt_f, kI_le_t, kI_le_f, kI_eq_t, kI_eq_f, kL_lt_t, kL_lt_f, kL_le_t, kL_le_f, kL_eq_t, kL_eq_f, kI_m1, kI_m1', m1_m1, kI_n1, kI_n1', n1_add', eq_self, inb_t, kI_nat, kI_add, kI_mul, kI_sub, kI_div, kI_mod, kI_long, kL_add, kL_mul, kL_sub, kL_div, kL_mod, kL_int, n1_add, not_false_eq_true, not_true_eq_false, and_true, true_and, and_false, false_and, or_true, true_or, or_false, false_or, Nat.reduceEqDiff, IN, IM, s2, ev_benchOf hC.1.1 hD.1 (show w < 6 by omega)]
theorem OP_observed_x (h : ¬ IN x1 0 200) : Cf_L_observed c.n.seen x1 = some (.inl 1) ∧ Rf_observed d.m d.code x1 = some (kI 1, kL 0) := by
  unfold Cf_L_observed Rf_observed Rf_observed_18 Rf_observed_42
  exact ⟨by simp (disch := omega) only [↓nm_eq, ↓bd_x, bdx_s, ↓bx_x, bxx_r, bxx_l, ↓bn_x, bnx_r, chk_t, ↓reduceIte, q32, q64, kI_lt_t, kI_lt_f, kI_le_t, kI_le_f, kI_eq_t, kI_eq_f, kL_lt_t, kL_lt_f, kL_le_t, kL_le_f, kL_eq_t, kL_eq_f, kI_m1, kI_m1', m1_m1, kI_n1, kI_n1', n1_add', eq_self, inb_t, kI_nat, kI_add, kI_mul, kI_sub, kI_div, kI_mod, kI_long, kL_add, kL_mul, kL_sub, kL_div, kL_mod, kL_int, n1_add, not_false_eq_true, not_true_eq_false, and_true, true_and, and_false, false_and, or_true, true_or, or_false, false_or, Nat.reduceEqDiff, IN, IM, rrI, h], by simp (disch := omega) only [↓nm_eq, ↓bd_x, bdx_s, ↓bx_x, bxx_r, bxx_l, ↓bn_x, bnx_r, chk_t, ↓reduceIte, q32, q64, kI_lt_t, kI_lt_f, kI_le_t, kI_le_f, kI_eq_t, kI_eq_f, kL_lt_t, kL_lt_f, kL_le_t, kL_le_f, kL_eq_t, kL_eq_f, kI_m1, kI_m1', m1_m1, kI_n1, kI_n1', n1_add', eq_self, inb_t, kI_nat, kI_add, kI_mul, kI_sub, kI_div, kI_mod, kI_long, kL_add, kL_mul, kL_sub, kL_div, kL_mod, kL_int, n1_add, not_false_eq_true, not_true_eq_false, and_true, true_and, and_false, false_and, or_true, true_or, or_false, false_or, Nat.reduceEqDiff, IN, IM, iI, h]⟩
theorem OP_observed (hC : CR σ c) (hD : DL σ d) (h : IN x1 0 200) : ∃ r, Cf_L_observed c.n.seen x1 = some (.inr r) ∧ Rf_observed d.m d.code x1 = some (kI 0, r) := by
  have s1 := rrI (x := x1) (a := 0) (b := 200) (by omega) (by omega)
  have s2 := iI (x := x1) (a := 0) (b := 200) (by omega) (by omega)
  rw [if_pos h] at s1 s2
  obtain ⟨w, w1, w2, w3, w4⟩ := IN_nat h
  subst w2
  rw [kI_long w1] at s1 s2
  have n11 := hC.2.1.2.2
  have m10 := hD.1.2.2.2.2.2.2.2.2.2.2
  unfold Cf_L_observed Rf_observed Rf_observed_18 Rf_observed_42
  exact ⟨kL (σ.s.se w), by simp (disch := omega) only [↓nm_eq, ↓bd_x, bdx_s, ↓bx_x, bxx_r, bxx_l, ↓bn_x, bnx_r, chk_t, ↓reduceIte, q32, q64, kI_lt_t, kI_lt_f, kI_le_t, kI_le_f, kI_eq_t, kI_eq_f, kL_lt_t, kL_lt_f, kL_le_t, kL_le_f, kL_eq_t, kL_eq_f, kI_m1, kI_m1', m1_m1, kI_n1, kI_n1', n1_add', eq_self, inb_t, kI_nat, kI_add, kI_mul, kI_sub, kI_div, kI_mod, kI_long, kL_add, kL_mul, kL_sub, kL_div, kL_mod, kL_int, n1_add, not_false_eq_true, not_true_eq_false, and_true, true_and, and_false, false_and, or_true, true_or, or_false, false_or, Nat.reduceEqDiff, IN, IM, s1, n11], by simp (disch := omega) only [↓nm_eq, ↓bd_x, bdx_s, ↓bx_x, bxx_r, bxx_l, ↓bn_x, bnx_r, chk_t, ↓reduceIte, q32, q64, kI_lt_t, kI_lt_f, kI_le_t, kI_le_f, kI_eq_t, kI_eq_f, kL_lt_t, kL_lt_f, kL_le_t, kL_le_f, kL_eq_t, kL_eq_f, kI_m1, kI_m1', m1_m1, kI_n1, kI_n1', n1_add', eq_self, inb_t, kI_nat, kI_add, kI_mul, kI_sub, kI_div, kI_mod, kI_long, kL_add, kL_mul, kL_sub, kL_div, kL_mod, kL_int, n1_add, not_false_eq_true, not_true_eq_false, and_true, true_and, and_false, false_and, or_true, true_or, or_false, false_or, Nat.reduceEqDiff, IN, IM, s2, m10]⟩
end OPS4
