section OPS3
variable {σ : SS} {c : CK} {d : RK} {x1 x2 x3 : Int32}
section REDS
variable {s : Sx} (hs : s.OK) {m : Nat → Int64} (hm : RS s m)
theorem R_adds (hs : s.OK) (hm : RS s m) (hv : vd 0 s.b x1 x2 x3 = 0) : ∃ m', Rf_addsPart m x1 x2 = some (m', an 0 s.b x1) ∧ RS (s.wb (eb 0 s.b x1 x2 x3)) m' := by
  unfold vd vAdd at hv
  unfold eb an
  rw [if_pos rfl] at hv
  rw [if_pos rfl, if_pos rfl]
  by_cases w : IN x1 1 20 ∧ IN x2 0 1000
  · rw [if_pos w] at hv
    by_cases w2 : s.b.n = 8
    · rw [if_pos w2] at hv; omega
    · obtain ⟨a, a1, a2, a3, a4⟩ := IN_nat w.1
      obtain ⟨b, b1, b2, b3, b4⟩ := IN_nat w.2
      subst a2
      subst b2
      rw [kI_nat a1, kI_nat b1]
      exact ev_addsPart hs hm (by have := hs.1.1; omega) a4 b4
  · rw [if_neg w] at hv; omega
theorem R_sets (hs : s.OK) (hm : RS s m) (hv : vd 1 s.b x1 x2 x3 = 0) : ∃ m', Rf_setsPart m x1 x2 x3 = some (m', an 1 s.b x1) ∧ RS (s.wb (eb 1 s.b x1 x2 x3)) m' := by
  unfold vd vSet at hv
  unfold eb an
  rw [if_neg (by omega), if_pos rfl] at hv
  rw [if_neg (by omega), if_pos rfl, if_neg (by omega), if_pos rfl]
  by_cases w0 : IM x1 0 s.b.n
  · rw [if_pos w0] at hv
    by_cases w : IN x2 1 20 ∧ IN x3 0 1000
    · obtain ⟨k0, k1, k2, k3, k4⟩ := IM_nat w0
      obtain ⟨a, a1, a2, a3, a4⟩ := IN_nat w.1
      obtain ⟨b, b1, b2, b3, b4⟩ := IN_nat w.2
      subst k2
      subst a2
      subst b2
      rw [kI_nat a1, kI_nat b1, kI_nat k1]
      exact ev_setsPart hs hm k4 a4 b4
    · rw [if_neg w] at hv; omega
  · rw [if_neg w0] at hv; omega
theorem R_cut (hs : s.OK) (hm : RS s m) (hv : vd 2 s.b x1 x2 x3 = 0) : ∃ m', Rf_removesPart m x1 = some (m', an 2 s.b x1) ∧ RS (s.wb (eb 2 s.b x1 x2 x3)) m' := by
  unfold vd vCut at hv
  unfold eb an
  rw [if_neg (by omega), if_neg (by omega), if_pos rfl] at hv
  rw [if_neg (by omega), if_neg (by omega), if_pos rfl, if_neg (by omega), if_neg (by omega), if_pos rfl]
  by_cases w0 : IM x1 0 s.b.n
  · obtain ⟨k0, k1, k2, k3, k4⟩ := IM_nat w0
    subst k2
    rw [kI_nat k1]
    exact ev_removesPart hs hm k4
  · rw [if_neg w0] at hv; omega
theorem R_spl (hs : s.OK) (hm : RS s m) (hv : vd 3 s.b x1 x2 x3 = 0) : ∃ m', Rf_splitsPart m x1 x2 x3 = some (m', an 3 s.b x1) ∧ RS (s.wb (eb 3 s.b x1 x2 x3)) m' := by
  unfold vd vSpl at hv
  unfold eb an
  rw [if_neg (by omega), if_neg (by omega), if_neg (by omega), if_pos rfl] at hv
  rw [if_neg (by omega), if_neg (by omega), if_neg (by omega), if_pos rfl, if_neg (by omega), if_neg (by omega), if_neg (by omega), if_pos rfl]
  by_cases w0 : IM x1 0 s.b.n
  · rw [if_pos w0] at hv
    by_cases w : IM x2 1 (s.b.ln x1.toNatClampNeg) ∧ IN x3 0 1000
    · rw [if_pos w] at hv
      by_cases w2 : s.b.n = 8
      · rw [if_pos w2] at hv; omega
      · obtain ⟨k0, k1, k2, k3, k4⟩ := IM_nat w0
        obtain ⟨a, a1, a2, a3, a4⟩ := IM_nat w.1
        obtain ⟨b, b1, b2, b3, b4⟩ := IN_nat w.2
        subst k2
        subst a2
        subst b2
        rw [kI_nat k1] at a4
        rw [kI_nat a1, kI_nat b1, kI_nat k1]
        exact ev_splitsPart hs hm k4 (by have := hs.1.1; omega) a4 b4
    · rw [if_neg w] at hv; omega
  · rw [if_neg w0] at hv; omega
theorem R_pul (hs : s.OK) (hm : RS s m) (hv : vd 4 s.b x1 x2 x3 = 0) : ∃ m', Rf_addsPulse m x1 x2 = some (m', an 4 s.b x1) ∧ RS (s.wb (eb 4 s.b x1 x2 x3)) m' := by
  unfold vd vPul at hv
  unfold eb an
  rw [if_neg (by omega), if_neg (by omega), if_neg (by omega), if_neg (by omega), if_pos rfl] at hv
  rw [if_neg (by omega), if_neg (by omega), if_neg (by omega), if_neg (by omega), if_neg (by omega), if_neg (by omega), if_neg (by omega), if_neg (by omega)]
  by_cases w : IN x1 0 100 ∧ IN x2 1 1000000
  · rw [if_pos w] at hv
    by_cases w2 : s.b.np = 4
    · rw [if_pos w2] at hv; omega
    · obtain ⟨a, a1, a2, a3, a4⟩ := IN_nat w.1
      obtain ⟨b, b1, b2, b3, b4⟩ := IN_nat w.2
      subst a2
      subst b2
      rw [kI_nat a1, kI_nat b1]
      exact ev_addsPulse hs hm (by have : s.b.np ≤ 4 := hs.1.2.2.2.2.2.2.1; omega) a4 b4
  · rw [if_neg w] at hv; omega
theorem W_add (hs : s.OK) (hm : RS s m) (x3 : Int32) : Rf_whyNoPart m x1 x2 = some (kI (cA (vd 0 s.b x1 x2 x3))) := ev_wAdd hs.1 hm.1
theorem W_set (hs : s.OK) (hm : RS s m) : Rf_whyNotSet m x1 x2 x3 = some (kI (vd 1 s.b x1 x2 x3)) := ev_wSet hs.1 hm.1
theorem W_cut (hs : s.OK) (hm : RS s m) (x2 x3 : Int32) : Rf_isPart m x1 = some (if vd 2 s.b x1 x2 x3 = 0 then kI 1 else kI 0) := by
  rw [ev_isPart hs.1.1 hm.1]
  refine congrArg some (ite_cg ?_)
  show _ ↔ vCut s.b x1 = 0
  unfold vCut
  by_cases w : IM x1 0 s.b.n
  · rw [if_pos w]; exact ⟨fun _ => rfl, fun _ => w⟩
  · rw [if_neg w]; exact ⟨fun q => absurd q w, fun q => absurd q (by omega)⟩
theorem W_spl (hs : s.OK) (hm : RS s m) : Rf_whyNotSplit m x1 x2 x3 = some (kI (vd 3 s.b x1 x2 x3)) := ev_wSpl hs.1 hm.1 hm.2.1
theorem W_pul (hs : s.OK) (hm : RS s m) (x3 : Int32) : Rf_whyNoPulse m x1 x2 = some (kI (cA (vd 4 s.b x1 x2 x3))) := ev_wPul hs.1 hm.2.2.2.2.2.2.1
end REDS

theorem OP_addPart_x (hC : CR σ c) (hD : DL σ d) {v : Nat} (hv : vd 0 σ.s.b x1 x2 (kI 0) = v + 1) : Cf_L_addPart c.waveIsFresh c.peelingIsFresh c.n.count c.n.front c.n.least c.n.window c.n.pulses c.n.lengths c.n.fractions c.n.pulseTimes c.n.pulseEnergies c.n.sound c.n.seen c.hcount c.hp c.h0.count c.h0.front c.h0.least c.h0.window c.h0.pulses c.h0.lengths c.h0.fractions c.h0.pulseTimes c.h0.pulseEnergies c.h0.sound c.h0.seen c.h1.count c.h1.front c.h1.least c.h1.window c.h1.pulses c.h1.lengths c.h1.fractions c.h1.pulseTimes c.h1.pulseEnergies c.h1.sound c.h1.seen c.h2.count c.h2.front c.h2.least c.h2.window c.h2.pulses c.h2.lengths c.h2.fractions c.h2.pulseTimes c.h2.pulseEnergies c.h2.sound c.h2.seen x1 x2 = some (.inl v) ∧ Rf_addPart d.m d.saved d.savedCount d.code x1 x2 = some (d.m, d.saved, d.savedCount, kI (cA (v + 1)), kI 0) := by
  have h3 := vd_3 0 σ.s.b x1 x2 (kI 0)
  constructor
  · unfold Cf_L_addPart
    have e : Cf_L_change c.waveIsFresh c.peelingIsFresh c.n.count c.n.front c.n.least c.n.window c.n.pulses c.n.lengths c.n.fractions c.n.pulseTimes c.n.pulseEnergies c.n.sound c.n.seen c.hcount c.hp c.h0.count c.h0.front c.h0.least c.h0.window c.h0.pulses c.h0.lengths c.h0.fractions c.h0.pulseTimes c.h0.pulseEnergies c.h0.sound c.h0.seen c.h1.count c.h1.front c.h1.least c.h1.window c.h1.pulses c.h1.lengths c.h1.fractions c.h1.pulseTimes c.h1.pulseEnergies c.h1.sound c.h1.seen c.h2.count c.h2.front c.h2.least c.h2.window c.h2.pulses c.h2.lengths c.h2.fractions c.h2.pulseTimes c.h2.pulseEnergies c.h2.sound c.h2.seen 0 x1 x2 (kI 0) = some (.inl v) := op_changeX hC (by omega) hv
    simp (disch := omega) only [↓nm_eq, ↓bd_x, bdx_s, ↓bx_x, bxx_r, bxx_l, ↓bn_x, bnx_r, chk_t, ↓reduceIte, q32, q64, kI_lt_t, kI_lt_f, kI_le_t, kI_le_f, kI_eq_t, kI_eq_f, kL_lt_t, kL_lt_f, kL_le_t, kL_le_f, kL_eq_t, kL_eq_f, kI_m1, kI_m1', m1_m1, kI_n1, kI_n1', n1_add', eq_self, inb_t, kI_nat, kI_add, kI_mul, kI_sub, kI_div, kI_mod, kI_long, kL_add, kL_mul, kL_sub, kL_div, kL_mod, kL_int, n1_add, not_false_eq_true, not_true_eq_false, and_true, true_and, and_false, false_and, or_true, true_or, or_false, false_or, Nat.reduceEqDiff, IN, IM, e]
  · have e := W_add (x1 := x1) (x2 := x2) hC.1.1 hD.1 (kI 0)
    rw [hv] at e
    unfold Rf_addPart
    rw [e, bd_s]
    obtain rfl | rfl | rfl : v = 0 ∨ v = 1 ∨ v = 2 := by omega
    · exfalso
      unfold vd vAdd at hv
      revert hv
      repeat' split
      all_goals omega
    · rfl
    · rfl
theorem OP_addPart (hC : CR σ c) (hD : DL σ d) (hv : vd 0 σ.s.b x1 x2 (kI 0) = 0) : ∃ (r : Int32) (cn np : Int32) (ℓ φ pt pe : Nat → Int32) (hp' : Nat → Nat) (g0 g1 g2 : SC) (m' sv' : Nat → Int64), Cf_L_addPart c.waveIsFresh c.peelingIsFresh c.n.count c.n.front c.n.least c.n.window c.n.pulses c.n.lengths c.n.fractions c.n.pulseTimes c.n.pulseEnergies c.n.sound c.n.seen c.hcount c.hp c.h0.count c.h0.front c.h0.least c.h0.window c.h0.pulses c.h0.lengths c.h0.fractions c.h0.pulseTimes c.h0.pulseEnergies c.h0.sound c.h0.seen c.h1.count c.h1.front c.h1.least c.h1.window c.h1.pulses c.h1.lengths c.h1.fractions c.h1.pulseTimes c.h1.pulseEnergies c.h1.sound c.h1.seen c.h2.count c.h2.front c.h2.least c.h2.window c.h2.pulses c.h2.lengths c.h2.fractions c.h2.pulseTimes c.h2.pulseEnergies c.h2.sound c.h2.seen x1 x2 = some (.inr (kI 0, kI 0, cn, np, ℓ, φ, pt, pe, kI (pk σ.k), hp', g0.count, g0.front, g0.least, g0.window, g0.pulses, g0.lengths, g0.fractions, g0.pulseTimes, g0.pulseEnergies, g0.sound, g0.seen, g1.count, g1.front, g1.least, g1.window, g1.pulses, g1.lengths, g1.fractions, g1.pulseTimes, g1.pulseEnergies, g1.sound, g1.seen, g2.count, g2.front, g2.least, g2.window, g2.pulses, g2.lengths, g2.fractions, g2.pulseTimes, g2.pulseEnergies, g2.sound, g2.seen, r)) ∧ Rf_addPart d.m d.saved d.savedCount d.code x1 x2 = some (m', sv', kI (pk σ.k), kI 0, r) ∧ CR (σ.ch (σ.s.wb (eb 0 σ.s.b x1 x2 (kI 0)))) (CK.mk (kI 0) (kI 0) (SC.mk cn c.n.front c.n.least c.n.window np ℓ φ pt pe c.n.sound c.n.seen) (kI (pk σ.k)) hp' g0 g1 g2 c.s_length c.s_command c.s_position c.s_fault c.s_bytes c.s_numbers c.w_near c.w_far c.w_echoes c.w_totals c.p_result c.p_endTime c.q c.t_near c.t_far c.t_echoes c.t_totals) ∧ DL (σ.ch (σ.s.wb (eb 0 σ.s.b x1 x2 (kI 0)))) (RK.mk m' sv' (kI (pk σ.k)) d.script d.scriptLength (kI 0) d.lineParts d.lengths d.fractions d.pulseMany d.times d.energies d.far d.near d.echoes d.left d.dropped d.merged d.drops d.contributions d.packet d.peelResult d.peelTime d.peelSum d.at_ d.commands d.draft d.hash) := by
  obtain ⟨cn, np, ℓ, φ, pt, pe, hp', g0, g1, g2, e1, q1, q2⟩ := op_change hC (by omega) hv
  obtain ⟨sv', e2, q3⟩ := op_keepR hC.1 hD
  obtain ⟨m', e3, q4⟩ := R_adds hC.1.1 hD.1 hv
  refine ⟨an 0 σ.s.b x1, cn, np, ℓ, φ, pt, pe, hp', g0, g1, g2, m', sv', ?_, ?_, q2, DL_ch hD q4 q3 (kI 0)⟩
  · unfold Cf_L_addPart
    simp (disch := omega) only [↓nm_eq, ↓bd_x, bdx_s, ↓bx_x, bxx_r, bxx_l, ↓bn_x, bnx_r, chk_t, ↓reduceIte, q32, q64, kI_lt_t, kI_lt_f, kI_le_t, kI_le_f, kI_eq_t, kI_eq_f, kL_lt_t, kL_lt_f, kL_le_t, kL_le_f, kL_eq_t, kL_eq_f, kI_m1, kI_m1', m1_m1, kI_n1, kI_n1', n1_add', eq_self, inb_t, kI_nat, kI_add, kI_mul, kI_sub, kI_div, kI_mod, kI_long, kL_add, kL_mul, kL_sub, kL_div, kL_mod, kL_int, n1_add, not_false_eq_true, not_true_eq_false, and_true, true_and, and_false, false_and, or_true, true_or, or_false, false_or, Nat.reduceEqDiff, IN, IM, e1]
  · have e := W_add (x1 := x1) (x2 := x2) hC.1.1 hD.1 (kI 0)
    rw [hv] at e
    unfold Rf_addPart
    have c0 : cA 0 = 0 := rfl
    rw [c0] at e
    simp (disch := omega) only [↓nm_eq, ↓bd_x, bdx_s, ↓bx_x, bxx_r, bxx_l, ↓bn_x, bnx_r, chk_t, ↓reduceIte, q32, q64, kI_lt_t, kI_lt_f, kI_le_t, kI_le_f, kI_eq_t, kI_eq_f, kL_lt_t, kL_lt_f, kL_le_t, kL_le_f, kL_eq_t, kL_eq_f, kI_m1, kI_m1', m1_m1, kI_n1, kI_n1', n1_add', eq_self, inb_t, kI_nat, kI_add, kI_mul, kI_sub, kI_div, kI_mod, kI_long, kL_add, kL_mul, kL_sub, kL_div, kL_mod, kL_int, n1_add, not_false_eq_true, not_true_eq_false, and_true, true_and, and_false, false_and, or_true, true_or, or_false, false_or, Nat.reduceEqDiff, IN, IM, e, e2, e3]

theorem OP_setPart_x (hC : CR σ c) (hD : DL σ d) {v : Nat} (hv : vd 1 σ.s.b x1 x2 x3 = v + 1) : Cf_L_setPart c.waveIsFresh c.peelingIsFresh c.n.count c.n.front c.n.least c.n.window c.n.pulses c.n.lengths c.n.fractions c.n.pulseTimes c.n.pulseEnergies c.n.sound c.n.seen c.hcount c.hp c.h0.count c.h0.front c.h0.least c.h0.window c.h0.pulses c.h0.lengths c.h0.fractions c.h0.pulseTimes c.h0.pulseEnergies c.h0.sound c.h0.seen c.h1.count c.h1.front c.h1.least c.h1.window c.h1.pulses c.h1.lengths c.h1.fractions c.h1.pulseTimes c.h1.pulseEnergies c.h1.sound c.h1.seen c.h2.count c.h2.front c.h2.least c.h2.window c.h2.pulses c.h2.lengths c.h2.fractions c.h2.pulseTimes c.h2.pulseEnergies c.h2.sound c.h2.seen x1 x2 x3 = some (.inl v) ∧ Rf_setPart d.m d.saved d.savedCount d.code x1 x2 x3 = some (d.m, d.saved, d.savedCount, kI (v + 1), kI 0) := by
  have h3 := vd_3 1 σ.s.b x1 x2 x3
  constructor
  · unfold Cf_L_setPart
    have e : Cf_L_change c.waveIsFresh c.peelingIsFresh c.n.count c.n.front c.n.least c.n.window c.n.pulses c.n.lengths c.n.fractions c.n.pulseTimes c.n.pulseEnergies c.n.sound c.n.seen c.hcount c.hp c.h0.count c.h0.front c.h0.least c.h0.window c.h0.pulses c.h0.lengths c.h0.fractions c.h0.pulseTimes c.h0.pulseEnergies c.h0.sound c.h0.seen c.h1.count c.h1.front c.h1.least c.h1.window c.h1.pulses c.h1.lengths c.h1.fractions c.h1.pulseTimes c.h1.pulseEnergies c.h1.sound c.h1.seen c.h2.count c.h2.front c.h2.least c.h2.window c.h2.pulses c.h2.lengths c.h2.fractions c.h2.pulseTimes c.h2.pulseEnergies c.h2.sound c.h2.seen 1 x1 x2 x3 = some (.inl v) := op_changeX hC (by omega) hv
    simp (disch := omega) only [↓nm_eq, ↓bd_x, bdx_s, ↓bx_x, bxx_r, bxx_l, ↓bn_x, bnx_r, chk_t, ↓reduceIte, q32, q64, kI_lt_t, kI_lt_f, kI_le_t, kI_le_f, kI_eq_t, kI_eq_f, kL_lt_t, kL_lt_f, kL_le_t, kL_le_f, kL_eq_t, kL_eq_f, kI_m1, kI_m1', m1_m1, kI_n1, kI_n1', n1_add', eq_self, inb_t, kI_nat, kI_add, kI_mul, kI_sub, kI_div, kI_mod, kI_long, kL_add, kL_mul, kL_sub, kL_div, kL_mod, kL_int, n1_add, not_false_eq_true, not_true_eq_false, and_true, true_and, and_false, false_and, or_true, true_or, or_false, false_or, Nat.reduceEqDiff, IN, IM, e]
  · have e := W_set (x1 := x1) (x2 := x2) (x3 := x3) hC.1.1 hD.1
    rw [hv] at e
    unfold Rf_setPart
    rw [e, bd_s]
    obtain rfl | rfl | rfl : v = 0 ∨ v = 1 ∨ v = 2 := by omega
    · rfl
    · rfl
    · rfl
theorem OP_setPart (hC : CR σ c) (hD : DL σ d) (hv : vd 1 σ.s.b x1 x2 x3 = 0) : ∃ (r : Int32) (cn np : Int32) (ℓ φ pt pe : Nat → Int32) (hp' : Nat → Nat) (g0 g1 g2 : SC) (m' sv' : Nat → Int64), Cf_L_setPart c.waveIsFresh c.peelingIsFresh c.n.count c.n.front c.n.least c.n.window c.n.pulses c.n.lengths c.n.fractions c.n.pulseTimes c.n.pulseEnergies c.n.sound c.n.seen c.hcount c.hp c.h0.count c.h0.front c.h0.least c.h0.window c.h0.pulses c.h0.lengths c.h0.fractions c.h0.pulseTimes c.h0.pulseEnergies c.h0.sound c.h0.seen c.h1.count c.h1.front c.h1.least c.h1.window c.h1.pulses c.h1.lengths c.h1.fractions c.h1.pulseTimes c.h1.pulseEnergies c.h1.sound c.h1.seen c.h2.count c.h2.front c.h2.least c.h2.window c.h2.pulses c.h2.lengths c.h2.fractions c.h2.pulseTimes c.h2.pulseEnergies c.h2.sound c.h2.seen x1 x2 x3 = some (.inr (kI 0, kI 0, cn, np, ℓ, φ, pt, pe, kI (pk σ.k), hp', g0.count, g0.front, g0.least, g0.window, g0.pulses, g0.lengths, g0.fractions, g0.pulseTimes, g0.pulseEnergies, g0.sound, g0.seen, g1.count, g1.front, g1.least, g1.window, g1.pulses, g1.lengths, g1.fractions, g1.pulseTimes, g1.pulseEnergies, g1.sound, g1.seen, g2.count, g2.front, g2.least, g2.window, g2.pulses, g2.lengths, g2.fractions, g2.pulseTimes, g2.pulseEnergies, g2.sound, g2.seen, r)) ∧ Rf_setPart d.m d.saved d.savedCount d.code x1 x2 x3 = some (m', sv', kI (pk σ.k), kI 0, r) ∧ CR (σ.ch (σ.s.wb (eb 1 σ.s.b x1 x2 x3))) (CK.mk (kI 0) (kI 0) (SC.mk cn c.n.front c.n.least c.n.window np ℓ φ pt pe c.n.sound c.n.seen) (kI (pk σ.k)) hp' g0 g1 g2 c.s_length c.s_command c.s_position c.s_fault c.s_bytes c.s_numbers c.w_near c.w_far c.w_echoes c.w_totals c.p_result c.p_endTime c.q c.t_near c.t_far c.t_echoes c.t_totals) ∧ DL (σ.ch (σ.s.wb (eb 1 σ.s.b x1 x2 x3))) (RK.mk m' sv' (kI (pk σ.k)) d.script d.scriptLength (kI 0) d.lineParts d.lengths d.fractions d.pulseMany d.times d.energies d.far d.near d.echoes d.left d.dropped d.merged d.drops d.contributions d.packet d.peelResult d.peelTime d.peelSum d.at_ d.commands d.draft d.hash) := by
  obtain ⟨cn, np, ℓ, φ, pt, pe, hp', g0, g1, g2, e1, q1, q2⟩ := op_change hC (by omega) hv
  obtain ⟨sv', e2, q3⟩ := op_keepR hC.1 hD
  obtain ⟨m', e3, q4⟩ := R_sets hC.1.1 hD.1 hv
  refine ⟨an 1 σ.s.b x1, cn, np, ℓ, φ, pt, pe, hp', g0, g1, g2, m', sv', ?_, ?_, q2, DL_ch hD q4 q3 (kI 0)⟩
  · unfold Cf_L_setPart
    simp (disch := omega) only [↓nm_eq, ↓bd_x, bdx_s, ↓bx_x, bxx_r, bxx_l, ↓bn_x, bnx_r, chk_t, ↓reduceIte, q32, q64, kI_lt_t, kI_lt_f, kI_le_t, kI_le_f, kI_eq_t, kI_eq_f, kL_lt_t, kL_lt_f, kL_le_t, kL_le_f, kL_eq_t, kL_eq_f, kI_m1, kI_m1', m1_m1, kI_n1, kI_n1', n1_add', eq_self, inb_t, kI_nat, kI_add, kI_mul, kI_sub, kI_div, kI_mod, kI_long, kL_add, kL_mul, kL_sub, kL_div, kL_mod, kL_int, n1_add, not_false_eq_true, not_true_eq_false, and_true, true_and, and_false, false_and, or_true, true_or, or_false, false_or, Nat.reduceEqDiff, IN, IM, e1]
  · have e := W_set (x1 := x1) (x2 := x2) (x3 := x3) hC.1.1 hD.1
    rw [hv] at e
    unfold Rf_setPart
    simp (disch := omega) only [↓nm_eq, ↓bd_x, bdx_s, ↓bx_x, bxx_r, bxx_l, ↓bn_x, bnx_r, chk_t, ↓reduceIte, q32, q64, kI_lt_t, kI_lt_f, kI_le_t, kI_le_f, kI_eq_t, kI_eq_f, kL_lt_t, kL_lt_f, kL_le_t, kL_le_f, kL_eq_t, kL_eq_f, kI_m1, kI_m1', m1_m1, kI_n1, kI_n1', n1_add', eq_self, inb_t, kI_nat, kI_add, kI_mul, kI_sub, kI_div, kI_mod, kI_long, kL_add, kL_mul, kL_sub, kL_div, kL_mod, kL_int, n1_add, not_false_eq_true, not_true_eq_false, and_true, true_and, and_false, false_and, or_true, true_or, or_false, false_or, Nat.reduceEqDiff, IN, IM, e, e2, e3]

theorem OP_removePart_x (hC : CR σ c) (hD : DL σ d) {v : Nat} (hv : vd 2 σ.s.b x1 (kI 0) (kI 0) = v + 1) : Cf_L_removePart c.waveIsFresh c.peelingIsFresh c.n.count c.n.front c.n.least c.n.window c.n.pulses c.n.lengths c.n.fractions c.n.pulseTimes c.n.pulseEnergies c.n.sound c.n.seen c.hcount c.hp c.h0.count c.h0.front c.h0.least c.h0.window c.h0.pulses c.h0.lengths c.h0.fractions c.h0.pulseTimes c.h0.pulseEnergies c.h0.sound c.h0.seen c.h1.count c.h1.front c.h1.least c.h1.window c.h1.pulses c.h1.lengths c.h1.fractions c.h1.pulseTimes c.h1.pulseEnergies c.h1.sound c.h1.seen c.h2.count c.h2.front c.h2.least c.h2.window c.h2.pulses c.h2.lengths c.h2.fractions c.h2.pulseTimes c.h2.pulseEnergies c.h2.sound c.h2.seen x1 = some (.inl v) ∧ Rf_removePart d.m d.saved d.savedCount d.code x1 = some (d.m, d.saved, d.savedCount, kI (1), kI 0) := by
  have h3 := vd_3 2 σ.s.b x1 (kI 0) (kI 0)
  constructor
  · unfold Cf_L_removePart
    have e : Cf_L_change c.waveIsFresh c.peelingIsFresh c.n.count c.n.front c.n.least c.n.window c.n.pulses c.n.lengths c.n.fractions c.n.pulseTimes c.n.pulseEnergies c.n.sound c.n.seen c.hcount c.hp c.h0.count c.h0.front c.h0.least c.h0.window c.h0.pulses c.h0.lengths c.h0.fractions c.h0.pulseTimes c.h0.pulseEnergies c.h0.sound c.h0.seen c.h1.count c.h1.front c.h1.least c.h1.window c.h1.pulses c.h1.lengths c.h1.fractions c.h1.pulseTimes c.h1.pulseEnergies c.h1.sound c.h1.seen c.h2.count c.h2.front c.h2.least c.h2.window c.h2.pulses c.h2.lengths c.h2.fractions c.h2.pulseTimes c.h2.pulseEnergies c.h2.sound c.h2.seen 2 x1 (kI 0) (kI 0) = some (.inl v) := op_changeX hC (by omega) hv
    simp (disch := omega) only [↓nm_eq, ↓bd_x, bdx_s, ↓bx_x, bxx_r, bxx_l, ↓bn_x, bnx_r, chk_t, ↓reduceIte, q32, q64, kI_lt_t, kI_lt_f, kI_le_t, kI_le_f, kI_eq_t, kI_eq_f, kL_lt_t, kL_lt_f, kL_le_t, kL_le_f, kL_eq_t, kL_eq_f, kI_m1, kI_m1', m1_m1, kI_n1, kI_n1', n1_add', eq_self, inb_t, kI_nat, kI_add, kI_mul, kI_sub, kI_div, kI_mod, kI_long, kL_add, kL_mul, kL_sub, kL_div, kL_mod, kL_int, n1_add, not_false_eq_true, not_true_eq_false, and_true, true_and, and_false, false_and, or_true, true_or, or_false, false_or, Nat.reduceEqDiff, IN, IM, e]
  · have e := W_cut (x1 := x1) hC.1.1 hD.1 (kI 0) (kI 0)
    rw [if_neg (by omega)] at e
    have hv1 : v = 0 := by
      unfold vd vCut at hv
      rw [if_neg (by omega), if_neg (by omega), if_pos rfl] at hv
      by_cases w : IM x1 0 σ.s.b.n
      · rw [if_pos w] at hv; omega
      · rw [if_neg w] at hv; omega
    subst hv1
    unfold Rf_removePart Rf_removePart_14
    simp (disch := omega) only [↓nm_eq, ↓bd_x, bdx_s, ↓bx_x, bxx_r, bxx_l, ↓bn_x, bnx_r, chk_t, ↓reduceIte, q32, q64, kI_lt_t, kI_lt_f, kI_le_t, kI_le_f, kI_eq_t, kI_eq_f, kL_lt_t, kL_lt_f, kL_le_t, kL_le_f, kL_eq_t, kL_eq_f, kI_m1, kI_m1', m1_m1, kI_n1, kI_n1', n1_add', eq_self, inb_t, kI_nat, kI_add, kI_mul, kI_sub, kI_div, kI_mod, kI_long, kL_add, kL_mul, kL_sub, kL_div, kL_mod, kL_int, n1_add, not_false_eq_true, not_true_eq_false, and_true, true_and, and_false, false_and, or_true, true_or, or_false, false_or, Nat.reduceEqDiff, IN, IM, e]
theorem OP_removePart (hC : CR σ c) (hD : DL σ d) (hv : vd 2 σ.s.b x1 (kI 0) (kI 0) = 0) : ∃ (r : Int32) (cn np : Int32) (ℓ φ pt pe : Nat → Int32) (hp' : Nat → Nat) (g0 g1 g2 : SC) (m' sv' : Nat → Int64), Cf_L_removePart c.waveIsFresh c.peelingIsFresh c.n.count c.n.front c.n.least c.n.window c.n.pulses c.n.lengths c.n.fractions c.n.pulseTimes c.n.pulseEnergies c.n.sound c.n.seen c.hcount c.hp c.h0.count c.h0.front c.h0.least c.h0.window c.h0.pulses c.h0.lengths c.h0.fractions c.h0.pulseTimes c.h0.pulseEnergies c.h0.sound c.h0.seen c.h1.count c.h1.front c.h1.least c.h1.window c.h1.pulses c.h1.lengths c.h1.fractions c.h1.pulseTimes c.h1.pulseEnergies c.h1.sound c.h1.seen c.h2.count c.h2.front c.h2.least c.h2.window c.h2.pulses c.h2.lengths c.h2.fractions c.h2.pulseTimes c.h2.pulseEnergies c.h2.sound c.h2.seen x1 = some (.inr (kI 0, kI 0, cn, np, ℓ, φ, pt, pe, kI (pk σ.k), hp', g0.count, g0.front, g0.least, g0.window, g0.pulses, g0.lengths, g0.fractions, g0.pulseTimes, g0.pulseEnergies, g0.sound, g0.seen, g1.count, g1.front, g1.least, g1.window, g1.pulses, g1.lengths, g1.fractions, g1.pulseTimes, g1.pulseEnergies, g1.sound, g1.seen, g2.count, g2.front, g2.least, g2.window, g2.pulses, g2.lengths, g2.fractions, g2.pulseTimes, g2.pulseEnergies, g2.sound, g2.seen, r)) ∧ Rf_removePart d.m d.saved d.savedCount d.code x1 = some (m', sv', kI (pk σ.k), kI 0, r) ∧ CR (σ.ch (σ.s.wb (eb 2 σ.s.b x1 (kI 0) (kI 0)))) (CK.mk (kI 0) (kI 0) (SC.mk cn c.n.front c.n.least c.n.window np ℓ φ pt pe c.n.sound c.n.seen) (kI (pk σ.k)) hp' g0 g1 g2 c.s_length c.s_command c.s_position c.s_fault c.s_bytes c.s_numbers c.w_near c.w_far c.w_echoes c.w_totals c.p_result c.p_endTime c.q c.t_near c.t_far c.t_echoes c.t_totals) ∧ DL (σ.ch (σ.s.wb (eb 2 σ.s.b x1 (kI 0) (kI 0)))) (RK.mk m' sv' (kI (pk σ.k)) d.script d.scriptLength (kI 0) d.lineParts d.lengths d.fractions d.pulseMany d.times d.energies d.far d.near d.echoes d.left d.dropped d.merged d.drops d.contributions d.packet d.peelResult d.peelTime d.peelSum d.at_ d.commands d.draft d.hash) := by
  obtain ⟨cn, np, ℓ, φ, pt, pe, hp', g0, g1, g2, e1, q1, q2⟩ := op_change hC (by omega) hv
  obtain ⟨sv', e2, q3⟩ := op_keepR hC.1 hD
  obtain ⟨m', e3, q4⟩ := R_cut hC.1.1 hD.1 hv
  refine ⟨an 2 σ.s.b x1, cn, np, ℓ, φ, pt, pe, hp', g0, g1, g2, m', sv', ?_, ?_, q2, DL_ch hD q4 q3 (kI 0)⟩
  · unfold Cf_L_removePart
    simp (disch := omega) only [↓nm_eq, ↓bd_x, bdx_s, ↓bx_x, bxx_r, bxx_l, ↓bn_x, bnx_r, chk_t, ↓reduceIte, q32, q64, kI_lt_t, kI_lt_f, kI_le_t, kI_le_f, kI_eq_t, kI_eq_f, kL_lt_t, kL_lt_f, kL_le_t, kL_le_f, kL_eq_t, kL_eq_f, kI_m1, kI_m1', m1_m1, kI_n1, kI_n1', n1_add', eq_self, inb_t, kI_nat, kI_add, kI_mul, kI_sub, kI_div, kI_mod, kI_long, kL_add, kL_mul, kL_sub, kL_div, kL_mod, kL_int, n1_add, not_false_eq_true, not_true_eq_false, and_true, true_and, and_false, false_and, or_true, true_or, or_false, false_or, Nat.reduceEqDiff, IN, IM, e1]
  · have e := W_cut (x1 := x1) hC.1.1 hD.1 (kI 0) (kI 0)
    rw [if_pos hv] at e
    unfold Rf_removePart Rf_removePart_14
    simp (disch := omega) only [↓nm_eq, ↓bd_x, bdx_s, ↓bx_x, bxx_r, bxx_l, ↓bn_x, bnx_r, chk_t, ↓reduceIte, q32, q64, kI_lt_t, kI_lt_f, kI_le_t, kI_le_f, kI_eq_t, kI_eq_f, kL_lt_t, kL_lt_f, kL_le_t, kL_le_f, kL_eq_t, kL_eq_f, kI_m1, kI_m1', m1_m1, kI_n1, kI_n1', n1_add', eq_self, inb_t, kI_nat, kI_add, kI_mul, kI_sub, kI_div, kI_mod, kI_long, kL_add, kL_mul, kL_sub, kL_div, kL_mod, kL_int, n1_add, not_false_eq_true, not_true_eq_false, and_true, true_and, and_false, false_and, or_true, true_or, or_false, false_or, Nat.reduceEqDiff, IN, IM, e, e2, e3]

theorem OP_splitPart_x (hC : CR σ c) (hD : DL σ d) {v : Nat} (hv : vd 3 σ.s.b x1 x2 x3 = v + 1) : Cf_L_splitPart c.waveIsFresh c.peelingIsFresh c.n.count c.n.front c.n.least c.n.window c.n.pulses c.n.lengths c.n.fractions c.n.pulseTimes c.n.pulseEnergies c.n.sound c.n.seen c.hcount c.hp c.h0.count c.h0.front c.h0.least c.h0.window c.h0.pulses c.h0.lengths c.h0.fractions c.h0.pulseTimes c.h0.pulseEnergies c.h0.sound c.h0.seen c.h1.count c.h1.front c.h1.least c.h1.window c.h1.pulses c.h1.lengths c.h1.fractions c.h1.pulseTimes c.h1.pulseEnergies c.h1.sound c.h1.seen c.h2.count c.h2.front c.h2.least c.h2.window c.h2.pulses c.h2.lengths c.h2.fractions c.h2.pulseTimes c.h2.pulseEnergies c.h2.sound c.h2.seen x1 x2 x3 = some (.inl v) ∧ Rf_splitPart d.m d.saved d.savedCount d.code x1 x2 x3 = some (d.m, d.saved, d.savedCount, kI (v + 1), kI 0) := by
  have h3 := vd_3 3 σ.s.b x1 x2 x3
  constructor
  · unfold Cf_L_splitPart
    have e : Cf_L_change c.waveIsFresh c.peelingIsFresh c.n.count c.n.front c.n.least c.n.window c.n.pulses c.n.lengths c.n.fractions c.n.pulseTimes c.n.pulseEnergies c.n.sound c.n.seen c.hcount c.hp c.h0.count c.h0.front c.h0.least c.h0.window c.h0.pulses c.h0.lengths c.h0.fractions c.h0.pulseTimes c.h0.pulseEnergies c.h0.sound c.h0.seen c.h1.count c.h1.front c.h1.least c.h1.window c.h1.pulses c.h1.lengths c.h1.fractions c.h1.pulseTimes c.h1.pulseEnergies c.h1.sound c.h1.seen c.h2.count c.h2.front c.h2.least c.h2.window c.h2.pulses c.h2.lengths c.h2.fractions c.h2.pulseTimes c.h2.pulseEnergies c.h2.sound c.h2.seen 3 x1 x2 x3 = some (.inl v) := op_changeX hC (by omega) hv
    simp (disch := omega) only [↓nm_eq, ↓bd_x, bdx_s, ↓bx_x, bxx_r, bxx_l, ↓bn_x, bnx_r, chk_t, ↓reduceIte, q32, q64, kI_lt_t, kI_lt_f, kI_le_t, kI_le_f, kI_eq_t, kI_eq_f, kL_lt_t, kL_lt_f, kL_le_t, kL_le_f, kL_eq_t, kL_eq_f, kI_m1, kI_m1', m1_m1, kI_n1, kI_n1', n1_add', eq_self, inb_t, kI_nat, kI_add, kI_mul, kI_sub, kI_div, kI_mod, kI_long, kL_add, kL_mul, kL_sub, kL_div, kL_mod, kL_int, n1_add, not_false_eq_true, not_true_eq_false, and_true, true_and, and_false, false_and, or_true, true_or, or_false, false_or, Nat.reduceEqDiff, IN, IM, e]
  · have e := W_spl (x1 := x1) (x2 := x2) (x3 := x3) hC.1.1 hD.1
    rw [hv] at e
    unfold Rf_splitPart
    rw [e, bd_s]
    obtain rfl | rfl | rfl : v = 0 ∨ v = 1 ∨ v = 2 := by omega
    · rfl
    · rfl
    · rfl
theorem OP_splitPart (hC : CR σ c) (hD : DL σ d) (hv : vd 3 σ.s.b x1 x2 x3 = 0) : ∃ (r : Int32) (cn np : Int32) (ℓ φ pt pe : Nat → Int32) (hp' : Nat → Nat) (g0 g1 g2 : SC) (m' sv' : Nat → Int64), Cf_L_splitPart c.waveIsFresh c.peelingIsFresh c.n.count c.n.front c.n.least c.n.window c.n.pulses c.n.lengths c.n.fractions c.n.pulseTimes c.n.pulseEnergies c.n.sound c.n.seen c.hcount c.hp c.h0.count c.h0.front c.h0.least c.h0.window c.h0.pulses c.h0.lengths c.h0.fractions c.h0.pulseTimes c.h0.pulseEnergies c.h0.sound c.h0.seen c.h1.count c.h1.front c.h1.least c.h1.window c.h1.pulses c.h1.lengths c.h1.fractions c.h1.pulseTimes c.h1.pulseEnergies c.h1.sound c.h1.seen c.h2.count c.h2.front c.h2.least c.h2.window c.h2.pulses c.h2.lengths c.h2.fractions c.h2.pulseTimes c.h2.pulseEnergies c.h2.sound c.h2.seen x1 x2 x3 = some (.inr (kI 0, kI 0, cn, np, ℓ, φ, pt, pe, kI (pk σ.k), hp', g0.count, g0.front, g0.least, g0.window, g0.pulses, g0.lengths, g0.fractions, g0.pulseTimes, g0.pulseEnergies, g0.sound, g0.seen, g1.count, g1.front, g1.least, g1.window, g1.pulses, g1.lengths, g1.fractions, g1.pulseTimes, g1.pulseEnergies, g1.sound, g1.seen, g2.count, g2.front, g2.least, g2.window, g2.pulses, g2.lengths, g2.fractions, g2.pulseTimes, g2.pulseEnergies, g2.sound, g2.seen, r)) ∧ Rf_splitPart d.m d.saved d.savedCount d.code x1 x2 x3 = some (m', sv', kI (pk σ.k), kI 0, r) ∧ CR (σ.ch (σ.s.wb (eb 3 σ.s.b x1 x2 x3))) (CK.mk (kI 0) (kI 0) (SC.mk cn c.n.front c.n.least c.n.window np ℓ φ pt pe c.n.sound c.n.seen) (kI (pk σ.k)) hp' g0 g1 g2 c.s_length c.s_command c.s_position c.s_fault c.s_bytes c.s_numbers c.w_near c.w_far c.w_echoes c.w_totals c.p_result c.p_endTime c.q c.t_near c.t_far c.t_echoes c.t_totals) ∧ DL (σ.ch (σ.s.wb (eb 3 σ.s.b x1 x2 x3))) (RK.mk m' sv' (kI (pk σ.k)) d.script d.scriptLength (kI 0) d.lineParts d.lengths d.fractions d.pulseMany d.times d.energies d.far d.near d.echoes d.left d.dropped d.merged d.drops d.contributions d.packet d.peelResult d.peelTime d.peelSum d.at_ d.commands d.draft d.hash) := by
  obtain ⟨cn, np, ℓ, φ, pt, pe, hp', g0, g1, g2, e1, q1, q2⟩ := op_change hC (by omega) hv
  obtain ⟨sv', e2, q3⟩ := op_keepR hC.1 hD
  obtain ⟨m', e3, q4⟩ := R_spl hC.1.1 hD.1 hv
  refine ⟨an 3 σ.s.b x1, cn, np, ℓ, φ, pt, pe, hp', g0, g1, g2, m', sv', ?_, ?_, q2, DL_ch hD q4 q3 (kI 0)⟩
  · unfold Cf_L_splitPart
    simp (disch := omega) only [↓nm_eq, ↓bd_x, bdx_s, ↓bx_x, bxx_r, bxx_l, ↓bn_x, bnx_r, chk_t, ↓reduceIte, q32, q64, kI_lt_t, kI_lt_f, kI_le_t, kI_le_f, kI_eq_t, kI_eq_f, kL_lt_t, kL_lt_f, kL_le_t, kL_le_f, kL_eq_t, kL_eq_f, kI_m1, kI_m1', m1_m1, kI_n1, kI_n1', n1_add', eq_self, inb_t, kI_nat, kI_add, kI_mul, kI_sub, kI_div, kI_mod, kI_long, kL_add, kL_mul, kL_sub, kL_div, kL_mod, kL_int, n1_add, not_false_eq_true, not_true_eq_false, and_true, true_and, and_false, false_and, or_true, true_or, or_false, false_or, Nat.reduceEqDiff, IN, IM, e1]
  · have e := W_spl (x1 := x1) (x2 := x2) (x3 := x3) hC.1.1 hD.1
    rw [hv] at e
    unfold Rf_splitPart
    simp (disch := omega) only [↓nm_eq, ↓bd_x, bdx_s, ↓bx_x, bxx_r, bxx_l, ↓bn_x, bnx_r, chk_t, ↓reduceIte, q32, q64, kI_lt_t, kI_lt_f, kI_le_t, kI_le_f, kI_eq_t, kI_eq_f, kL_lt_t, kL_lt_f, kL_le_t, kL_le_f, kL_eq_t, kL_eq_f, kI_m1, kI_m1', m1_m1, kI_n1, kI_n1', n1_add', eq_self, inb_t, kI_nat, kI_add, kI_mul, kI_sub, kI_div, kI_mod, kI_long, kL_add, kL_mul, kL_sub, kL_div, kL_mod, kL_int, n1_add, not_false_eq_true, not_true_eq_false, and_true, true_and, and_false, false_and, or_true, true_or, or_false, false_or, Nat.reduceEqDiff, IN, IM, e, e2, e3]

theorem OP_addPulse_x (hC : CR σ c) (hD : DL σ d) {v : Nat} (hv : vd 4 σ.s.b x1 x2 (kI 0) = v + 1) : Cf_L_addPulse c.waveIsFresh c.peelingIsFresh c.n.count c.n.front c.n.least c.n.window c.n.pulses c.n.lengths c.n.fractions c.n.pulseTimes c.n.pulseEnergies c.n.sound c.n.seen c.hcount c.hp c.h0.count c.h0.front c.h0.least c.h0.window c.h0.pulses c.h0.lengths c.h0.fractions c.h0.pulseTimes c.h0.pulseEnergies c.h0.sound c.h0.seen c.h1.count c.h1.front c.h1.least c.h1.window c.h1.pulses c.h1.lengths c.h1.fractions c.h1.pulseTimes c.h1.pulseEnergies c.h1.sound c.h1.seen c.h2.count c.h2.front c.h2.least c.h2.window c.h2.pulses c.h2.lengths c.h2.fractions c.h2.pulseTimes c.h2.pulseEnergies c.h2.sound c.h2.seen x1 x2 = some (.inl v) ∧ Rf_addPulse d.m d.saved d.savedCount d.code x1 x2 = some (d.m, d.saved, d.savedCount, kI (cA (v + 1)), kI 0) := by
  have h3 := vd_3 4 σ.s.b x1 x2 (kI 0)
  constructor
  · unfold Cf_L_addPulse
    have e : Cf_L_change c.waveIsFresh c.peelingIsFresh c.n.count c.n.front c.n.least c.n.window c.n.pulses c.n.lengths c.n.fractions c.n.pulseTimes c.n.pulseEnergies c.n.sound c.n.seen c.hcount c.hp c.h0.count c.h0.front c.h0.least c.h0.window c.h0.pulses c.h0.lengths c.h0.fractions c.h0.pulseTimes c.h0.pulseEnergies c.h0.sound c.h0.seen c.h1.count c.h1.front c.h1.least c.h1.window c.h1.pulses c.h1.lengths c.h1.fractions c.h1.pulseTimes c.h1.pulseEnergies c.h1.sound c.h1.seen c.h2.count c.h2.front c.h2.least c.h2.window c.h2.pulses c.h2.lengths c.h2.fractions c.h2.pulseTimes c.h2.pulseEnergies c.h2.sound c.h2.seen 4 x1 x2 (kI 0) = some (.inl v) := op_changeX hC (by omega) hv
    simp (disch := omega) only [↓nm_eq, ↓bd_x, bdx_s, ↓bx_x, bxx_r, bxx_l, ↓bn_x, bnx_r, chk_t, ↓reduceIte, q32, q64, kI_lt_t, kI_lt_f, kI_le_t, kI_le_f, kI_eq_t, kI_eq_f, kL_lt_t, kL_lt_f, kL_le_t, kL_le_f, kL_eq_t, kL_eq_f, kI_m1, kI_m1', m1_m1, kI_n1, kI_n1', n1_add', eq_self, inb_t, kI_nat, kI_add, kI_mul, kI_sub, kI_div, kI_mod, kI_long, kL_add, kL_mul, kL_sub, kL_div, kL_mod, kL_int, n1_add, not_false_eq_true, not_true_eq_false, and_true, true_and, and_false, false_and, or_true, true_or, or_false, false_or, Nat.reduceEqDiff, IN, IM, e]
  · have e := W_pul (x1 := x1) (x2 := x2) hC.1.1 hD.1 (kI 0)
    rw [hv] at e
    unfold Rf_addPulse
    rw [e, bd_s]
    obtain rfl | rfl | rfl : v = 0 ∨ v = 1 ∨ v = 2 := by omega
    · exfalso
      unfold vd vPul at hv
      revert hv
      repeat' split
      all_goals omega
    · rfl
    · rfl
theorem OP_addPulse (hC : CR σ c) (hD : DL σ d) (hv : vd 4 σ.s.b x1 x2 (kI 0) = 0) : ∃ (r : Int32) (cn np : Int32) (ℓ φ pt pe : Nat → Int32) (hp' : Nat → Nat) (g0 g1 g2 : SC) (m' sv' : Nat → Int64), Cf_L_addPulse c.waveIsFresh c.peelingIsFresh c.n.count c.n.front c.n.least c.n.window c.n.pulses c.n.lengths c.n.fractions c.n.pulseTimes c.n.pulseEnergies c.n.sound c.n.seen c.hcount c.hp c.h0.count c.h0.front c.h0.least c.h0.window c.h0.pulses c.h0.lengths c.h0.fractions c.h0.pulseTimes c.h0.pulseEnergies c.h0.sound c.h0.seen c.h1.count c.h1.front c.h1.least c.h1.window c.h1.pulses c.h1.lengths c.h1.fractions c.h1.pulseTimes c.h1.pulseEnergies c.h1.sound c.h1.seen c.h2.count c.h2.front c.h2.least c.h2.window c.h2.pulses c.h2.lengths c.h2.fractions c.h2.pulseTimes c.h2.pulseEnergies c.h2.sound c.h2.seen x1 x2 = some (.inr (kI 0, kI 0, cn, np, ℓ, φ, pt, pe, kI (pk σ.k), hp', g0.count, g0.front, g0.least, g0.window, g0.pulses, g0.lengths, g0.fractions, g0.pulseTimes, g0.pulseEnergies, g0.sound, g0.seen, g1.count, g1.front, g1.least, g1.window, g1.pulses, g1.lengths, g1.fractions, g1.pulseTimes, g1.pulseEnergies, g1.sound, g1.seen, g2.count, g2.front, g2.least, g2.window, g2.pulses, g2.lengths, g2.fractions, g2.pulseTimes, g2.pulseEnergies, g2.sound, g2.seen, r)) ∧ Rf_addPulse d.m d.saved d.savedCount d.code x1 x2 = some (m', sv', kI (pk σ.k), kI 0, r) ∧ CR (σ.ch (σ.s.wb (eb 4 σ.s.b x1 x2 (kI 0)))) (CK.mk (kI 0) (kI 0) (SC.mk cn c.n.front c.n.least c.n.window np ℓ φ pt pe c.n.sound c.n.seen) (kI (pk σ.k)) hp' g0 g1 g2 c.s_length c.s_command c.s_position c.s_fault c.s_bytes c.s_numbers c.w_near c.w_far c.w_echoes c.w_totals c.p_result c.p_endTime c.q c.t_near c.t_far c.t_echoes c.t_totals) ∧ DL (σ.ch (σ.s.wb (eb 4 σ.s.b x1 x2 (kI 0)))) (RK.mk m' sv' (kI (pk σ.k)) d.script d.scriptLength (kI 0) d.lineParts d.lengths d.fractions d.pulseMany d.times d.energies d.far d.near d.echoes d.left d.dropped d.merged d.drops d.contributions d.packet d.peelResult d.peelTime d.peelSum d.at_ d.commands d.draft d.hash) := by
  obtain ⟨cn, np, ℓ, φ, pt, pe, hp', g0, g1, g2, e1, q1, q2⟩ := op_change hC (by omega) hv
  obtain ⟨sv', e2, q3⟩ := op_keepR hC.1 hD
  obtain ⟨m', e3, q4⟩ := R_pul hC.1.1 hD.1 hv
  refine ⟨an 4 σ.s.b x1, cn, np, ℓ, φ, pt, pe, hp', g0, g1, g2, m', sv', ?_, ?_, q2, DL_ch hD q4 q3 (kI 0)⟩
  · unfold Cf_L_addPulse
    simp (disch := omega) only [↓nm_eq, ↓bd_x, bdx_s, ↓bx_x, bxx_r, bxx_l, ↓bn_x, bnx_r, chk_t, ↓reduceIte, q32, q64, kI_lt_t, kI_lt_f, kI_le_t, kI_le_f, kI_eq_t, kI_eq_f, kL_lt_t, kL_lt_f, kL_le_t, kL_le_f, kL_eq_t, kL_eq_f, kI_m1, kI_m1', m1_m1, kI_n1, kI_n1', n1_add', eq_self, inb_t, kI_nat, kI_add, kI_mul, kI_sub, kI_div, kI_mod, kI_long, kL_add, kL_mul, kL_sub, kL_div, kL_mod, kL_int, n1_add, not_false_eq_true, not_true_eq_false, and_true, true_and, and_false, false_and, or_true, true_or, or_false, false_or, Nat.reduceEqDiff, IN, IM, e1]
  · have e := W_pul (x1 := x1) (x2 := x2) hC.1.1 hD.1 (kI 0)
    rw [hv] at e
    unfold Rf_addPulse
    have c0 : cA 0 = 0 := rfl
    rw [c0] at e
    simp (disch := omega) only [↓nm_eq, ↓bd_x, bdx_s, ↓bx_x, bxx_r, bxx_l, ↓bn_x, bnx_r, chk_t, ↓reduceIte, q32, q64, kI_lt_t, kI_lt_f, kI_le_t, kI_le_f, kI_eq_t, kI_eq_f, kL_lt_t, kL_lt_f, kL_le_t, kL_le_f, kL_eq_t, kL_eq_f, kI_m1, kI_m1', m1_m1, kI_n1, kI_n1', n1_add', eq_self, inb_t, kI_nat, kI_add, kI_mul, kI_sub, kI_div, kI_mod, kI_long, kL_add, kL_mul, kL_sub, kL_div, kL_mod, kL_int, n1_add, not_false_eq_true, not_true_eq_false, and_true, true_and, and_false, false_and, or_true, true_or, or_false, false_or, Nat.reduceEqDiff, IN, IM, e, e2, e3]
end OPS3
