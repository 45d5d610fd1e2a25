section OPS6
variable {σ : SS} {c : CK} {d : RK} {x1 x2 x3 : Int32}
def pv (r : Nat) (tm : Int32) (n : Nat) (ln : Nat → Nat) (i : Nat) : Int32 := if i = 0 then kI r else if i = 1 then tm else if i = 2 then kI n else kI (sm ln n)
theorem PL_0 {s : Sx} {r : Nat} {tm : Int32} {n : Nat} {ln fr : Nat → Nat} (h : PL s 0 (fun _ => 0) (fun _ => 0) r tm n ln fr) : LnOK n ln fr := PL_ok h ⟨by decide, fun k hk => by omega⟩
theorem ev_peelC (hC : CR σ c) {i : Nat} (hi : i < 4) : ∃ (r : Nat) (tm : Int32) (n : Nat) (ln fr : Nat → Nat) (res et : Int32) (q : QC) (a b : Nat → Nat → Int64) (e t : Nat → Int64), Cf_L_peel c.peelingIsFresh c.n.front c.n.least c.n.window c.n.pulseEnergies c.n.seen c.p_result c.p_endTime c.q.count c.q.front c.q.least c.q.window c.q.pulses c.q.lengths c.q.fractions c.q.pulseTimes c.q.pulseEnergies c.t_near c.t_far c.t_echoes c.t_totals (kI i) = some (.inr (kI 1, res, et, q.count, q.front, q.least, q.window, q.pulses, q.lengths, q.fractions, q.pulseTimes, q.pulseEnergies, a, b, e, t, pv r tm n ln i)) ∧ PL σ.s 0 (fun _ => 0) (fun _ => 0) r tm n ln fr ∧ PQ σ.s res et q.count q.lengths q.fractions := by
  have s1 := rrI (x := kI i) (a := 0) (b := 3) (by omega) (by omega)
  rw [kI_long (by omega), if_pos ((IN_kI (by omega)).mpr (by omega))] at s1
  obtain ⟨res, et, q, a, b, e, t, e1, q1⟩ := op_pp hC
  have q1' := q1
  obtain ⟨r, tm, n, ln, fr, h, p1, p2, p3, p4, p5⟩ := q1'
  have hl := PL_0 h
  refine ⟨r, tm, n, ln, fr, res, et, q, a, b, e, t, ?_, h, q1⟩
  unfold Cf_L_peel pv
  obtain rfl | rfl | rfl | rfl : i = 0 ∨ i = 1 ∨ i = 2 ∨ i = 3 := by omega
  · simp (disch := omega) only [↓nm_eq, ↓bd_x, bdx_s, ↓bx_x, bxx_r, bxx_l, ↓bn_x, bnx_r, chk_t, ↓reduceIte, q32, q64, kI_lt_t, kI_lt_f, kI_le_t, kI_le_f, kI_eq_t, kI_eq_f, kL_lt_t, kL_lt_f, kL_le_t, kL_le_f, kL_eq_t, kL_eq_f, kI_m1, kI_m1', m1_m1, kI_n1, kI_n1', n1_add', eq_self, inb_t, kI_nat, kI_add, kI_mul, kI_sub, kI_div, kI_mod, kI_long, kL_add, kL_mul, kL_sub, kL_div, kL_mod, kL_int, n1_add, not_false_eq_true, not_true_eq_false, and_true, true_and, and_false, false_and, or_true, true_or, or_false, false_or, Nat.reduceEqDiff, IN, IM, s1, e1, p1]
  · simp (disch := omega) only [↓nm_eq, ↓bd_x, bdx_s, ↓bx_x, bxx_r, bxx_l, ↓bn_x, bnx_r, chk_t, ↓reduceIte, q32, q64, kI_lt_t, kI_lt_f, kI_le_t, kI_le_f, kI_eq_t, kI_eq_f, kL_lt_t, kL_lt_f, kL_le_t, kL_le_f, kL_eq_t, kL_eq_f, kI_m1, kI_m1', m1_m1, kI_n1, kI_n1', n1_add', eq_self, inb_t, kI_nat, kI_add, kI_mul, kI_sub, kI_div, kI_mod, kI_long, kL_add, kL_mul, kL_sub, kL_div, kL_mod, kL_int, n1_add, not_false_eq_true, not_true_eq_false, and_true, true_and, and_false, false_and, or_true, true_or, or_false, false_or, Nat.reduceEqDiff, IN, IM, s1, e1, p2]
  · simp (disch := omega) only [↓nm_eq, ↓bd_x, bdx_s, ↓bx_x, bxx_r, bxx_l, ↓bn_x, bnx_r, chk_t, ↓reduceIte, q32, q64, kI_lt_t, kI_lt_f, kI_le_t, kI_le_f, kI_eq_t, kI_eq_f, kL_lt_t, kL_lt_f, kL_le_t, kL_le_f, kL_eq_t, kL_eq_f, kI_m1, kI_m1', m1_m1, kI_n1, kI_n1', n1_add', eq_self, inb_t, kI_nat, kI_add, kI_mul, kI_sub, kI_div, kI_mod, kI_long, kL_add, kL_mul, kL_sub, kL_div, kL_mod, kL_int, n1_add, not_false_eq_true, not_true_eq_false, and_true, true_and, and_false, false_and, or_true, true_or, or_false, false_or, Nat.reduceEqDiff, IN, IM, s1, e1, p3]
  · simp (disch := omega) only [↓nm_eq, ↓bd_x, bdx_s, ↓bx_x, bxx_r, bxx_l, ↓bn_x, bnx_r, chk_t, ↓reduceIte, q32, q64, kI_lt_t, kI_lt_f, kI_le_t, kI_le_f, kI_eq_t, kI_eq_f, kL_lt_t, kL_lt_f, kL_le_t, kL_le_f, kL_eq_t, kL_eq_f, kI_m1, kI_m1', m1_m1, kI_n1, kI_n1', n1_add', eq_self, inb_t, kI_nat, kI_add, kI_mul, kI_sub, kI_div, kI_mod, kI_long, kL_add, kL_mul, kL_sub, kL_div, kL_mod, kL_int, n1_add, not_false_eq_true, not_true_eq_false, and_true, true_and, and_false, false_and, or_true, true_or, or_false, false_or, Nat.reduceEqDiff, IN, IM, s1, e1, p3, ev_reachQ (Nat.le_refl n) hl.1 p4]
theorem ev_peelOf {r : Nat} {tm : Int32} {n : Nat} {ln fr : Nat → Nat} {s : Sx} {lp pr pt ps : Int32} {ℓ φ : Nat → Int32} (h : PRE s r tm n ln fr lp ℓ φ pr pt ps) {i : Nat} (hi : i < 4) : Rf_peelOf lp pr pt ps (kI i) = some (pv r tm n ln i) := by
  obtain ⟨h1, h2, h3, h4, h5, h6⟩ := h
  unfold Rf_peelOf Rf_peelOf_39 pv
  rw [h1, h4, h5, h6]
  obtain rfl | rfl | rfl | rfl : i = 0 ∨ i = 1 ∨ i = 2 ∨ i = 3 := by omega
  · simp (disch := omega) only [↓nm_eq, ↓bd_x, bdx_s, ↓bx_x, bxx_r, bxx_l, ↓bn_x, bnx_r, chk_t, ↓reduceIte, q32, q64, kI_lt_t, kI_lt_f, kI_le_t, kI_le_f, kI_eq_t, kI_eq_f, kL_lt_t, kL_lt_f, kL_le_t, kL_le_f, kL_eq_t, kL_eq_f, kI_m1, kI_m1', m1_m1, kI_n1, kI_n1', n1_add', eq_self, inb_t, kI_nat, kI_add, kI_mul, kI_sub, kI_div, kI_mod, kI_long, kL_add, kL_mul, kL_sub, kL_div, kL_mod, kL_int, n1_add, not_false_eq_true, not_true_eq_false, and_true, true_and, and_false, false_and, or_true, true_or, or_false, false_or, Nat.reduceEqDiff, IN, IM]
  · simp (disch := omega) only [↓nm_eq, ↓bd_x, bdx_s, ↓bx_x, bxx_r, bxx_l, ↓bn_x, bnx_r, chk_t, ↓reduceIte, q32, q64, kI_lt_t, kI_lt_f, kI_le_t, kI_le_f, kI_eq_t, kI_eq_f, kL_lt_t, kL_lt_f, kL_le_t, kL_le_f, kL_eq_t, kL_eq_f, kI_m1, kI_m1', m1_m1, kI_n1, kI_n1', n1_add', eq_self, inb_t, kI_nat, kI_add, kI_mul, kI_sub, kI_div, kI_mod, kI_long, kL_add, kL_mul, kL_sub, kL_div, kL_mod, kL_int, n1_add, not_false_eq_true, not_true_eq_false, and_true, true_and, and_false, false_and, or_true, true_or, or_false, false_or, Nat.reduceEqDiff, IN, IM]
  · simp (disch := omega) only [↓nm_eq, ↓bd_x, bdx_s, ↓bx_x, bxx_r, bxx_l, ↓bn_x, bnx_r, chk_t, ↓reduceIte, q32, q64, kI_lt_t, kI_lt_f, kI_le_t, kI_le_f, kI_eq_t, kI_eq_f, kL_lt_t, kL_lt_f, kL_le_t, kL_le_f, kL_eq_t, kL_eq_f, kI_m1, kI_m1', m1_m1, kI_n1, kI_n1', n1_add', eq_self, inb_t, kI_nat, kI_add, kI_mul, kI_sub, kI_div, kI_mod, kI_long, kL_add, kL_mul, kL_sub, kL_div, kL_mod, kL_int, n1_add, not_false_eq_true, not_true_eq_false, and_true, true_and, and_false, false_and, or_true, true_or, or_false, false_or, Nat.reduceEqDiff, IN, IM]
  · simp (disch := omega) only [↓nm_eq, ↓bd_x, bdx_s, ↓bx_x, bxx_r, bxx_l, ↓bn_x, bnx_r, chk_t, ↓reduceIte, q32, q64, kI_lt_t, kI_lt_f, kI_le_t, kI_le_f, kI_eq_t, kI_eq_f, kL_lt_t, kL_lt_f, kL_le_t, kL_le_f, kL_eq_t, kL_eq_f, kI_m1, kI_m1', m1_m1, kI_n1, kI_n1', n1_add', eq_self, inb_t, kI_nat, kI_add, kI_mul, kI_sub, kI_div, kI_mod, kI_long, kL_add, kL_mul, kL_sub, kL_div, kL_mod, kL_int, n1_add, not_false_eq_true, not_true_eq_false, and_true, true_and, and_false, false_and, or_true, true_or, or_false, false_or, Nat.reduceEqDiff, IN, IM]
theorem OP_peel_x (h : ¬ IN x1 0 3) : Cf_L_peel c.peelingIsFresh c.n.front c.n.least c.n.window c.n.pulseEnergies c.n.seen c.p_result c.p_endTime c.q.count c.q.front c.q.least c.q.window c.q.pulses c.q.lengths c.q.fractions c.q.pulseTimes c.q.pulseEnergies c.t_near c.t_far c.t_echoes c.t_totals x1 = some (.inl 1) ∧ Rf_peel d.m d.code d.lineParts d.lengths d.fractions d.pulseMany d.times d.energies d.far d.near d.echoes d.left d.dropped d.merged d.drops d.contributions d.packet d.peelResult d.peelTime d.peelSum x1 = some (kI 1, d.lineParts, d.lengths, d.fractions, d.pulseMany, d.times, d.energies, d.far, d.near, d.echoes, d.left, d.dropped, d.merged, d.drops, d.contributions, d.packet, d.peelResult, d.peelTime, d.peelSum, kI 0) := by
  constructor
  · unfold Cf_L_peel
    simp (disch := omega) only [↓nm_eq, ↓bd_x, bdx_s, ↓bx_x, bxx_r, bxx_l, ↓bn_x, bnx_r, chk_t, ↓reduceIte, q32, q64, kI_lt_t, kI_lt_f, kI_le_t, kI_le_f, kI_eq_t, kI_eq_f, kL_lt_t, kL_lt_f, kL_le_t, kL_le_f, kL_eq_t, kL_eq_f, kI_m1, kI_m1', m1_m1, kI_n1, kI_n1', n1_add', eq_self, inb_t, kI_nat, kI_add, kI_mul, kI_sub, kI_div, kI_mod, kI_long, kL_add, kL_mul, kL_sub, kL_div, kL_mod, kL_int, n1_add, not_false_eq_true, not_true_eq_false, and_true, true_and, and_false, false_and, or_true, true_or, or_false, false_or, Nat.reduceEqDiff, IN, IM, rrI, h]
  · unfold Rf_peel Rf_peel_18
    simp (disch := omega) only [↓nm_eq, ↓bd_x, bdx_s, ↓bx_x, bxx_r, bxx_l, ↓bn_x, bnx_r, chk_t, ↓reduceIte, q32, q64, kI_lt_t, kI_lt_f, kI_le_t, kI_le_f, kI_eq_t, kI_eq_f, kL_lt_t, kL_lt_f, kL_le_t, kL_le_f, kL_eq_t, kL_eq_f, kI_m1, kI_m1', m1_m1, kI_n1, kI_n1', n1_add', eq_self, inb_t, kI_nat, kI_add, kI_mul, kI_sub, kI_div, kI_mod, kI_long, kL_add, kL_mul, kL_sub, kL_div, kL_mod, kL_int, n1_add, not_false_eq_true, not_true_eq_false, and_true, true_and, and_false, false_and, or_true, true_or, or_false, false_or, Nat.reduceEqDiff, IN, IM, iI, h]
theorem OP_peel (hC : CR σ c) (hD : DL σ d) (h : IN x1 0 3) : ∃ (x : Int32) (res et : Int32) (q : QC) (a b : Nat → Nat → Int64) (e t : Nat → Int64) (lp : Int32) (ℓ φ : Nat → Int32) (pm : Int32) (tm : Nat → Int32) (en far near ech : Nat → Int64) (lf dr : Int64) (mg ds ct : Int32) (pk : Int64) (pr pt ps : Int32), Cf_L_peel c.peelingIsFresh c.n.front c.n.least c.n.window c.n.pulseEnergies c.n.seen c.p_result c.p_endTime c.q.count c.q.front c.q.least c.q.window c.q.pulses c.q.lengths c.q.fractions c.q.pulseTimes c.q.pulseEnergies c.t_near c.t_far c.t_echoes c.t_totals x1 = some (.inr (kI 1, res, et, q.count, q.front, q.least, q.window, q.pulses, q.lengths, q.fractions, q.pulseTimes, q.pulseEnergies, a, b, e, t, x)) ∧ Rf_peel d.m d.code d.lineParts d.lengths d.fractions d.pulseMany d.times d.energies d.far d.near d.echoes d.left d.dropped d.merged d.drops d.contributions d.packet d.peelResult d.peelTime d.peelSum x1 = some (kI 0, lp, ℓ, φ, pm, tm, en, far, near, ech, lf, dr, mg, ds, ct, pk, pr, pt, ps, x) ∧ PQ σ.s res et q.count q.lengths q.fractions := by
  have s2 := iI (x := x1) (a := 0) (b := 3) (by omega) (by omega)
  rw [if_pos h] at s2
  obtain ⟨i, i1, i2, i3, i4⟩ := IN_nat h
  subst i2
  rw [kI_long i1] at s2
  obtain ⟨r, tm0, n, ln, fr, res, et, q, a, b, e, t, e1, p1, q1⟩ := ev_peelC hC (show i < 4 by omega)
  obtain ⟨r', tq, n', ln', fr', lp, ℓ, φ, tm, en, far, near, ech, lf, dr, mg, ds, ct, pk, pr, pt, ps, e2, p2, q2⟩ := ev_peelAll hC.1.1 hD.1 (lp := d.lineParts) (ℓ := d.lengths) (φ := d.fractions) (pm := d.pulseMany) (tm := d.times) (en := d.energies) (far := d.far) (near := d.near) (ech := d.echoes) (lf := d.left) (dr := d.dropped) (mg := d.merged) (ds := d.drops) (ct := d.contributions) (pk := d.packet) (pr := d.peelResult) (pt := d.peelTime) (ps := d.peelSum)
  obtain ⟨z1, z2, z3, z4, z5⟩ := PL_det p1 p2
  subst z1
  subst z2
  subst z3
  subst z4
  subst z5
  refine ⟨_, res, et, q, a, b, e, t, lp, ℓ, φ, kI 1, tm, en, far, near, ech, lf, dr, mg, ds, ct, pk, pr, pt, ps, e1, ?_, q1⟩
  unfold Rf_peel Rf_peel_18
  simp (disch := omega) only [↓nm_eq, ↓bd_x, bdx_s, ↓bx_x, bxx_r, bxx_l, ↓bn_x, bnx_r, chk_t, ↓reduceIte, q32, q64, kI_lt_t, kI_lt_f, kI_le_t, kI_le_f, kI_eq_t, kI_eq_f, kL_lt_t, kL_lt_f, kL_le_t, kL_le_f, kL_eq_t, kL_eq_f, kI_m1, kI_m1', m1_m1, kI_n1, kI_n1', n1_add', eq_self, inb_t, kI_nat, kI_add, kI_mul, kI_sub, kI_div, kI_mod, kI_long, kL_add, kL_mul, kL_sub, kL_div, kL_mod, kL_int, n1_add, not_false_eq_true, not_true_eq_false, and_true, true_and, and_false, false_and, or_true, true_or, or_false, false_or, Nat.reduceEqDiff, IN, IM, s2, e2, ev_peelOf q2 (show i < 4 by omega)]
theorem OP_found_x (h : ¬ (0 ≤ x1.toInt ∧ IN x2 0 1)) : Cf_L_found c.peelingIsFresh c.n.front c.n.least c.n.window c.n.pulseEnergies c.n.seen c.p_result c.p_endTime c.q.count c.q.front c.q.least c.q.window c.q.pulses c.q.lengths c.q.fractions c.q.pulseTimes c.q.pulseEnergies c.t_near c.t_far c.t_echoes c.t_totals x1 x2 = some (.inl 1) ∧ Rf_found d.m d.code d.lineParts d.lengths d.fractions d.pulseMany d.times d.energies d.far d.near d.echoes d.left d.dropped d.merged d.drops d.contributions d.packet d.peelResult d.peelTime d.peelSum x1 x2 = some (kI 1, d.lineParts, d.lengths, d.fractions, d.pulseMany, d.times, d.energies, d.far, d.near, d.echoes, d.left, d.dropped, d.merged, d.drops, d.contributions, d.packet, d.peelResult, d.peelTime, d.peelSum, kI 0) := by
  by_cases h1 : 0 ≤ x1.toInt
  · have h2 : ¬ IN x2 0 1 := fun q => h ⟨h1, q⟩
    have h3 : ¬ x1 < 0 := by rw [Int32.lt_iff_toInt_lt]; exact fun q => by have : x1.toInt < 0 := q; omega
    constructor
    · unfold Cf_L_found Cf_L_requireNotNegative
      rw [if_pos (nn_t h1), bx_r]
      simp (disch := omega) only [↓nm_eq, ↓bd_x, bdx_s, ↓bx_x, bxx_r, bxx_l, ↓bn_x, bnx_r, chk_t, ↓reduceIte, q32, q64, kI_lt_t, kI_lt_f, kI_le_t, kI_le_f, kI_eq_t, kI_eq_f, kL_lt_t, kL_lt_f, kL_le_t, kL_le_f, kL_eq_t, kL_eq_f, kI_m1, kI_m1', m1_m1, kI_n1, kI_n1', n1_add', eq_self, inb_t, kI_nat, kI_add, kI_mul, kI_sub, kI_div, kI_mod, kI_long, kL_add, kL_mul, kL_sub, kL_div, kL_mod, kL_int, n1_add, not_false_eq_true, not_true_eq_false, and_true, true_and, and_false, false_and, or_true, true_or, or_false, false_or, Nat.reduceEqDiff, IN, IM, rrI, h2]
    · unfold Rf_found Rf_found_19 Rf_found_20
      rw [if_neg h3]
      simp (disch := omega) only [↓nm_eq, ↓bd_x, bdx_s, ↓bx_x, bxx_r, bxx_l, ↓bn_x, bnx_r, chk_t, ↓reduceIte, q32, q64, kI_lt_t, kI_lt_f, kI_le_t, kI_le_f, kI_eq_t, kI_eq_f, kL_lt_t, kL_lt_f, kL_le_t, kL_le_f, kL_eq_t, kL_eq_f, kI_m1, kI_m1', m1_m1, kI_n1, kI_n1', n1_add', eq_self, inb_t, kI_nat, kI_add, kI_mul, kI_sub, kI_div, kI_mod, kI_long, kL_add, kL_mul, kL_sub, kL_div, kL_mod, kL_int, n1_add, not_false_eq_true, not_true_eq_false, and_true, true_and, and_false, false_and, or_true, true_or, or_false, false_or, Nat.reduceEqDiff, IN, IM, iI, h2]
  · have h3 : x1 < 0 := by rw [Int32.lt_iff_toInt_lt]; show x1.toInt < 0; omega
    constructor
    · unfold Cf_L_found Cf_L_requireNotNegative
      rw [if_neg (nn_f h1)]
      rfl
    · unfold Rf_found Rf_found_19 Rf_found_20
      rw [if_pos h3]
      rfl
theorem OP_found (hC : CR σ c) (hD : DL σ d) (h1 : 0 ≤ x1.toInt) (h2 : IN x2 0 1) : ∃ (x : Int32) (res et : Int32) (q : QC) (a b : Nat → Nat → Int64) (e t : Nat → Int64) (lp : Int32) (ℓ φ : Nat → Int32) (pm : Int32) (tm : Nat → Int32) (en far near ech : Nat → Int64) (lf dr : Int64) (mg ds ct : Int32) (pk : Int64) (pr pt ps : Int32), Cf_L_found c.peelingIsFresh c.n.front c.n.least c.n.window c.n.pulseEnergies c.n.seen c.p_result c.p_endTime c.q.count c.q.front c.q.least c.q.window c.q.pulses c.q.lengths c.q.fractions c.q.pulseTimes c.q.pulseEnergies c.t_near c.t_far c.t_echoes c.t_totals x1 x2 = some (.inr (kI 1, res, et, q.count, q.front, q.least, q.window, q.pulses, q.lengths, q.fractions, q.pulseTimes, q.pulseEnergies, a, b, e, t, x)) ∧ Rf_found d.m d.code d.lineParts d.lengths d.fractions d.pulseMany d.times d.energies d.far d.near d.echoes d.left d.dropped d.merged d.drops d.contributions d.packet d.peelResult d.peelTime d.peelSum x1 x2 = some (kI 0, lp, ℓ, φ, pm, tm, en, far, near, ech, lf, dr, mg, ds, ct, pk, pr, pt, ps, x) ∧ PQ σ.s res et q.count q.lengths q.fractions := by
  have s1 := rrI (x := x2) (a := 0) (b := 1) (by omega) (by omega)
  have s2 := iI (x := x2) (a := 0) (b := 1) (by omega) (by omega)
  rw [if_pos h2] at s1 s2
  have h3 : ¬ x1 < 0 := by rw [Int32.lt_iff_toInt_lt]; exact fun q => by have : x1.toInt < 0 := q; omega
  have hnn := nn_t h1
  obtain ⟨i, i1, i2, i3, i4⟩ := IN_nat h2
  obtain ⟨k, k1, k2, k3⟩ := x_nat h1
  subst i2
  subst k2
  rw [kI_long i1] at s1 s2
  obtain ⟨res, et, q, a, b, e, t, e1, q1⟩ := op_pp hC
  have q1' := q1
  obtain ⟨r, tm0, n, ln, fr, h, p1, p2, p3, p4, p5⟩ := q1'
  obtain ⟨r', tq, n', ln', fr', lp, ℓ, φ, tm, en, far, near, ech, lf, dr, mg, ds, ct, pk, pr, pt, ps, e2, g2, q2⟩ := ev_peelAll hC.1.1 hD.1 (lp := d.lineParts) (ℓ := d.lengths) (φ := d.fractions) (pm := d.pulseMany) (tm := d.times) (en := d.energies) (far := d.far) (near := d.near) (ech := d.echoes) (lf := d.left) (dr := d.dropped) (mg := d.merged) (ds := d.drops) (ct := d.contributions) (pk := d.packet) (pr := d.peelResult) (pt := d.peelTime) (ps := d.peelSum)
  obtain ⟨z1, z2, z3, z4, z5⟩ := PL_det h g2
  subst z1
  subst z2
  subst z3
  subst z4
  subst z5
  have hl := PL_0 h
  have hn8 := hl.1
  obtain ⟨r1, r2, r3, r4, r5, r6⟩ := q2
  by_cases w : k < n
  · have hr3 := r3 (k + 1) (by omega)
    rw [pfq_s k w] at hr3
    obtain rfl | rfl : i = 0 ∨ i = 1 := by omega
    · refine ⟨kI (ln k), res, et, q, a, b, e, t, lp, ℓ, φ, kI 1, tm, en, far, near, ech, lf, dr, mg, ds, ct, pk, pr, pt, ps, ?_, ?_, q1⟩
      · unfold Cf_L_found Cf_L_requireNotNegative Cf_L_found_48
        rw [if_pos hnn, bx_r]
        simp (disch := omega) only [↓nm_eq, ↓bd_x, bdx_s, ↓bx_x, bxx_r, bxx_l, ↓bn_x, bnx_r, chk_t, ↓reduceIte, q32, q64, kI_lt_t, kI_lt_f, kI_le_t, kI_le_f, kI_eq_t, kI_eq_f, kL_lt_t, kL_lt_f, kL_le_t, kL_le_f, kL_eq_t, kL_eq_f, kI_m1, kI_m1', m1_m1, kI_n1, kI_n1', n1_add', eq_self, inb_t, kI_nat, kI_add, kI_mul, kI_sub, kI_div, kI_mod, kI_long, kL_add, kL_mul, kL_sub, kL_div, kL_mod, kL_int, n1_add, not_false_eq_true, not_true_eq_false, and_true, true_and, and_false, false_and, or_true, true_or, or_false, false_or, Nat.reduceEqDiff, IN, IM, s1, e1, p3, p4]
      · unfold Rf_found Rf_found_20 Rf_found_67
        rw [if_neg h3]
        simp (disch := omega) only [↓nm_eq, ↓bd_x, bdx_s, ↓bx_x, bxx_r, bxx_l, ↓bn_x, bnx_r, chk_t, ↓reduceIte, q32, q64, kI_lt_t, kI_lt_f, kI_le_t, kI_le_f, kI_eq_t, kI_eq_f, kL_lt_t, kL_lt_f, kL_le_t, kL_le_f, kL_eq_t, kL_eq_f, kI_m1, kI_m1', m1_m1, kI_n1, kI_n1', n1_add', eq_self, inb_t, kI_nat, kI_add, kI_mul, kI_sub, kI_div, kI_mod, kI_long, kL_add, kL_mul, kL_sub, kL_div, kL_mod, kL_int, n1_add, not_false_eq_true, not_true_eq_false, and_true, true_and, and_false, false_and, or_true, true_or, or_false, false_or, Nat.reduceEqDiff, IN, IM, s2, e2, r1, r2]
    · refine ⟨kI (fr k), res, et, q, a, b, e, t, lp, ℓ, φ, kI 1, tm, en, far, near, ech, lf, dr, mg, ds, ct, pk, pr, pt, ps, ?_, ?_, q1⟩
      · unfold Cf_L_found Cf_L_requireNotNegative Cf_L_found_48
        rw [if_pos hnn, bx_r]
        simp (disch := omega) only [↓nm_eq, ↓bd_x, bdx_s, ↓bx_x, bxx_r, bxx_l, ↓bn_x, bnx_r, chk_t, ↓reduceIte, q32, q64, kI_lt_t, kI_lt_f, kI_le_t, kI_le_f, kI_eq_t, kI_eq_f, kL_lt_t, kL_lt_f, kL_le_t, kL_le_f, kL_eq_t, kL_eq_f, kI_m1, kI_m1', m1_m1, kI_n1, kI_n1', n1_add', eq_self, inb_t, kI_nat, kI_add, kI_mul, kI_sub, kI_div, kI_mod, kI_long, kL_add, kL_mul, kL_sub, kL_div, kL_mod, kL_int, n1_add, not_false_eq_true, not_true_eq_false, and_true, true_and, and_false, false_and, or_true, true_or, or_false, false_or, Nat.reduceEqDiff, IN, IM, s1, e1, p3, p5]
      · unfold Rf_found Rf_found_20 Rf_found_67
        rw [if_neg h3]
        simp (disch := omega) only [↓nm_eq, ↓bd_x, bdx_s, ↓bx_x, bxx_r, bxx_l, ↓bn_x, bnx_r, chk_t, ↓reduceIte, q32, q64, kI_lt_t, kI_lt_f, kI_le_t, kI_le_f, kI_eq_t, kI_eq_f, kL_lt_t, kL_lt_f, kL_le_t, kL_le_f, kL_eq_t, kL_eq_f, kI_m1, kI_m1', m1_m1, kI_n1, kI_n1', n1_add', eq_self, inb_t, kI_nat, kI_add, kI_mul, kI_sub, kI_div, kI_mod, kI_long, kL_add, kL_mul, kL_sub, kL_div, kL_mod, kL_int, n1_add, not_false_eq_true, not_true_eq_false, and_true, true_and, and_false, false_and, or_true, true_or, or_false, false_or, Nat.reduceEqDiff, IN, IM, s2, e2, r1, hr3]
  · refine ⟨-1, res, et, q, a, b, e, t, lp, ℓ, φ, kI 1, tm, en, far, near, ech, lf, dr, mg, ds, ct, pk, pr, pt, ps, ?_, ?_, q1⟩
    · unfold Cf_L_found Cf_L_requireNotNegative Cf_L_found_48
      rw [if_pos hnn, bx_r]
      simp (disch := omega) only [↓nm_eq, ↓bd_x, bdx_s, ↓bx_x, bxx_r, bxx_l, ↓bn_x, bnx_r, chk_t, ↓reduceIte, q32, q64, kI_lt_t, kI_lt_f, kI_le_t, kI_le_f, kI_eq_t, kI_eq_f, kL_lt_t, kL_lt_f, kL_le_t, kL_le_f, kL_eq_t, kL_eq_f, kI_m1, kI_m1', m1_m1, kI_n1, kI_n1', n1_add', eq_self, inb_t, kI_nat, kI_add, kI_mul, kI_sub, kI_div, kI_mod, kI_long, kL_add, kL_mul, kL_sub, kL_div, kL_mod, kL_int, n1_add, not_false_eq_true, not_true_eq_false, and_true, true_and, and_false, false_and, or_true, true_or, or_false, false_or, Nat.reduceEqDiff, IN, IM, s1, e1, p3]
    · unfold Rf_found Rf_found_20 Rf_found_67
      rw [if_neg h3]
      simp (disch := omega) only [↓nm_eq, ↓bd_x, bdx_s, ↓bx_x, bxx_r, bxx_l, ↓bn_x, bnx_r, chk_t, ↓reduceIte, q32, q64, kI_lt_t, kI_lt_f, kI_le_t, kI_le_f, kI_eq_t, kI_eq_f, kL_lt_t, kL_lt_f, kL_le_t, kL_le_f, kL_eq_t, kL_eq_f, kI_m1, kI_m1', m1_m1, kI_n1, kI_n1', n1_add', eq_self, inb_t, kI_nat, kI_add, kI_mul, kI_sub, kI_div, kI_mod, kI_long, kL_add, kL_mul, kL_sub, kL_div, kL_mod, kL_int, n1_add, not_false_eq_true, not_true_eq_false, and_true, true_and, and_false, false_and, or_true, true_or, or_false, false_or, Nat.reduceEqDiff, IN, IM, s2, e2, r1]
theorem PL_so {s : Sx} {n : Nat} {ln fr : Nat → Nat} {r : Nat} {tm : Int32} {n' : Nat} {ln' fr' : Nat → Nat} (h : PL s n ln fr r tm n' ln' fr') (so : Nat → Nat) : PL (Sx.mk s.b so s.se) n ln fr r tm n' ln' fr' := by
  refine PL_ind (fun n ln fr r tm n' ln' fr' => PL (Sx.mk s.b so s.se) n ln fr r tm n' ln' fr') ?_ ?_ h
  · intro n ln fr r tm h
    exact PL_stop h
  · intro n ln fr len p r tm n' ln' fr' h _ ih
    exact PL_step h ih
def SN (κ : Nat) (s : Sx) (x1 x2 x3 : Int32) (s' : Sx) (r : Nat) : Prop := (κ < 5 ∧ s' = s.wb (eb κ s.b x1 x2 x3) ∧ an κ s.b x1 = kI r ∧ r < 100000) ∨ (κ = 5 ∧ s' = (Sx.mk s.b s.b.ewB s.se) ∧ r = s.b.TOTB 7) ∨ (κ = 6 ∧ s' = (Sx.mk s.b s.so s.b.ewB) ∧ r = s.b.TOTB 7) ∨ (κ = 7 ∧ ∃ r0 tm ln fr, PL s 0 (fun _ => 0) (fun _ => 0) r0 tm r ln fr ∧ s' = s.wb (Bn.mk r ln fr s.b.ft s.b.ls s.b.wn s.b.np s.b.pt s.b.pe))
theorem T7 {b : Bn} : b.TOTB 7 ≤ 201 := by
  show sm (fun t => if 0 < b.ewB t then 1 else 0) 201 ≤ 201
  exact cnt_le b.ewB 201
theorem SN_det {κ : Nat} {s s' s2 : Sx} {r r2 : Nat} (h : SN κ s x1 x2 x3 s' r) (k : SN κ s x1 x2 x3 s2 r2) : s' = s2 ∧ r = r2 := by
  rcases h with ⟨h1, h2, h3, h4⟩ | ⟨h1, h2, h3⟩ | ⟨h1, h2, h3⟩ | ⟨h1, r0, tm, ln, fr, h2, h3⟩
  · rcases k with ⟨k1, k2, k3, k4⟩ | ⟨k1, _⟩ | ⟨k1, _⟩ | ⟨k1, _⟩
    · refine ⟨h2.trans k2.symm, ?_⟩
      have := h3.symm.trans k3
      exact (kI_eq (by omega) (by omega)).mp this
    · omega
    · omega
    · omega
  · rcases k with ⟨k1, _⟩ | ⟨k1, k2, k3⟩ | ⟨k1, _⟩ | ⟨k1, _⟩
    · omega
    · exact ⟨h2.trans k2.symm, h3.trans k3.symm⟩
    · omega
    · omega
  · rcases k with ⟨k1, _⟩ | ⟨k1, _⟩ | ⟨k1, k2, k3⟩ | ⟨k1, _⟩
    · omega
    · omega
    · exact ⟨h2.trans k2.symm, h3.trans k3.symm⟩
    · omega
  · rcases k with ⟨k1, _⟩ | ⟨k1, _⟩ | ⟨k1, _⟩ | ⟨k1, q0, tq, ln2, fr2, k2, k3⟩
    · omega
    · omega
    · omega
    · obtain ⟨z1, z2, z3, z4, z5⟩ := PL_det h2 k2
      subst z3
      subst z4
      subst z5
      exact ⟨h3.trans k3.symm, rfl⟩
theorem SN_OK {κ : Nat} {s s' : Sx} {r : Nat} (hs : s.OK) (h5 : κ < 5 → (eb κ s.b x1 x2 x3).OK) (h : SN κ s x1 x2 x3 s' r) : s'.OK := by
  have hw := fun t => ew_le (win := s.b.wn) (Bn.LOK hs.1) t
  rcases h with ⟨h1, h2, h3⟩ | ⟨h1, h2, h3⟩ | ⟨h1, h2, h3⟩ | ⟨h1, r0, tm, ln, fr, h2, h3⟩
  · rw [h2]
    exact ⟨h5 h1, hs.2⟩
  · rw [h2]
    exact ⟨hs.1, fun t ht => ⟨hw t, (hs.2 t ht).2⟩⟩
  · rw [h2]
    exact ⟨hs.1, fun t ht => ⟨(hs.2 t ht).1, hw t⟩⟩
  · rw [h3]
    have hl := PL_0 h2
    obtain ⟨⟨a1, a2, a3, a4, a5, a6, a7⟩, a8⟩ := hs
    exact ⟨⟨hl.1, hl.2, a3, a4, a5, a6, a7⟩, a8⟩
theorem an_r (κ : Nat) {b : Bn} (hb : b.OK) {x1 x2 x3 : Int32} (hv : vd κ b x1 x2 x3 = 0) (hκ : κ < 5) : ∃ r, an κ b x1 = kI r ∧ r < 100000 := by
  have h1 := hb.1
  have h2 : b.np ≤ 4 := hb.2.2.2.2.2.2.1
  unfold an
  obtain rfl | rfl | rfl | rfl | rfl : κ = 0 ∨ κ = 1 ∨ κ = 2 ∨ κ = 3 ∨ κ = 4 := by omega
  · exact ⟨b.n + 1, rfl, by omega⟩
  · refine ⟨b.fr x1.toNatClampNeg, rfl, ?_⟩
    unfold vd vSet at hv
    rw [if_neg (by omega), if_pos rfl] at hv
    by_cases w : IM x1 0 b.n
    · obtain ⟨k, k1, k2, k3, k4⟩ := IM_nat w
      subst k2
      rw [kI_nat k1]
      have := (hb.2.1 k k4).2.2
      omega
    · rw [if_neg w] at hv; omega
  · exact ⟨b.n - 1, rfl, by omega⟩
  · exact ⟨b.n + 1, rfl, by omega⟩
  · exact ⟨b.np + 1, rfl, by omega⟩
theorem op_carry (hC : CR σ c) {κ : Nat} (hκ : κ < 8) (hv : vd κ σ.s.b x1 x2 x3 = 0) : ∃ (s' : Sx) (r : Nat) (wf pf cn np : Int32) (ℓ φ pt pe : Nat → Int32) (so se : Nat → Int64) (a b : Nat → Nat → Int64) (e t : Nat → Int64) (res et : Int32) (q : QC) (a' b' : Nat → Nat → Int64) (e' t' : Nat → Int64), Cf_L_carryOut c.waveIsFresh c.peelingIsFresh c.n.count c.n.front c.n.least c.n.window c.n.pulses c.n.lengths c.n.fractions c.n.pulseTimes c.n.pulseEnergies c.n.sound c.n.seen c.w_near c.w_far c.w_echoes c.w_totals c.p_result c.p_endTime c.q.count c.q.front c.q.least c.q.window c.q.pulses c.q.lengths c.q.fractions c.q.pulseTimes c.q.pulseEnergies c.t_near c.t_far c.t_echoes c.t_totals κ x1 x2 x3 = some (wf, pf, cn, np, ℓ, φ, pt, pe, so, se, a, b, e, t, res, et, q.count, q.front, q.least, q.window, q.pulses, q.lengths, q.fractions, q.pulseTimes, q.pulseEnergies, a', b', e', t', kI r) ∧ SN κ σ.s x1 x2 x3 s' r ∧ CR (SS.mk s' σ.k σ.H σ.L σ.bt) (CK.mk wf pf (SC.mk cn c.n.front c.n.least c.n.window np ℓ φ pt pe so se) c.hcount c.hp c.h0 c.h1 c.h2 c.s_length c.s_command c.s_position c.s_fault c.s_bytes c.s_numbers a b e t res et q a' b' e' t') := by
  have hC0 := hC
  by_cases h5 : κ < 5
  · obtain ⟨cn, np, ℓ, φ, pt, pe, e1, q1, q2⟩ := op_edit hC h5 hv (wf := c.waveIsFresh) (pf := c.peelingIsFresh)
    obtain ⟨r, hr1, hr2⟩ := an_r κ hC.1.1.1 hv h5
    have hsn : SN κ σ.s x1 x2 x3 (σ.s.wb (eb κ σ.s.b x1 x2 x3)) r := Or.inl ⟨h5, rfl, hr1, hr2⟩
    obtain ⟨hO, hn, hh, hsc, hw, hp⟩ := hC
    refine ⟨_, r, kI 0, kI 0, cn, np, ℓ, φ, pt, pe, c.n.sound, c.n.seen, c.w_near, c.w_far, c.w_echoes, c.w_totals, c.p_result, c.p_endTime, c.q, c.t_near, c.t_far, c.t_echoes, c.t_totals, ?_, hsn, ⟨⟨SN_OK hO.1 (fun _ => q1) hsn, hO.2⟩, q2, hh, hsc, Or.inl rfl, Or.inl rfl⟩⟩
    rw [hr1] at e1
    unfold Cf_L_carryOut
    have e8 : (κ < 8) = True := eq_true hκ
    simp (disch := omega) only [↓nm_eq, ↓bd_x, bdx_s, ↓bx_x, bxx_r, bxx_l, ↓bn_x, bnx_r, chk_t, ↓reduceIte, q32, q64, kI_lt_t, kI_lt_f, kI_le_t, kI_le_f, kI_eq_t, kI_eq_f, kL_lt_t, kL_lt_f, kL_le_t, kL_le_f, kL_eq_t, kL_eq_f, kI_m1, kI_m1', m1_m1, kI_n1, kI_n1', n1_add', eq_self, inb_t, kI_nat, kI_add, kI_mul, kI_sub, kI_div, kI_mod, kI_long, kL_add, kL_mul, kL_sub, kL_div, kL_mod, kL_int, n1_add, not_false_eq_true, not_true_eq_false, and_true, true_and, and_false, false_and, or_true, true_or, or_false, false_or, Nat.reduceEqDiff, IN, IM, e8, nI_k, e1]
  · obtain ⟨hO, hn, hh, hsc, hw, hp⟩ := hC
    have hn0 := hn
    obtain ⟨⟨n1, n2, n3, n4, n5, n6, n7, n8, n9⟩, n10, n11⟩ := hn
    have e8 : (κ < 8) = True := eq_true hκ
    obtain ⟨a, b, e, t, e1, q1⟩ := op_pw hC0
    have t7 := q1.2.2.2 7 (by omega)
    have hcp : ∀ (g : Nat → Int64) u, u < 201 → va_cpy e g 0 0 201 u = kL (σ.s.b.ewB u) := fun g u hu => (cpy_in hu).trans (q1.2.2.1 u hu)
    obtain rfl | rfl | rfl : κ = 5 ∨ κ = 6 ∨ κ = 7 := by omega
    · have hsn : SN 5 σ.s x1 x2 x3 (Sx.mk σ.s.b σ.s.b.ewB σ.s.se) (σ.s.b.TOTB 7) := Or.inr (Or.inl ⟨rfl, rfl, rfl⟩)
      refine ⟨_, _, kI 1, c.peelingIsFresh, c.n.count, c.n.pulses, c.n.lengths, c.n.fractions, c.n.pulseTimes, c.n.pulseEnergies, va_cpy e c.n.sound 0 0 201, c.n.seen, a, b, e, t, c.p_result, c.p_endTime, c.q, c.t_near, c.t_far, c.t_echoes, c.t_totals, ?_, hsn, ⟨⟨SN_OK hO.1 (fun q => by omega) hsn, hO.2⟩, ⟨hn0.1, hcp _, n11⟩, hh, hsc, Or.inr ⟨rfl, q1⟩, ?_⟩⟩
      · unfold Cf_L_carryOut Cf_L_copyEchoes_n_sound
        simp (disch := omega) only [↓nm_eq, ↓bd_x, bdx_s, ↓bx_x, bxx_r, bxx_l, ↓bn_x, bnx_r, chk_t, ↓reduceIte, q32, q64, kI_lt_t, kI_lt_f, kI_le_t, kI_le_f, kI_eq_t, kI_eq_f, kL_lt_t, kL_lt_f, kL_le_t, kL_le_f, kL_eq_t, kL_eq_f, kI_m1, kI_m1', m1_m1, kI_n1, kI_n1', n1_add', eq_self, inb_t, kI_nat, kI_add, kI_mul, kI_sub, kI_div, kI_mod, kI_long, kL_add, kL_mul, kL_sub, kL_div, kL_mod, kL_int, n1_add, not_false_eq_true, not_true_eq_false, and_true, true_and, and_false, false_and, or_true, true_or, or_false, false_or, Nat.reduceEqDiff, IN, IM, e8, nI_k, e1, t7]
      · rcases hp with hp | ⟨hp, r, tm, n', ln', fr', hp2, hp3⟩
        · exact Or.inl hp
        · refine Or.inr ⟨hp, r, tm, n', ln', fr', ?_, hp3⟩
          exact PL_so hp2 _
    · have hsn : SN 6 σ.s x1 x2 x3 (Sx.mk σ.s.b σ.s.so σ.s.b.ewB) (σ.s.b.TOTB 7) := Or.inr (Or.inr (Or.inl ⟨rfl, rfl, rfl⟩))
      refine ⟨_, _, kI 0, kI 0, c.n.count, c.n.pulses, c.n.lengths, c.n.fractions, c.n.pulseTimes, c.n.pulseEnergies, c.n.sound, va_cpy e c.n.seen 0 0 201, a, b, e, t, c.p_result, c.p_endTime, c.q, c.t_near, c.t_far, c.t_echoes, c.t_totals, ?_, hsn, ⟨⟨SN_OK hO.1 (fun q => by omega) hsn, hO.2⟩, ⟨hn0.1, n10, hcp _⟩, hh, hsc, Or.inl rfl, Or.inl rfl⟩⟩
      unfold Cf_L_carryOut Cf_L_copyEchoes_n_seen Cf_L_forgetResults
      simp (disch := omega) only [↓nm_eq, ↓bd_x, bdx_s, ↓bx_x, bxx_r, bxx_l, ↓bn_x, bnx_r, chk_t, ↓reduceIte, q32, q64, kI_lt_t, kI_lt_f, kI_le_t, kI_le_f, kI_eq_t, kI_eq_f, kL_lt_t, kL_lt_f, kL_le_t, kL_le_f, kL_eq_t, kL_eq_f, kI_m1, kI_m1', m1_m1, kI_n1, kI_n1', n1_add', eq_self, inb_t, kI_nat, kI_add, kI_mul, kI_sub, kI_div, kI_mod, kI_long, kL_add, kL_mul, kL_sub, kL_div, kL_mod, kL_int, n1_add, not_false_eq_true, not_true_eq_false, and_true, true_and, and_false, false_and, or_true, true_or, or_false, false_or, Nat.reduceEqDiff, IN, IM, e8, nI_k, e1, t7]
    · obtain ⟨res, et, q, a', b', e', t', e2, q2⟩ := op_pp hC0
      have q2' := q2
      obtain ⟨r0, tm, n', ln', fr', p1, p2, p3, p4, p5, p6⟩ := q2'
      have hl := PL_0 p1
      have hsn : SN 7 σ.s x1 x2 x3 (σ.s.wb (Bn.mk n' ln' fr' σ.s.b.ft σ.s.b.ls σ.s.b.wn σ.s.b.np σ.s.b.pt σ.s.b.pe)) n' := Or.inr (Or.inr (Or.inr ⟨rfl, r0, tm, ln', fr', p1, rfl⟩))
      refine ⟨_, n', kI 0, kI 0, kI n', c.n.pulses, va_cpy q.lengths c.n.lengths 0 0 8, va_cpy q.fractions c.n.fractions 0 0 8, c.n.pulseTimes, c.n.pulseEnergies, c.n.sound, c.n.seen, c.w_near, c.w_far, c.w_echoes, c.w_totals, res, et, q, a', b', e', t', ?_, hsn, ⟨⟨SN_OK hO.1 (fun q => by omega) hsn, hO.2⟩, ⟨⟨rfl, n2, n3, n4, n5, fun k hk => (cpy_in (by have := hl.1; have : k < n' := hk; omega)).trans (p5 k hk), fun k hk => (cpy_in (by have := hl.1; have : k < n' := hk; omega)).trans (p6 k hk), n8, n9⟩, n10, n11⟩, hh, hsc, Or.inl rfl, Or.inl rfl⟩⟩
      unfold Cf_L_carryOut Cf_L_forgetResults Cf_B_takeLine_n_q
      simp (disch := omega) only [↓nm_eq, ↓bd_x, bdx_s, ↓bx_x, bxx_r, bxx_l, ↓bn_x, bnx_r, chk_t, ↓reduceIte, q32, q64, kI_lt_t, kI_lt_f, kI_le_t, kI_le_f, kI_eq_t, kI_eq_f, kL_lt_t, kL_lt_f, kL_le_t, kL_le_f, kL_eq_t, kL_eq_f, kI_m1, kI_m1', m1_m1, kI_n1, kI_n1', n1_add', eq_self, inb_t, kI_nat, kI_add, kI_mul, kI_sub, kI_div, kI_mod, kI_long, kL_add, kL_mul, kL_sub, kL_div, kL_mod, kL_int, n1_add, not_false_eq_true, not_true_eq_false, and_true, true_and, and_false, false_and, or_true, true_or, or_false, false_or, Nat.reduceEqDiff, IN, IM, e8, nI_k, e2, p4]
theorem ev_copies {s : Sx} (hs : s.OK) {ech : Nat → Int64} (hE : ∀ t, t < 201 → ech t = kL (s.b.ewB t)) {m : Nat → Int64} {B : Nat} (hB : B = 29 ∨ B = 230) : ∃ m', Rl_copies_8 ech (kI B) FUEL m (kI 0) (kI 0) = some (m', kI (s.b.TOTB 7)) ∧ (∀ t, t < 201 → m' (B + t) = kL (s.b.ewB t)) ∧ ∀ j, ¬ (B ≤ j ∧ j < B + 201) → m' j = m j := by
  have hw := fun t => ew_le (win := s.b.wn) (Bn.LOK hs.1) t
  obtain ⟨⟨a1, a2⟩, e, q1, q2, q3⟩ := loop_gen (L := fun fu (z : (Nat → Int64) × Int32) x => Rl_copies_8 ech (kI B) fu z.1 z.2 x) (fun i z => z.2 = kI (sm (fun t => if 0 < s.b.ewB t then 1 else 0) i) ∧ (∀ t, t < i → z.1 (B + t) = kL (s.b.ewB t)) ∧ ∀ j, ¬ (B ≤ j ∧ j < B + 201) → z.1 j = m j) (fun z => z.2 = kI (s.b.TOTB 7) ∧ (∀ t, t < 201 → z.1 (B + t) = kL (s.b.ewB t)) ∧ ∀ j, ¬ (B ≤ j ∧ j < B + 201) → z.1 j = m j) 201 (fun fu i z hi hz => by
      obtain ⟨z1, z2⟩ := z
      obtain ⟨h1, h2, h3⟩ := hz
      (try dsimp only at h1 h2 h3)
      subst h1
      have b1 := hw i
      refine Or.inr ⟨(vp_updL z1 (B + i) (kL (s.b.ewB i)), kI (sm (fun t => if 0 < s.b.ewB t then 1 else 0) (i + 1))), ?_, rfl, fun t ht => ?_, fun j hj => ?_⟩
      · simp only [Rl_copies_8, Rf_copies_46]
        have b1' : s.b.ewB i ≤ 4000000 := b1
        by_cases c : 0 < s.b.ewB i
        · simp (disch := omega) only [↓nm_eq, ↓bd_x, bdx_s, ↓bx_x, bxx_r, bxx_l, ↓bn_x, bnx_r, chk_t, ↓reduceIte, q32, q64, kI_lt_t, kI_lt_f, kI_le_t, kI_le_f, kI_eq_t, kI_eq_f, kL_lt_t, kL_lt_f, kL_le_t, kL_le_f, kL_eq_t, kL_eq_f, kI_m1, kI_m1', m1_m1, kI_n1, kI_n1', n1_add', eq_self, inb_t, kI_nat, kI_add, kI_mul, kI_sub, kI_div, kI_mod, kI_long, kL_add, kL_mul, kL_sub, kL_div, kL_mod, kL_int, n1_add, not_false_eq_true, not_true_eq_false, and_true, true_and, and_false, false_and, or_true, true_or, or_false, false_or, Nat.reduceEqDiff, IN, IM, hE, sm_s, c]
        · simp (disch := omega) only [↓nm_eq, ↓bd_x, bdx_s, ↓bx_x, bxx_r, bxx_l, ↓bn_x, bnx_r, chk_t, ↓reduceIte, q32, q64, kI_lt_t, kI_lt_f, kI_le_t, kI_le_f, kI_eq_t, kI_eq_f, kL_lt_t, kL_lt_f, kL_le_t, kL_le_f, kL_eq_t, kL_eq_f, kI_m1, kI_m1', m1_m1, kI_n1, kI_n1', n1_add', eq_self, inb_t, kI_nat, kI_add, kI_mul, kI_sub, kI_div, kI_mod, kI_long, kL_add, kL_mul, kL_sub, kL_div, kL_mod, kL_int, n1_add, not_false_eq_true, not_true_eq_false, and_true, true_and, and_false, false_and, or_true, true_or, or_false, false_or, Nat.reduceEqDiff, IN, IM, hE, sm_s, c]
      · by_cases c : t = i
        · rw [c]; exact up_at
        · exact (up_ne (by omega)).trans (h2 t (by omega))
      · exact (up_ne (by omega)).trans (h3 j hj))
    (fun fu z hz => ⟨z, by simp only [Rl_copies_8]; simp (disch := omega) only [↓nm_eq, ↓bd_x, bdx_s, ↓bx_x, bxx_r, bxx_l, ↓bn_x, bnx_r, chk_t, ↓reduceIte, q32, q64, kI_lt_t, kI_lt_f, kI_le_t, kI_le_f, kI_eq_t, kI_eq_f, kL_lt_t, kL_lt_f, kL_le_t, kL_le_f, kL_eq_t, kL_eq_f, kI_m1, kI_m1', m1_m1, kI_n1, kI_n1', n1_add', eq_self, inb_t, kI_nat, kI_add, kI_mul, kI_sub, kI_div, kI_mod, kI_long, kL_add, kL_mul, kL_sub, kL_div, kL_mod, kL_int, n1_add, not_false_eq_true, not_true_eq_false, and_true, true_and, and_false, false_and, or_true, true_or, or_false, false_or, Nat.reduceEqDiff, IN, IM], hz⟩) FUEL 0 (m, kI 0) (by have : FUEL = 4096 := rfl; omega) (by omega) ⟨rfl, fun t ht => by omega, fun j _ => rfl⟩
  (try dsimp only at q1)
  subst q1
  exact ⟨a1, e, q2, q3⟩
theorem op_copiesR (hC : CR σ c) (hD : DL σ d) {B : Nat} (hB : B = 29 ∨ B = 230) : ∃ (m' : Nat → Int64) (lp : Int32) (ℓ φ : Nat → Int32) (pm : Int32) (tm : Nat → Int32) (en far near ech : Nat → Int64) (lf dr : Int64) (mg ds ct : Int32) (pk : Int64), Rf_copies d.m d.lineParts d.lengths d.fractions d.pulseMany d.times d.energies d.far d.near d.echoes d.left d.dropped d.merged d.drops d.contributions d.packet (kI B) = some (m', lp, ℓ, φ, pm, tm, en, far, near, ech, lf, dr, mg, ds, ct, pk, kI (σ.s.b.TOTB 7)) ∧ (B = 29 → RS (Sx.mk σ.s.b σ.s.b.ewB σ.s.se) m') ∧ (B = 230 → RS (Sx.mk σ.s.b σ.s.so σ.s.b.ewB) m') := by
  obtain ⟨ℓ, φ, tm, en, far, near, ech, lf, dr, mg, ds, e2, q2, q3⟩ := op_run hC hD
  obtain ⟨m', e3, r1, r2⟩ := ev_copies hC.1.1 q3.2.1 (m := d.m) hB
  obtain ⟨m0, m1, m2, m3, m4, m5, m6, m7, m8, m9, m10⟩ := hD.1
  have hn := hC.1.1.1.1
  have hnp : σ.s.b.np ≤ 4 := hC.1.1.1.2.2.2.2.2.2.1
  refine ⟨m', kI σ.s.b.n, ℓ, φ, kI σ.s.b.np, tm, en, far, near, ech, lf, dr, mg, ds, kI 0, kL 0, ?_, fun hb => ?_, fun hb => ?_⟩
  · unfold Rf_copies
    rw [e2, bd_s]
    (try dsimp only)
    rw [q32_0, e3, bd_s]
  · subst hb
    refine ⟨?_, fun k hk => ?_, fun k hk => ?_, ?_, ?_, ?_, ?_, fun i hi => ?_, fun i hi => ?_, r1, fun t ht => ?_⟩
    · rw [r2 _ (by omega)]; exact m0
    · have hk' : k < σ.s.b.n := hk
      rw [r2 _ (by omega)]; exact m1 k hk
    · have hk' : k < σ.s.b.n := hk
      rw [r2 _ (by omega)]; exact m2 k hk
    · rw [r2 _ (by omega)]; exact m3
    · rw [r2 _ (by omega)]; exact m4
    · rw [r2 _ (by omega)]; exact m5
    · rw [r2 _ (by omega)]; exact m6
    · have hi' : i < σ.s.b.np := hi
      rw [r2 _ (by omega)]; exact m7 i hi
    · have hi' : i < σ.s.b.np := hi
      rw [r2 _ (by omega)]; exact m8 i hi
    · rw [r2 _ (by omega)]; exact m10 t ht
  · subst hb
    refine ⟨?_, fun k hk => ?_, fun k hk => ?_, ?_, ?_, ?_, ?_, fun i hi => ?_, fun i hi => ?_, fun t ht => ?_, r1⟩
    · rw [r2 _ (by omega)]; exact m0
    · have hk' : k < σ.s.b.n := hk
      rw [r2 _ (by omega)]; exact m1 k hk
    · have hk' : k < σ.s.b.n := hk
      rw [r2 _ (by omega)]; exact m2 k hk
    · rw [r2 _ (by omega)]; exact m3
    · rw [r2 _ (by omega)]; exact m4
    · rw [r2 _ (by omega)]; exact m5
    · rw [r2 _ (by omega)]; exact m6
    · have hi' : i < σ.s.b.np := hi
      rw [r2 _ (by omega)]; exact m7 i hi
    · have hi' : i < σ.s.b.np := hi
      rw [r2 _ (by omega)]; exact m8 i hi
    · rw [r2 _ (by omega)]; exact m9 t ht
theorem ev_adopts {s : Sx} {n' : Nat} {ln' fr' : Nat → Nat} (hl : LnOK n' ln' fr') {ℓ φ : Nat → Int32} (hℓ : ∀ k, k < n' → ℓ k = kI (ln' k)) (hφ : ∀ k, k < n' → φ (k + 1) = kI (fr' k)) {m : Nat → Int64} : ∃ m', Rl_adopts_17 (kI n') ℓ φ FUEL (vp_updL m 0 (kL n')) (kI 0) = some m' ∧ m' 0 = kL n' ∧ (∀ k, k < n' → m' (1 + k) = kL (ln' k)) ∧ (∀ k, k < n' → m' (9 + k) = kL (fr' k)) ∧ ∀ j, 17 ≤ j → m' j = m j := by
  have hn := hl.1
  obtain ⟨a, e, q1, q2, q3, q4⟩ := loop_gen (L := fun fu (z : Nat → Int64) x => Rl_adopts_17 (kI n') ℓ φ fu z x) (fun i z => z 0 = kL n' ∧ (∀ k, k < i → z (1 + k) = kL (ln' k)) ∧ (∀ k, k < i → z (9 + k) = kL (fr' k)) ∧ ∀ j, 17 ≤ j → z j = m j) (fun z => z 0 = kL n' ∧ (∀ k, k < n' → z (1 + k) = kL (ln' k)) ∧ (∀ k, k < n' → z (9 + k) = kL (fr' k)) ∧ ∀ j, 17 ≤ j → z j = m j) n' (fun fu i z hi hz => by
      obtain ⟨h0, h1, h2, h3⟩ := hz
      have b := hl.2 i hi
      refine Or.inr ⟨vp_updL (vp_updL z (1 + i) (kL (ln' i))) (9 + i) (kL (fr' i)), ?_, ?_, fun k hk => ?_, fun k hk => ?_, fun j hj => ?_⟩
      · simp only [Rl_adopts_17]
        have l := ev_laysPart (z := z) (k := i) (a := ln' i) (p := fr' i) (by omega) (by omega) (by omega)
        simp (disch := omega) only [↓nm_eq, ↓bd_x, bdx_s, ↓bx_x, bxx_r, bxx_l, ↓bn_x, bnx_r, chk_t, ↓reduceIte, q32, q64, kI_lt_t, kI_lt_f, kI_le_t, kI_le_f, kI_eq_t, kI_eq_f, kL_lt_t, kL_lt_f, kL_le_t, kL_le_f, kL_eq_t, kL_eq_f, kI_m1, kI_m1', m1_m1, kI_n1, kI_n1', n1_add', eq_self, inb_t, kI_nat, kI_add, kI_mul, kI_sub, kI_div, kI_mod, kI_long, kL_add, kL_mul, kL_sub, kL_div, kL_mod, kL_int, n1_add, not_false_eq_true, not_true_eq_false, and_true, true_and, and_false, false_and, or_true, true_or, or_false, false_or, Nat.reduceEqDiff, IN, IM, hℓ, hφ, l]
      · rw [up_ne (by omega), up_ne (by omega)]; exact h0
      · by_cases c : k = i
        · rw [c, up_ne (by omega), up_at]
        · rw [up_ne (by omega), up_ne (by omega)]; exact h1 k (by omega)
      · by_cases c : k = i
        · rw [c, up_at]
        · rw [up_ne (by omega), up_ne (by omega)]; exact h2 k (by omega)
      · rw [up_ne (by omega), up_ne (by omega)]; exact h3 j hj)
    (fun fu z hz => ⟨z, by simp only [Rl_adopts_17]; simp (disch := omega) only [↓nm_eq, ↓bd_x, bdx_s, ↓bx_x, bxx_r, bxx_l, ↓bn_x, bnx_r, chk_t, ↓reduceIte, q32, q64, kI_lt_t, kI_lt_f, kI_le_t, kI_le_f, kI_eq_t, kI_eq_f, kL_lt_t, kL_lt_f, kL_le_t, kL_le_f, kL_eq_t, kL_eq_f, kI_m1, kI_m1', m1_m1, kI_n1, kI_n1', n1_add', eq_self, inb_t, kI_nat, kI_add, kI_mul, kI_sub, kI_div, kI_mod, kI_long, kL_add, kL_mul, kL_sub, kL_div, kL_mod, kL_int, n1_add, not_false_eq_true, not_true_eq_false, and_true, true_and, and_false, false_and, or_true, true_or, or_false, false_or, Nat.reduceEqDiff, IN, IM], hz⟩) FUEL 0 (vp_updL m 0 (kL n')) (by have : FUEL = 4096 := rfl; omega) (by omega) ⟨up_at, fun k hk => by omega, fun k hk => by omega, fun j hj => up_ne (by omega)⟩
  exact ⟨a, e, q1, q2, q3, q4⟩
theorem op_adoptsR (hC : CR σ c) (hD : DL σ d) : ∃ (n' r0 : Nat) (tq : Int32) (ln' fr' : Nat → Nat) (m' : Nat → Int64) (lp : Int32) (ℓ φ : Nat → Int32) (pm : Int32) (tm : Nat → Int32) (en far near ech : Nat → Int64) (lf dr : Int64) (mg ds ct : Int32) (pk : Int64) (pr pt ps : Int32), Rf_adopts d.m d.lineParts d.lengths d.fractions d.pulseMany d.times d.energies d.far d.near d.echoes d.left d.dropped d.merged d.drops d.contributions d.packet d.peelResult d.peelTime d.peelSum = some (m', lp, ℓ, φ, pm, tm, en, far, near, ech, lf, dr, mg, ds, ct, pk, pr, pt, ps, kI n') ∧ PL σ.s 0 (fun _ => 0) (fun _ => 0) r0 tq n' ln' fr' ∧ RS (σ.s.wb (Bn.mk n' ln' fr' σ.s.b.ft σ.s.b.ls σ.s.b.wn σ.s.b.np σ.s.b.pt σ.s.b.pe)) m' := by
  obtain ⟨r', tq, n', ln', fr', lp, ℓ, φ, tm, en, far, near, ech, lf, dr, mg, ds, ct, pk, pr, pt, ps, e2, g2, q2⟩ := ev_peelAll hC.1.1 hD.1 (lp := d.lineParts) (ℓ := d.lengths) (φ := d.fractions) (pm := d.pulseMany) (tm := d.times) (en := d.energies) (far := d.far) (near := d.near) (ech := d.echoes) (lf := d.left) (dr := d.dropped) (mg := d.merged) (ds := d.drops) (ct := d.contributions) (pk := d.packet) (pr := d.peelResult) (pt := d.peelTime) (ps := d.peelSum)
  obtain ⟨r1, r2, r3, r4, r5, r6⟩ := q2
  have hl := PL_0 g2
  have hn8 := hl.1
  obtain ⟨m', e3, a0, a1, a2, a3⟩ := ev_adopts (s := σ.s) hl r2 (fun k hk => by have := r3 (k + 1) (by omega); rw [pfq_s k hk] at this; exact this) (m := d.m)
  refine ⟨n', r', tq, ln', fr', m', lp, ℓ, φ, kI 1, tm, en, far, near, ech, lf, dr, mg, ds, ct, pk, pr, pt, ps, ?_, g2, RS_line hD.1 hC.1.1.1.2.2.2.2.2.2.1 a0 a1 a2 (fun j h1 _ => a3 j h1)⟩
  unfold Rf_adopts
  simp (disch := omega) only [↓nm_eq, ↓bd_x, bdx_s, ↓bx_x, bxx_r, bxx_l, ↓bn_x, bnx_r, chk_t, ↓reduceIte, q32, q64, kI_lt_t, kI_lt_f, kI_le_t, kI_le_f, kI_eq_t, kI_eq_f, kL_lt_t, kL_lt_f, kL_le_t, kL_le_f, kL_eq_t, kL_eq_f, kI_m1, kI_m1', m1_m1, kI_n1, kI_n1', n1_add', eq_self, inb_t, kI_nat, kI_add, kI_mul, kI_sub, kI_div, kI_mod, kI_long, kL_add, kL_mul, kL_sub, kL_div, kL_mod, kL_int, n1_add, not_false_eq_true, not_true_eq_false, and_true, true_and, and_false, false_and, or_true, true_or, or_false, false_or, Nat.reduceEqDiff, IN, IM, e2, r1, e3]
theorem OP_keepSound (hC : CR σ c) (hD : DL σ d) : ∃ (s' : Sx) (r : Int32) (wf pf cn np : Int32) (ℓ φ pt pe : Nat → Int32) (so se : Nat → Int64) (a b : Nat → Nat → Int64) (e t : Nat → Int64) (res et : Int32) (q : QC) (a' b' : Nat → Nat → Int64) (e' t' : Nat → Int64) (hp' : Nat → Nat) (g0 g1 g2 : SC) (m' sv' : Nat → Int64) (lp : Int32) (ℓ1 φ1 : Nat → Int32) (pm : Int32) (tm : Nat → Int32) (en far near ech : Nat → Int64) (lf dr : Int64) (mg ds ct : Int32) (pk' : Int64), Cf_L_keepSound c.waveIsFresh c.peelingIsFresh c.n.count c.n.front c.n.least c.n.window c.n.pulses c.n.lengths c.n.fractions c.n.pulseTimes c.n.pulseEnergies c.n.sound c.n.seen c.hcount c.hp c.h0.count c.h0.front c.h0.least c.h0.window c.h0.pulses c.h0.lengths c.h0.fractions c.h0.pulseTimes c.h0.pulseEnergies c.h0.sound c.h0.seen c.h1.count c.h1.front c.h1.least c.h1.window c.h1.pulses c.h1.lengths c.h1.fractions c.h1.pulseTimes c.h1.pulseEnergies c.h1.sound c.h1.seen c.h2.count c.h2.front c.h2.least c.h2.window c.h2.pulses c.h2.lengths c.h2.fractions c.h2.pulseTimes c.h2.pulseEnergies c.h2.sound c.h2.seen c.w_near c.w_far c.w_echoes c.w_totals c.p_result c.p_endTime c.q.count c.q.front c.q.least c.q.window c.q.pulses c.q.lengths c.q.fractions c.q.pulseTimes c.q.pulseEnergies c.t_near c.t_far c.t_echoes c.t_totals = some (wf, pf, cn, np, ℓ, φ, pt, pe, so, se, kI (pk σ.k), hp', g0.count, g0.front, g0.least, g0.window, g0.pulses, g0.lengths, g0.fractions, g0.pulseTimes, g0.pulseEnergies, g0.sound, g0.seen, g1.count, g1.front, g1.least, g1.window, g1.pulses, g1.lengths, g1.fractions, g1.pulseTimes, g1.pulseEnergies, g1.sound, g1.seen, g2.count, g2.front, g2.least, g2.window, g2.pulses, g2.lengths, g2.fractions, g2.pulseTimes, g2.pulseEnergies, g2.sound, g2.seen, a, b, e, t, res, et, q.count, q.front, q.least, q.window, q.pulses, q.lengths, q.fractions, q.pulseTimes, q.pulseEnergies, a', b', e', t', r) ∧ Rf_keepSound d.m d.saved d.savedCount d.code d.lineParts d.lengths d.fractions d.pulseMany d.times d.energies d.far d.near d.echoes d.left d.dropped d.merged d.drops d.contributions d.packet = some (m', sv', kI (pk σ.k), kI 0, lp, ℓ1, φ1, pm, tm, en, far, near, ech, lf, dr, mg, ds, ct, pk', r) ∧ CR (σ.ch s') (CK.mk wf pf (SC.mk cn c.n.front c.n.least c.n.window np ℓ φ pt pe so se) (kI (pk σ.k)) hp' g0 g1 g2 c.s_length c.s_command c.s_position c.s_fault c.s_bytes c.s_numbers a b e t res et q a' b' e' t') ∧ DL (σ.ch s') (RK.mk m' sv' (kI (pk σ.k)) d.script d.scriptLength (kI 0) lp ℓ1 φ1 pm tm en far near ech lf dr mg ds ct pk' d.peelResult d.peelTime d.peelSum d.at_ d.commands d.draft d.hash) := by
  obtain ⟨hp', g0, g1, g2, e2, q3⟩ := op_keep hC
  obtain ⟨sv', e4, q4⟩ := op_keepR hC.1 hD
  obtain ⟨s', r, wf, pf, cn, np, ℓ, φ, pt, pe, so, se, a, b, e, t, res, et, q, a', b', e', t', e1, hsn, hc⟩ := op_carry hC (κ := 5) (x1 := kI 0) (x2 := kI 0) (x3 := kI 0) (by omega) rfl
  obtain ⟨m', lp, ℓ1, φ1, pm, tm, en, far, near, ech, lf, dr, mg, ds, ct, pk', e5, q5, _⟩ := op_copiesR hC hD (B := 29) (Or.inl rfl)
  obtain ⟨z1, z2⟩ := SN_det hsn (Or.inr (Or.inl ⟨rfl, rfl, rfl⟩))
  subst z2
  refine ⟨s', kI (σ.s.b.TOTB 7), wf, pf, cn, np, ℓ, φ, pt, pe, so, se, a, b, e, t, res, et, q, a', b', e', t', hp', g0, g1, g2, m', sv', lp, ℓ1, φ1, pm, tm, en, far, near, ech, lf, dr, mg, ds, ct, pk', ?_, ?_, ⟨ch_OK hC.1 hc.1.1, hc.2.1, q3, hc.2.2.2.1, hc.2.2.2.2.1, hc.2.2.2.2.2⟩, ⟨by rw [show (σ.ch s').s = s' from rfl, z1]; exact q5 rfl, q4, hD.2.2.1, hD.2.2.2⟩⟩
  · unfold Cf_L_keepSound
    rw [e2, bd_s]
    simp (disch := omega) only [↓nm_eq, ↓bd_x, bdx_s, ↓bx_x, bxx_r, bxx_l, ↓bn_x, bnx_r, chk_t, ↓reduceIte, q32, q64, kI_lt_t, kI_lt_f, kI_le_t, kI_le_f, kI_eq_t, kI_eq_f, kL_lt_t, kL_lt_f, kL_le_t, kL_le_f, kL_eq_t, kL_eq_f, kI_m1, kI_m1', m1_m1, kI_n1, kI_n1', n1_add', eq_self, inb_t, kI_nat, kI_add, kI_mul, kI_sub, kI_div, kI_mod, kI_long, kL_add, kL_mul, kL_sub, kL_div, kL_mod, kL_int, n1_add, not_false_eq_true, not_true_eq_false, and_true, true_and, and_false, false_and, or_true, true_or, or_false, false_or, Nat.reduceEqDiff, IN, IM, e1]
  · unfold Rf_keepSound
    simp (disch := omega) only [↓nm_eq, ↓bd_x, bdx_s, ↓bx_x, bxx_r, bxx_l, ↓bn_x, bnx_r, chk_t, ↓reduceIte, q32, q64, kI_lt_t, kI_lt_f, kI_le_t, kI_le_f, kI_eq_t, kI_eq_f, kL_lt_t, kL_lt_f, kL_le_t, kL_le_f, kL_eq_t, kL_eq_f, kI_m1, kI_m1', m1_m1, kI_n1, kI_n1', n1_add', eq_self, inb_t, kI_nat, kI_add, kI_mul, kI_sub, kI_div, kI_mod, kI_long, kL_add, kL_mul, kL_sub, kL_div, kL_mod, kL_int, n1_add, not_false_eq_true, not_true_eq_false, and_true, true_and, and_false, false_and, or_true, true_or, or_false, false_or, Nat.reduceEqDiff, IN, IM, e4, e5]
theorem OP_observe (hC : CR σ c) (hD : DL σ d) : ∃ (s' : Sx) (r : Int32) (wf pf cn np : Int32) (ℓ φ pt pe : Nat → Int32) (so se : Nat → Int64) (a b : Nat → Nat → Int64) (e t : Nat → Int64) (res et : Int32) (q : QC) (a' b' : Nat → Nat → Int64) (e' t' : Nat → Int64) (hp' : Nat → Nat) (g0 g1 g2 : SC) (m' sv' : Nat → Int64) (lp : Int32) (ℓ1 φ1 : Nat → Int32) (pm : Int32) (tm : Nat → Int32) (en far near ech : Nat → Int64) (lf dr : Int64) (mg ds ct : Int32) (pk' : Int64), Cf_L_observe c.waveIsFresh c.peelingIsFresh c.n.count c.n.front c.n.least c.n.window c.n.pulses c.n.lengths c.n.fractions c.n.pulseTimes c.n.pulseEnergies c.n.sound c.n.seen c.hcount c.hp c.h0.count c.h0.front c.h0.least c.h0.window c.h0.pulses c.h0.lengths c.h0.fractions c.h0.pulseTimes c.h0.pulseEnergies c.h0.sound c.h0.seen c.h1.count c.h1.front c.h1.least c.h1.window c.h1.pulses c.h1.lengths c.h1.fractions c.h1.pulseTimes c.h1.pulseEnergies c.h1.sound c.h1.seen c.h2.count c.h2.front c.h2.least c.h2.window c.h2.pulses c.h2.lengths c.h2.fractions c.h2.pulseTimes c.h2.pulseEnergies c.h2.sound c.h2.seen c.w_near c.w_far c.w_echoes c.w_totals c.p_result c.p_endTime c.q.count c.q.front c.q.least c.q.window c.q.pulses c.q.lengths c.q.fractions c.q.pulseTimes c.q.pulseEnergies c.t_near c.t_far c.t_echoes c.t_totals = some (wf, pf, cn, np, ℓ, φ, pt, pe, so, se, kI (pk σ.k), hp', g0.count, g0.front, g0.least, g0.window, g0.pulses, g0.lengths, g0.fractions, g0.pulseTimes, g0.pulseEnergies, g0.sound, g0.seen, g1.count, g1.front, g1.least, g1.window, g1.pulses, g1.lengths, g1.fractions, g1.pulseTimes, g1.pulseEnergies, g1.sound, g1.seen, g2.count, g2.front, g2.least, g2.window, g2.pulses, g2.lengths, g2.fractions, g2.pulseTimes, g2.pulseEnergies, g2.sound, g2.seen, a, b, e, t, res, et, q.count, q.front, q.least, q.window, q.pulses, q.lengths, q.fractions, q.pulseTimes, q.pulseEnergies, a', b', e', t', r) ∧ Rf_observe d.m d.saved d.savedCount d.code d.lineParts d.lengths d.fractions d.pulseMany d.times d.energies d.far d.near d.echoes d.left d.dropped d.merged d.drops d.contributions d.packet = some (m', sv', kI (pk σ.k), kI 0, lp, ℓ1, φ1, pm, tm, en, far, near, ech, lf, dr, mg, ds, ct, pk', r) ∧ CR (σ.ch s') (CK.mk wf pf (SC.mk cn c.n.front c.n.least c.n.window np ℓ φ pt pe so se) (kI (pk σ.k)) hp' g0 g1 g2 c.s_length c.s_command c.s_position c.s_fault c.s_bytes c.s_numbers a b e t res et q a' b' e' t') ∧ DL (σ.ch s') (RK.mk m' sv' (kI (pk σ.k)) d.script d.scriptLength (kI 0) lp ℓ1 φ1 pm tm en far near ech lf dr mg ds ct pk' d.peelResult d.peelTime d.peelSum d.at_ d.commands d.draft d.hash) := by
  obtain ⟨hp', g0, g1, g2, e2, q3⟩ := op_keep hC
  obtain ⟨sv', e4, q4⟩ := op_keepR hC.1 hD
  obtain ⟨s', r, wf, pf, cn, np, ℓ, φ, pt, pe, so, se, a, b, e, t, res, et, q, a', b', e', t', e1, hsn, hc⟩ := op_carry hC (κ := 6) (x1 := kI 0) (x2 := kI 0) (x3 := kI 0) (by omega) rfl
  obtain ⟨m', lp, ℓ1, φ1, pm, tm, en, far, near, ech, lf, dr, mg, ds, ct, pk', e5, _, q5⟩ := op_copiesR hC hD (B := 230) (Or.inr rfl)
  obtain ⟨z1, z2⟩ := SN_det hsn (Or.inr (Or.inr (Or.inl ⟨rfl, rfl, rfl⟩)))
  subst z2
  refine ⟨s', kI (σ.s.b.TOTB 7), wf, pf, cn, np, ℓ, φ, pt, pe, so, se, a, b, e, t, res, et, q, a', b', e', t', hp', g0, g1, g2, m', sv', lp, ℓ1, φ1, pm, tm, en, far, near, ech, lf, dr, mg, ds, ct, pk', ?_, ?_, ⟨ch_OK hC.1 hc.1.1, hc.2.1, q3, hc.2.2.2.1, hc.2.2.2.2.1, hc.2.2.2.2.2⟩, ⟨by rw [show (σ.ch s').s = s' from rfl, z1]; exact q5 rfl, q4, hD.2.2.1, hD.2.2.2⟩⟩
  · unfold Cf_L_observe
    rw [e2, bd_s]
    simp (disch := omega) only [↓nm_eq, ↓bd_x, bdx_s, ↓bx_x, bxx_r, bxx_l, ↓bn_x, bnx_r, chk_t, ↓reduceIte, q32, q64, kI_lt_t, kI_lt_f, kI_le_t, kI_le_f, kI_eq_t, kI_eq_f, kL_lt_t, kL_lt_f, kL_le_t, kL_le_f, kL_eq_t, kL_eq_f, kI_m1, kI_m1', m1_m1, kI_n1, kI_n1', n1_add', eq_self, inb_t, kI_nat, kI_add, kI_mul, kI_sub, kI_div, kI_mod, kI_long, kL_add, kL_mul, kL_sub, kL_div, kL_mod, kL_int, n1_add, not_false_eq_true, not_true_eq_false, and_true, true_and, and_false, false_and, or_true, true_or, or_false, false_or, Nat.reduceEqDiff, IN, IM, e1]
  · unfold Rf_observe
    simp (disch := omega) only [↓nm_eq, ↓bd_x, bdx_s, ↓bx_x, bxx_r, bxx_l, ↓bn_x, bnx_r, chk_t, ↓reduceIte, q32, q64, kI_lt_t, kI_lt_f, kI_le_t, kI_le_f, kI_eq_t, kI_eq_f, kL_lt_t, kL_lt_f, kL_le_t, kL_le_f, kL_eq_t, kL_eq_f, kI_m1, kI_m1', m1_m1, kI_n1, kI_n1', n1_add', eq_self, inb_t, kI_nat, kI_add, kI_mul, kI_sub, kI_div, kI_mod, kI_long, kL_add, kL_mul, kL_sub, kL_div, kL_mod, kL_int, n1_add, not_false_eq_true, not_true_eq_false, and_true, true_and, and_false, false_and, or_true, true_or, or_false, false_or, Nat.reduceEqDiff, IN, IM, e4, e5]
theorem OP_adopt (hC : CR σ c) (hD : DL σ d) : ∃ (s' : Sx) (r : Int32) (wf pf cn np : Int32) (ℓ φ pt pe : Nat → Int32) (so se : Nat → Int64) (a b : Nat → Nat → Int64) (e t : Nat → Int64) (res et : Int32) (q : QC) (a' b' : Nat → Nat → Int64) (e' t' : Nat → Int64) (hp' : Nat → Nat) (g0 g1 g2 : SC) (m' sv' : Nat → Int64) (lp : Int32) (ℓ1 φ1 : Nat → Int32) (pm : Int32) (tm : Nat → Int32) (en far near ech : Nat → Int64) (lf dr : Int64) (mg ds ct : Int32) (pk' : Int64) (pr pt1 ps : Int32), Cf_L_adopt c.waveIsFresh c.peelingIsFresh c.n.count c.n.front c.n.least c.n.window c.n.pulses c.n.lengths c.n.fractions c.n.pulseTimes c.n.pulseEnergies c.n.sound c.n.seen c.hcount c.hp c.h0.count c.h0.front c.h0.least c.h0.window c.h0.pulses c.h0.lengths c.h0.fractions c.h0.pulseTimes c.h0.pulseEnergies c.h0.sound c.h0.seen c.h1.count c.h1.front c.h1.least c.h1.window c.h1.pulses c.h1.lengths c.h1.fractions c.h1.pulseTimes c.h1.pulseEnergies c.h1.sound c.h1.seen c.h2.count c.h2.front c.h2.least c.h2.window c.h2.pulses c.h2.lengths c.h2.fractions c.h2.pulseTimes c.h2.pulseEnergies c.h2.sound c.h2.seen c.w_near c.w_far c.w_echoes c.w_totals c.p_result c.p_endTime c.q.count c.q.front c.q.least c.q.window c.q.pulses c.q.lengths c.q.fractions c.q.pulseTimes c.q.pulseEnergies c.t_near c.t_far c.t_echoes c.t_totals = some (wf, pf, cn, np, ℓ, φ, pt, pe, so, se, kI (pk σ.k), hp', g0.count, g0.front, g0.least, g0.window, g0.pulses, g0.lengths, g0.fractions, g0.pulseTimes, g0.pulseEnergies, g0.sound, g0.seen, g1.count, g1.front, g1.least, g1.window, g1.pulses, g1.lengths, g1.fractions, g1.pulseTimes, g1.pulseEnergies, g1.sound, g1.seen, g2.count, g2.front, g2.least, g2.window, g2.pulses, g2.lengths, g2.fractions, g2.pulseTimes, g2.pulseEnergies, g2.sound, g2.seen, a, b, e, t, res, et, q.count, q.front, q.least, q.window, q.pulses, q.lengths, q.fractions, q.pulseTimes, q.pulseEnergies, a', b', e', t', r) ∧ Rf_adopt d.m d.saved d.savedCount d.code d.lineParts d.lengths d.fractions d.pulseMany d.times d.energies d.far d.near d.echoes d.left d.dropped d.merged d.drops d.contributions d.packet d.peelResult d.peelTime d.peelSum = some (m', sv', kI (pk σ.k), kI 0, lp, ℓ1, φ1, pm, tm, en, far, near, ech, lf, dr, mg, ds, ct, pk', pr, pt1, ps, r) ∧ CR (σ.ch s') (CK.mk wf pf (SC.mk cn c.n.front c.n.least c.n.window np ℓ φ pt pe so se) (kI (pk σ.k)) hp' g0 g1 g2 c.s_length c.s_command c.s_position c.s_fault c.s_bytes c.s_numbers a b e t res et q a' b' e' t') ∧ DL (σ.ch s') (RK.mk m' sv' (kI (pk σ.k)) d.script d.scriptLength (kI 0) lp ℓ1 φ1 pm tm en far near ech lf dr mg ds ct pk' pr pt1 ps d.at_ d.commands d.draft d.hash) := by
  obtain ⟨hp', g0, g1, g2, e2, q3⟩ := op_keep hC
  obtain ⟨sv', e4, q4⟩ := op_keepR hC.1 hD
  obtain ⟨s', r, wf, pf, cn, np, ℓ, φ, pt, pe, so, se, a, b, e, t, res, et, q, a', b', e', t', e1, hsn, hc⟩ := op_carry hC (κ := 7) (x1 := kI 0) (x2 := kI 0) (x3 := kI 0) (by omega) rfl
  obtain ⟨n', r0, tq, ln', fr', m', lp, ℓ1, φ1, pm, tm, en, far, near, ech, lf, dr, mg, ds, ct, pk', pr, pt1, ps, e5, p1, q5⟩ := op_adoptsR hC hD
  obtain ⟨z1, z2⟩ := SN_det hsn (Or.inr (Or.inr (Or.inr ⟨rfl, r0, tq, ln', fr', p1, rfl⟩)))
  subst z2
  refine ⟨s', kI r, wf, pf, cn, np, ℓ, φ, pt, pe, so, se, a, b, e, t, res, et, q, a', b', e', t', hp', g0, g1, g2, m', sv', lp, ℓ1, φ1, pm, tm, en, far, near, ech, lf, dr, mg, ds, ct, pk', pr, pt1, ps, ?_, ?_, ⟨ch_OK hC.1 hc.1.1, hc.2.1, q3, hc.2.2.2.1, hc.2.2.2.2.1, hc.2.2.2.2.2⟩, ⟨by rw [show (σ.ch s').s = s' from rfl, z1]; exact q5, q4, hD.2.2.1, hD.2.2.2⟩⟩
  · unfold Cf_L_adopt
    rw [e2, bd_s]
    simp (disch := omega) only [↓nm_eq, ↓bd_x, bdx_s, ↓bx_x, bxx_r, bxx_l, ↓bn_x, bnx_r, chk_t, ↓reduceIte, q32, q64, kI_lt_t, kI_lt_f, kI_le_t, kI_le_f, kI_eq_t, kI_eq_f, kL_lt_t, kL_lt_f, kL_le_t, kL_le_f, kL_eq_t, kL_eq_f, kI_m1, kI_m1', m1_m1, kI_n1, kI_n1', n1_add', eq_self, inb_t, kI_nat, kI_add, kI_mul, kI_sub, kI_div, kI_mod, kI_long, kL_add, kL_mul, kL_sub, kL_div, kL_mod, kL_int, n1_add, not_false_eq_true, not_true_eq_false, and_true, true_and, and_false, false_and, or_true, true_or, or_false, false_or, Nat.reduceEqDiff, IN, IM, e1]
  · unfold Rf_adopt
    simp (disch := omega) only [↓nm_eq, ↓bd_x, bdx_s, ↓bx_x, bxx_r, bxx_l, ↓bn_x, bnx_r, chk_t, ↓reduceIte, q32, q64, kI_lt_t, kI_lt_f, kI_le_t, kI_le_f, kI_eq_t, kI_eq_f, kL_lt_t, kL_lt_f, kL_le_t, kL_le_f, kL_eq_t, kL_eq_f, kI_m1, kI_m1', m1_m1, kI_n1, kI_n1', n1_add', eq_self, inb_t, kI_nat, kI_add, kI_mul, kI_sub, kI_div, kI_mod, kI_long, kL_add, kL_mul, kL_sub, kL_div, kL_mod, kL_int, n1_add, not_false_eq_true, not_true_eq_false, and_true, true_and, and_false, false_and, or_true, true_or, or_false, false_or, Nat.reduceEqDiff, IN, IM, e4, e5]
end OPS6
