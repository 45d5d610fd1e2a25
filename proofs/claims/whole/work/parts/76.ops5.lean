section OPS5
variable {σ : SS} {c : CK} {d : RK} {x1 x2 x3 : Int32}
theorem op_run (hC : CR σ c) (hD : DL σ d) : ∃ (ℓ φ : Nat → Int32) (tm : Nat → Int32) (en far near ech : Nat → Int64) (lf dr : Int64) (mg ds : Int32), Rf_runPresent d.m d.lineParts d.lengths d.fractions d.pulseMany d.times d.energies d.far d.near d.echoes d.left d.dropped d.merged d.drops d.contributions d.packet = some (kI σ.s.b.n, ℓ, φ, kI σ.s.b.np, tm, en, far, near, ech, lf, dr, mg, ds, kI 0, kL 0) ∧ LD σ.s.b ℓ φ tm en ∧ σ.s.b.RRB far near ech lf dr mg ds := ev_runPresent hC.1.1 hD.1
theorem bew (hC : CR σ c) (t : Nat) : σ.s.b.ewB t ≤ 4000000 := ew_le (Bn.LOK hC.1.1.1) t
theorem IN_kI {i a b : Nat} (hi : i < 2147483648) : IN (kI i) a b ↔ a ≤ i ∧ i ≤ b := by
  rw [IN_iff, kI_toInt hi]
  omega
theorem ev_echoC (hC : CR σ c) {i : Nat} (hi : i ≤ σ.s.b.wn) : ∃ (a b : Nat → Nat → Int64) (e t : Nat → Int64), Cf_L_echo c.waveIsFresh c.n.count c.n.front c.n.least c.n.window c.n.pulses c.n.lengths c.n.fractions c.n.pulseTimes c.n.pulseEnergies c.w_near c.w_far c.w_echoes c.w_totals (kI i) = some (.inr (kI 1, a, b, e, t, kL (σ.s.b.ewB i))) ∧ σ.s.b.WRB a b e t := by
  have hw : σ.s.b.wn ≤ 200 := hC.1.1.1.2.2.2.2.1.2
  have n4 := hC.2.1.1.2.2.2.1
  have s1 := rrI (x := kI i) (a := 0) (b := σ.s.b.wn) (by omega) (by omega)
  rw [kI_long (by omega), if_pos ((IN_kI (by omega)).mpr (by omega))] at s1
  obtain ⟨a, b, e, t, e1, q1⟩ := op_pw hC
  refine ⟨a, b, e, t, ?_, q1⟩
  unfold Cf_L_echo
  simp only [n4] at e1 ⊢
  simp (disch := omega) only [↓nm_eq, ↓bd_x, bdx_s, ↓bx_x, bxx_r, bxx_l, ↓bn_x, bnx_r, chk_t, ↓reduceIte, q32, q64, kI_lt_t, kI_lt_f, kI_le_t, kI_le_f, kI_eq_t, kI_eq_f, kL_lt_t, kL_lt_f, kL_le_t, kL_le_f, kL_eq_t, kL_eq_f, kI_m1, kI_m1', m1_m1, kI_n1, kI_n1', n1_add', eq_self, inb_t, kI_nat, kI_add, kI_mul, kI_sub, kI_div, kI_mod, kI_long, kL_add, kL_mul, kL_sub, kL_div, kL_mod, kL_int, n1_add, not_false_eq_true, not_true_eq_false, and_true, true_and, and_false, false_and, or_true, true_or, or_false, false_or, Nat.reduceEqDiff, IN, IM, s1, e1, q1.2.2.1]
theorem OP_echo_x (hC : CR σ c) (hD : DL σ d) (h : ¬ IN x1 0 σ.s.b.wn) : Cf_L_echo c.waveIsFresh c.n.count c.n.front c.n.least c.n.window c.n.pulses c.n.lengths c.n.fractions c.n.pulseTimes c.n.pulseEnergies c.w_near c.w_far c.w_echoes c.w_totals x1 = some (.inl 1) ∧ Rf_echo d.m d.code d.lineParts d.lengths d.fractions d.pulseMany d.times d.energies d.far d.near d.echoes d.left d.dropped d.merged d.drops d.contributions d.packet x1 = some (kI 1, d.lineParts, d.lengths, d.fractions, d.pulseMany, d.times, d.energies, d.far, d.near, d.echoes, d.left, d.dropped, d.merged, d.drops, d.contributions, d.packet, kL 0) := by
  have hw : σ.s.b.wn ≤ 200 := hC.1.1.1.2.2.2.2.1.2
  have n4 := hC.2.1.1.2.2.2.1
  have m5 := hD.1.2.2.2.2.2.1
  constructor
  · unfold Cf_L_echo
    rw [n4]
    simp (disch := omega) only [↓nm_eq, ↓bd_x, bdx_s, ↓bx_x, bxx_r, bxx_l, ↓bn_x, bnx_r, chk_t, ↓reduceIte, q32, q64, kI_lt_t, kI_lt_f, kI_le_t, kI_le_f, kI_eq_t, kI_eq_f, kL_lt_t, kL_lt_f, kL_le_t, kL_le_f, kL_eq_t, kL_eq_f, kI_m1, kI_m1', m1_m1, kI_n1, kI_n1', n1_add', eq_self, inb_t, kI_nat, kI_add, kI_mul, kI_sub, kI_div, kI_mod, kI_long, kL_add, kL_mul, kL_sub, kL_div, kL_mod, kL_int, n1_add, not_false_eq_true, not_true_eq_false, and_true, true_and, and_false, false_and, or_true, true_or, or_false, false_or, Nat.reduceEqDiff, IN, IM, rrI, h]
  · unfold Rf_echo Rf_echo_20
    simp (disch := omega) only [↓nm_eq, ↓bd_x, bdx_s, ↓bx_x, bxx_r, bxx_l, ↓bn_x, bnx_r, chk_t, ↓reduceIte, q32, q64, kI_lt_t, kI_lt_f, kI_le_t, kI_le_f, kI_eq_t, kI_eq_f, kL_lt_t, kL_lt_f, kL_le_t, kL_le_f, kL_eq_t, kL_eq_f, kI_m1, kI_m1', m1_m1, kI_n1, kI_n1', n1_add', eq_self, inb_t, kI_nat, kI_add, kI_mul, kI_sub, kI_div, kI_mod, kI_long, kL_add, kL_mul, kL_sub, kL_div, kL_mod, kL_int, n1_add, not_false_eq_true, not_true_eq_false, and_true, true_and, and_false, false_and, or_true, true_or, or_false, false_or, Nat.reduceEqDiff, IN, IM, ev_window m5, iI, h]
theorem OP_echo (hC : CR σ c) (hD : DL σ d) (h : IN x1 0 σ.s.b.wn) : ∃ (r : Int64) (a b : Nat → Nat → Int64) (e t : Nat → Int64) (lp : Int32) (ℓ φ : Nat → Int32) (pm : Int32) (tm : Nat → Int32) (en far near ech : Nat → Int64) (lf dr : Int64) (mg ds ct : Int32) (pk : Int64), Cf_L_echo c.waveIsFresh c.n.count c.n.front c.n.least c.n.window c.n.pulses c.n.lengths c.n.fractions c.n.pulseTimes c.n.pulseEnergies c.w_near c.w_far c.w_echoes c.w_totals x1 = some (.inr (kI 1, a, b, e, t, r)) ∧ Rf_echo d.m d.code d.lineParts d.lengths d.fractions d.pulseMany d.times d.energies d.far d.near d.echoes d.left d.dropped d.merged d.drops d.contributions d.packet x1 = some (kI 0, lp, ℓ, φ, pm, tm, en, far, near, ech, lf, dr, mg, ds, ct, pk, r) ∧ σ.s.b.WRB a b e t := by
  have hw : σ.s.b.wn ≤ 200 := hC.1.1.1.2.2.2.2.1.2
  have m5 := hD.1.2.2.2.2.2.1
  have s2 := iI (x := x1) (a := 0) (b := σ.s.b.wn) (by omega) (by omega)
  rw [if_pos h] at s2
  obtain ⟨i, i1, i2, i3, i4⟩ := IN_nat h
  subst i2
  rw [kI_long i1] at s2
  obtain ⟨a, b, e, t, e1, q1⟩ := ev_echoC hC i4
  obtain ⟨ℓ, φ, tm, en, far, near, ech, lf, dr, mg, ds, e2, q2, q3⟩ := op_run hC hD
  refine ⟨_, a, b, e, t, kI σ.s.b.n, ℓ, φ, kI σ.s.b.np, tm, en, far, near, ech, lf, dr, mg, ds, kI 0, kL 0, e1, ?_, q1⟩
  unfold Rf_echo Rf_echo_20
  simp (disch := omega) only [↓nm_eq, ↓bd_x, bdx_s, ↓bx_x, bxx_r, bxx_l, ↓bn_x, bnx_r, chk_t, ↓reduceIte, q32, q64, kI_lt_t, kI_lt_f, kI_le_t, kI_le_f, kI_eq_t, kI_eq_f, kL_lt_t, kL_lt_f, kL_le_t, kL_le_f, kL_eq_t, kL_eq_f, kI_m1, kI_m1', m1_m1, kI_n1, kI_n1', n1_add', eq_self, inb_t, kI_nat, kI_add, kI_mul, kI_sub, kI_div, kI_mod, kI_long, kL_add, kL_mul, kL_sub, kL_div, kL_mod, kL_int, n1_add, not_false_eq_true, not_true_eq_false, and_true, true_and, and_false, false_and, or_true, true_or, or_false, false_or, Nat.reduceEqDiff, IN, IM, ev_window m5, s2, e2, q3.2.1]
  try rfl
theorem ev_totalC (hC : CR σ c) {i : Nat} (hi : i < 9) : ∃ (a b : Nat → Nat → Int64) (e t : Nat → Int64), Cf_L_total c.waveIsFresh c.n.count c.n.front c.n.least c.n.window c.n.pulses c.n.lengths c.n.fractions c.n.pulseTimes c.n.pulseEnergies c.w_near c.w_far c.w_echoes c.w_totals (kI i) = some (.inr (kI 1, a, b, e, t, kL (σ.s.b.TOTB i))) ∧ σ.s.b.WRB a b e t := by
  have s1 := rrI (x := kI i) (a := 0) (b := 8) (by omega) (by omega)
  rw [kI_long (by omega), if_pos ((IN_kI (by omega)).mpr (by omega))] at s1
  obtain ⟨a, b, e, t, e1, q1⟩ := op_pw hC
  refine ⟨a, b, e, t, ?_, q1⟩
  unfold Cf_L_total
  simp (disch := omega) only [↓nm_eq, ↓bd_x, bdx_s, ↓bx_x, bxx_r, bxx_l, ↓bn_x, bnx_r, chk_t, ↓reduceIte, q32, q64, kI_lt_t, kI_lt_f, kI_le_t, kI_le_f, kI_eq_t, kI_eq_f, kL_lt_t, kL_lt_f, kL_le_t, kL_le_f, kL_eq_t, kL_eq_f, kI_m1, kI_m1', m1_m1, kI_n1, kI_n1', n1_add', eq_self, inb_t, kI_nat, kI_add, kI_mul, kI_sub, kI_div, kI_mod, kI_long, kL_add, kL_mul, kL_sub, kL_div, kL_mod, kL_int, n1_add, not_false_eq_true, not_true_eq_false, and_true, true_and, and_false, false_and, or_true, true_or, or_false, false_or, Nat.reduceEqDiff, IN, IM, s1, e1, q1.2.2.2]
theorem OP_total_x (h : ¬ IN x1 0 8) : Cf_L_total c.waveIsFresh c.n.count c.n.front c.n.least c.n.window c.n.pulses c.n.lengths c.n.fractions c.n.pulseTimes c.n.pulseEnergies c.w_near c.w_far c.w_echoes c.w_totals x1 = some (.inl 1) ∧ Rf_total d.m d.code d.lineParts d.lengths d.fractions d.pulseMany d.times d.energies d.far d.near d.echoes d.left d.dropped d.merged d.drops d.contributions d.packet x1 = some (kI 1, d.lineParts, d.lengths, d.fractions, d.pulseMany, d.times, d.energies, d.far, d.near, d.echoes, d.left, d.dropped, d.merged, d.drops, d.contributions, d.packet, kL 0) := by
  constructor
  · unfold Cf_L_total
    simp (disch := omega) only [↓nm_eq, ↓bd_x, bdx_s, ↓bx_x, bxx_r, bxx_l, ↓bn_x, bnx_r, chk_t, ↓reduceIte, q32, q64, kI_lt_t, kI_lt_f, kI_le_t, kI_le_f, kI_eq_t, kI_eq_f, kL_lt_t, kL_lt_f, kL_le_t, kL_le_f, kL_eq_t, kL_eq_f, kI_m1, kI_m1', m1_m1, kI_n1, kI_n1', n1_add', eq_self, inb_t, kI_nat, kI_add, kI_mul, kI_sub, kI_div, kI_mod, kI_long, kL_add, kL_mul, kL_sub, kL_div, kL_mod, kL_int, n1_add, not_false_eq_true, not_true_eq_false, and_true, true_and, and_false, false_and, or_true, true_or, or_false, false_or, Nat.reduceEqDiff, IN, IM, rrI, h]
  · unfold Rf_total Rf_total_18
    simp (disch := omega) only [↓nm_eq, ↓bd_x, bdx_s, ↓bx_x, bxx_r, bxx_l, ↓bn_x, bnx_r, chk_t, ↓reduceIte, q32, q64, kI_lt_t, kI_lt_f, kI_le_t, kI_le_f, kI_eq_t, kI_eq_f, kL_lt_t, kL_lt_f, kL_le_t, kL_le_f, kL_eq_t, kL_eq_f, kI_m1, kI_m1', m1_m1, kI_n1, kI_n1', n1_add', eq_self, inb_t, kI_nat, kI_add, kI_mul, kI_sub, kI_div, kI_mod, kI_long, kL_add, kL_mul, kL_sub, kL_div, kL_mod, kL_int, n1_add, not_false_eq_true, not_true_eq_false, and_true, true_and, and_false, false_and, or_true, true_or, or_false, false_or, Nat.reduceEqDiff, IN, IM, iI, h]
theorem OP_total (hC : CR σ c) (hD : DL σ d) (h : IN x1 0 8) : ∃ (r : Int64) (a b : Nat → Nat → Int64) (e t : Nat → Int64) (lp : Int32) (ℓ φ : Nat → Int32) (pm : Int32) (tm : Nat → Int32) (en far near ech : Nat → Int64) (lf dr : Int64) (mg ds ct : Int32) (pk : Int64), Cf_L_total c.waveIsFresh c.n.count c.n.front c.n.least c.n.window c.n.pulses c.n.lengths c.n.fractions c.n.pulseTimes c.n.pulseEnergies c.w_near c.w_far c.w_echoes c.w_totals x1 = some (.inr (kI 1, a, b, e, t, r)) ∧ Rf_total d.m d.code d.lineParts d.lengths d.fractions d.pulseMany d.times d.energies d.far d.near d.echoes d.left d.dropped d.merged d.drops d.contributions d.packet x1 = some (kI 0, lp, ℓ, φ, pm, tm, en, far, near, ech, lf, dr, mg, ds, ct, pk, r) ∧ σ.s.b.WRB a b e t := by
  have m5 := hD.1.2.2.2.2.2.1
  have s2 := iI (x := x1) (a := 0) (b := 8) (by omega) (by omega)
  rw [if_pos h] at s2
  obtain ⟨i, i1, i2, i3, i4⟩ := IN_nat h
  subst i2
  rw [kI_long i1] at s2
  obtain ⟨a, b, e, t, e1, q1⟩ := ev_totalC hC (show i < 9 by omega)
  obtain ⟨ℓ, φ, tm, en, far, near, ech, lf, dr, mg, ds, e2, q2, q3⟩ := op_run hC hD
  refine ⟨_, a, b, e, t, kI σ.s.b.n, ℓ, φ, kI σ.s.b.np, tm, en, far, near, ech, lf, dr, mg, ds, kI 0, kL 0, e1, ?_, q1⟩
  unfold Rf_total Rf_total_18
  simp (disch := omega) only [↓nm_eq, ↓bd_x, bdx_s, ↓bx_x, bxx_r, bxx_l, ↓bn_x, bnx_r, chk_t, ↓reduceIte, q32, q64, kI_lt_t, kI_lt_f, kI_le_t, kI_le_f, kI_eq_t, kI_eq_f, kL_lt_t, kL_lt_f, kL_le_t, kL_le_f, kL_eq_t, kL_eq_f, kI_m1, kI_m1', m1_m1, kI_n1, kI_n1', n1_add', eq_self, inb_t, kI_nat, kI_add, kI_mul, kI_sub, kI_div, kI_mod, kI_long, kL_add, kL_mul, kL_sub, kL_div, kL_mod, kL_int, n1_add, not_false_eq_true, not_true_eq_false, and_true, true_and, and_false, false_and, or_true, true_or, or_false, false_or, Nat.reduceEqDiff, IN, IM, s2, e2, ev_totalOf hC.1.1.1 m5 q2 q3 (show i < 9 by omega)]
  try rfl
theorem nn_f {x : Int32} (h : ¬ 0 ≤ x.toInt) : ¬ (0 : Int32) ≤ x := by rw [Int32.le_iff_toInt_le]; exact h
theorem nn_t {x : Int32} (h : 0 ≤ x.toInt) : (0 : Int32) ≤ x := by rw [Int32.le_iff_toInt_le]; exact h
theorem OP_echoTime_x (h : ¬ 0 ≤ x1.toInt) : Cf_L_echoTime c.waveIsFresh c.n.count c.n.front c.n.least c.n.window c.n.pulses c.n.lengths c.n.fractions c.n.pulseTimes c.n.pulseEnergies c.w_near c.w_far c.w_echoes c.w_totals x1 = some (.inl 1) ∧ Rf_echoTime d.m d.code d.lineParts d.lengths d.fractions d.pulseMany d.times d.energies d.far d.near d.echoes d.left d.dropped d.merged d.drops d.contributions d.packet x1 = some (kI 1, d.lineParts, d.lengths, d.fractions, d.pulseMany, d.times, d.energies, d.far, d.near, d.echoes, d.left, d.dropped, d.merged, d.drops, d.contributions, d.packet, kI 0) := by
  constructor
  · unfold Cf_L_echoTime Cf_L_requireNotNegative
    rw [if_neg (nn_f h)]
    rfl
  · unfold Rf_echoTime Rf_echoTime_10
    rw [if_neg (nn_f h)]
    rfl
theorem OP_echoTime (hC : CR σ c) (hD : DL σ d) (h : 0 ≤ x1.toInt) : ∃ (r : Int32) (a b : Nat → Nat → Int64) (e t : Nat → Int64) (lp : Int32) (ℓ φ : Nat → Int32) (pm : Int32) (tm : Nat → Int32) (en far near ech : Nat → Int64) (lf dr : Int64) (mg ds ct : Int32) (pk : Int64), Cf_L_echoTime c.waveIsFresh c.n.count c.n.front c.n.least c.n.window c.n.pulses c.n.lengths c.n.fractions c.n.pulseTimes c.n.pulseEnergies c.w_near c.w_far c.w_echoes c.w_totals x1 = some (.inr (kI 1, a, b, e, t, r)) ∧ Rf_echoTime d.m d.code d.lineParts d.lengths d.fractions d.pulseMany d.times d.energies d.far d.near d.echoes d.left d.dropped d.merged d.drops d.contributions d.packet x1 = some (kI 0, lp, ℓ, φ, pm, tm, en, far, near, ech, lf, dr, mg, ds, ct, pk, r) ∧ σ.s.b.WRB a b e t := by
  obtain ⟨a, b, e, t, e1, q1⟩ := op_pw hC
  obtain ⟨ℓ, φ, tm, en, far, near, ech, lf, dr, mg, ds, e2, q2, q3⟩ := op_run hC hD
  obtain ⟨o, o1, o2⟩ := ev_echoTime q1.2.2.1 q3.2.1 (bew hC) 201 0 FUEL x1 rfl (by have : FUEL = 4096 := rfl; omega)
  refine ⟨o.elim id (fun _ => -1), a, b, e, t, kI σ.s.b.n, ℓ, φ, kI σ.s.b.np, tm, en, far, near, ech, lf, dr, mg, ds, kI 0, kL 0, ?_, ?_, q1⟩
  · unfold Cf_L_echoTime Cf_L_requireNotNegative
    rw [if_pos (nn_t h), bx_r, e1, bd_s]
    (try dsimp only)
    rw [q32_0, o1, bd_s]
    cases o with
    | inl y => rfl
    | inr y => rfl
  · unfold Rf_echoTime Rf_echoTime_10
    rw [if_pos (nn_t h), if_pos rfl, e2, bd_s]
    (try dsimp only)
    rw [q32_0, o2, bd_s]
    cases o with
    | inl y => rfl
    | inr y => rfl
theorem OP_arrival_x0 (hC : CR σ c) (hD : DL σ d) (h : ¬ IN x1 0 σ.s.b.n) : Cf_L_arrival c.waveIsFresh c.n.count c.n.front c.n.least c.n.window c.n.pulses c.n.lengths c.n.fractions c.n.pulseTimes c.n.pulseEnergies c.w_near c.w_far c.w_echoes c.w_totals x1 x2 x3 = some (.inl 0) ∧ Rf_arrival d.m d.code d.lineParts d.lengths d.fractions d.pulseMany d.times d.energies d.far d.near d.echoes d.left d.dropped d.merged d.drops d.contributions d.packet x1 x2 x3 = some (kI 1, d.lineParts, d.lengths, d.fractions, d.pulseMany, d.times, d.energies, d.far, d.near, d.echoes, d.left, d.dropped, d.merged, d.drops, d.contributions, d.packet, kL 0) := by
  have hn := hC.1.1.1.1
  have n1 := hC.2.1.1.1
  have hr := rnI (x := x1) (n := σ.s.b.n + 1) (by omega)
  rw [if_neg (show ¬ IM x1 0 (σ.s.b.n + 1) from fun q => h (IN_iff.mpr ⟨(IM_iff.mp q).1, by have := (IM_iff.mp q).2; omega⟩))] at hr
  constructor
  · unfold Cf_L_arrival
    rw [n1, nm_eq, q32_1, kI_add, hr]
    rfl
  · unfold Rf_arrival Rf_arrival_38
    simp (disch := omega) only [↓nm_eq, ↓bd_x, bdx_s, ↓bx_x, bxx_r, bxx_l, ↓bn_x, bnx_r, chk_t, ↓reduceIte, q32, q64, kI_lt_t, kI_lt_f, kI_le_t, kI_le_f, kI_eq_t, kI_eq_f, kL_lt_t, kL_lt_f, kL_le_t, kL_le_f, kL_eq_t, kL_eq_f, kI_m1, kI_m1', m1_m1, kI_n1, kI_n1', n1_add', eq_self, inb_t, kI_nat, kI_add, kI_mul, kI_sub, kI_div, kI_mod, kI_long, kL_add, kL_mul, kL_sub, kL_div, kL_mod, kL_int, n1_add, not_false_eq_true, not_true_eq_false, and_true, true_and, and_false, false_and, or_true, true_or, or_false, false_or, Nat.reduceEqDiff, IN, IM, ev_parts hD.1.1, iI, h]
theorem OP_arrival_x1 (hC : CR σ c) (hD : DL σ d) (h : IN x1 0 σ.s.b.n) (h2 : ¬ IN x2 0 σ.s.b.wn) : Cf_L_arrival c.waveIsFresh c.n.count c.n.front c.n.least c.n.window c.n.pulses c.n.lengths c.n.fractions c.n.pulseTimes c.n.pulseEnergies c.w_near c.w_far c.w_echoes c.w_totals x1 x2 x3 = some (.inl 1) ∧ Rf_arrival d.m d.code d.lineParts d.lengths d.fractions d.pulseMany d.times d.energies d.far d.near d.echoes d.left d.dropped d.merged d.drops d.contributions d.packet x1 x2 x3 = some (kI 2, d.lineParts, d.lengths, d.fractions, d.pulseMany, d.times, d.energies, d.far, d.near, d.echoes, d.left, d.dropped, d.merged, d.drops, d.contributions, d.packet, kL 0) := by
  have hn := hC.1.1.1.1
  have n1 := hC.2.1.1.1
  have n4 := hC.2.1.1.2.2.2.1
  have hw : σ.s.b.wn ≤ 200 := hC.1.1.1.2.2.2.2.1.2
  have hr := rnI (x := x1) (n := σ.s.b.n + 1) (by omega)
  rw [if_pos (show IM x1 0 (σ.s.b.n + 1) from IM_iff.mpr ⟨(IN_iff.mp h).1, by have := (IN_iff.mp h).2; omega⟩)] at hr
  constructor
  · unfold Cf_L_arrival
    rw [n1, n4, nm_eq, q32_1, kI_add, hr, bx_r]
    simp (disch := omega) only [↓nm_eq, ↓bd_x, bdx_s, ↓bx_x, bxx_r, bxx_l, ↓bn_x, bnx_r, chk_t, ↓reduceIte, q32, q64, kI_lt_t, kI_lt_f, kI_le_t, kI_le_f, kI_eq_t, kI_eq_f, kL_lt_t, kL_lt_f, kL_le_t, kL_le_f, kL_eq_t, kL_eq_f, kI_m1, kI_m1', m1_m1, kI_n1, kI_n1', n1_add', eq_self, inb_t, kI_nat, kI_add, kI_mul, kI_sub, kI_div, kI_mod, kI_long, kL_add, kL_mul, kL_sub, kL_div, kL_mod, kL_int, n1_add, not_false_eq_true, not_true_eq_false, and_true, true_and, and_false, false_and, or_true, true_or, or_false, false_or, Nat.reduceEqDiff, IN, IM, rrI, h2]
  · unfold Rf_arrival Rf_arrival_38
    simp (disch := omega) only [↓nm_eq, ↓bd_x, bdx_s, ↓bx_x, bxx_r, bxx_l, ↓bn_x, bnx_r, chk_t, ↓reduceIte, q32, q64, kI_lt_t, kI_lt_f, kI_le_t, kI_le_f, kI_eq_t, kI_eq_f, kL_lt_t, kL_lt_f, kL_le_t, kL_le_f, kL_eq_t, kL_eq_f, kI_m1, kI_m1', m1_m1, kI_n1, kI_n1', n1_add', eq_self, inb_t, kI_nat, kI_add, kI_mul, kI_sub, kI_div, kI_mod, kI_long, kL_add, kL_mul, kL_sub, kL_div, kL_mod, kL_int, n1_add, not_false_eq_true, not_true_eq_false, and_true, true_and, and_false, false_and, or_true, true_or, or_false, false_or, Nat.reduceEqDiff, IN, IM, ev_parts hD.1.1, ev_window hD.1.2.2.2.2.2.1, iI, h, h2]
theorem OP_arrival (hC : CR σ c) (hD : DL σ d) (h : IN x1 0 σ.s.b.n) (h2 : IN x2 0 σ.s.b.wn) (h3 : x3 = 0 ∨ x3 = 1) : ∃ (r : Int64) (a b : Nat → Nat → Int64) (e t : Nat → Int64) (lp : Int32) (ℓ φ : Nat → Int32) (pm : Int32) (tm : Nat → Int32) (en far near ech : Nat → Int64) (lf dr : Int64) (mg ds ct : Int32) (pk : Int64), Cf_L_arrival c.waveIsFresh c.n.count c.n.front c.n.least c.n.window c.n.pulses c.n.lengths c.n.fractions c.n.pulseTimes c.n.pulseEnergies c.w_near c.w_far c.w_echoes c.w_totals x1 x2 x3 = some (.inr (kI 1, a, b, e, t, r)) ∧ Rf_arrival d.m d.code d.lineParts d.lengths d.fractions d.pulseMany d.times d.energies d.far d.near d.echoes d.left d.dropped d.merged d.drops d.contributions d.packet x1 x2 x3 = some (kI 0, lp, ℓ, φ, pm, tm, en, far, near, ech, lf, dr, mg, ds, ct, pk, r) ∧ σ.s.b.WRB a b e t := by
  have hn := hC.1.1.1.1
  have n1 := hC.2.1.1.1
  have n4 := hC.2.1.1.2.2.2.1
  have hw : σ.s.b.wn ≤ 200 := hC.1.1.1.2.2.2.2.1.2
  have hr := rnI (x := x1) (n := σ.s.b.n + 1) (by omega)
  rw [if_pos (show IM x1 0 (σ.s.b.n + 1) from IM_iff.mpr ⟨(IN_iff.mp h).1, by have := (IN_iff.mp h).2; omega⟩)] at hr
  have s1 := rrI (x := x2) (a := 0) (b := σ.s.b.wn) (by omega) (by omega)
  have s2 := iI (x := x2) (a := 0) (b := σ.s.b.wn) (by omega) (by omega)
  have s3 := iI (x := x1) (a := 0) (b := σ.s.b.n) (by omega) (by omega)
  rw [if_pos h2] at s1 s2
  rw [if_pos h] at s3
  obtain ⟨j, j1, j2, j3, j4⟩ := IN_nat h
  obtain ⟨i, i1, i2, i3, i4⟩ := IN_nat h2
  subst j2
  subst i2
  rw [kI_long i1] at s1 s2
  rw [kI_long j1] at s3
  obtain ⟨a, b, e, t, e1, q1⟩ := op_pw hC
  obtain ⟨ℓ, φ, tm, en, far, near, ech, lf, dr, mg, ds, e2, q2, q3⟩ := op_run hC hD
  have hL := Bn.LOK hC.1.1.1
  rcases h3 with rfl | rfl
  · have ea := ev_arrN hL (T := σ.s.b.wn + 1) (J := 0) (t := i) (j := j) (by omega) (by omega) j4 q2.1 q3.1
    refine ⟨kL (AN σ.s.b.n σ.s.b.ln σ.s.b.fq σ.s.b.ls (puP σ.s.b.np σ.s.b.pt σ.s.b.pe) j i), a, b, e, t, kI σ.s.b.n, ℓ, φ, kI σ.s.b.np, tm, en, far, near, ech, lf, dr, mg, ds, kI 0, kL 0, ?_, ?_, q1⟩
    · unfold Cf_L_arrival Cf_L_arrival_64
      simp only [n1, n4] at e1 ⊢
      rw [nm_eq, q32_1, kI_add, hr, bx_r]
      simp (disch := omega) only [↓nm_eq, ↓bd_x, bdx_s, ↓bx_x, bxx_r, bxx_l, ↓bn_x, bnx_r, chk_t, ↓reduceIte, q32, q64, kI_lt_t, kI_lt_f, kI_le_t, kI_le_f, kI_eq_t, kI_eq_f, kL_lt_t, kL_lt_f, kL_le_t, kL_le_f, kL_eq_t, kL_eq_f, kI_m1, kI_m1', m1_m1, kI_n1, kI_n1', n1_add', eq_self, inb_t, kI_nat, kI_add, kI_mul, kI_sub, kI_div, kI_mod, kI_long, kL_add, kL_mul, kL_sub, kL_div, kL_mod, kL_int, n1_add, not_false_eq_true, not_true_eq_false, and_true, true_and, and_false, false_and, or_true, true_or, or_false, false_or, Nat.reduceEqDiff, IN, IM, s1, e1, q1.1]
      try rfl
    · unfold Rf_arrival Rf_arrival_38
      rw [q32_0] at ea
      simp (disch := omega) only [↓nm_eq, ↓bd_x, bdx_s, ↓bx_x, bxx_r, bxx_l, ↓bn_x, bnx_r, chk_t, ↓reduceIte, q32, q64, kI_lt_t, kI_lt_f, kI_le_t, kI_le_f, kI_eq_t, kI_eq_f, kL_lt_t, kL_lt_f, kL_le_t, kL_le_f, kL_eq_t, kL_eq_f, kI_m1, kI_m1', m1_m1, kI_n1, kI_n1', n1_add', eq_self, inb_t, kI_nat, kI_add, kI_mul, kI_sub, kI_div, kI_mod, kI_long, kL_add, kL_mul, kL_sub, kL_div, kL_mod, kL_int, n1_add, not_false_eq_true, not_true_eq_false, and_true, true_and, and_false, false_and, or_true, true_or, or_false, false_or, Nat.reduceEqDiff, IN, IM, ev_parts hD.1.1, ev_window hD.1.2.2.2.2.2.1, s3, s2, e2, ea]
      try rfl
  · have ea := ev_arrF hL (T := σ.s.b.wn + 1) (J := 0) (t := i) (j := j) (by omega) (by omega) j4 q2.1 q3.1
    refine ⟨kL (AF σ.s.b.n σ.s.b.ln σ.s.b.fq σ.s.b.ls (puP σ.s.b.np σ.s.b.pt σ.s.b.pe) j i), a, b, e, t, kI σ.s.b.n, ℓ, φ, kI σ.s.b.np, tm, en, far, near, ech, lf, dr, mg, ds, kI 0, kL 0, ?_, ?_, q1⟩
    · unfold Cf_L_arrival Cf_L_arrival_64
      simp only [n1, n4] at e1 ⊢
      rw [nm_eq, q32_1, kI_add, hr, bx_r]
      simp (disch := omega) only [↓nm_eq, ↓bd_x, bdx_s, ↓bx_x, bxx_r, bxx_l, ↓bn_x, bnx_r, chk_t, ↓reduceIte, q32, q64, kI_lt_t, kI_lt_f, kI_le_t, kI_le_f, kI_eq_t, kI_eq_f, kL_lt_t, kL_lt_f, kL_le_t, kL_le_f, kL_eq_t, kL_eq_f, kI_m1, kI_m1', m1_m1, kI_n1, kI_n1', n1_add', eq_self, inb_t, kI_nat, kI_add, kI_mul, kI_sub, kI_div, kI_mod, kI_long, kL_add, kL_mul, kL_sub, kL_div, kL_mod, kL_int, n1_add, not_false_eq_true, not_true_eq_false, and_true, true_and, and_false, false_and, or_true, true_or, or_false, false_or, Nat.reduceEqDiff, IN, IM, s1, e1, q1.2.1]
      try rfl
    · unfold Rf_arrival Rf_arrival_38
      rw [q32_1] at ea
      simp (disch := omega) only [↓nm_eq, ↓bd_x, bdx_s, ↓bx_x, bxx_r, bxx_l, ↓bn_x, bnx_r, chk_t, ↓reduceIte, q32, q64, kI_lt_t, kI_lt_f, kI_le_t, kI_le_f, kI_eq_t, kI_eq_f, kL_lt_t, kL_lt_f, kL_le_t, kL_le_f, kL_eq_t, kL_eq_f, kI_m1, kI_m1', m1_m1, kI_n1, kI_n1', n1_add', eq_self, inb_t, kI_nat, kI_add, kI_mul, kI_sub, kI_div, kI_mod, kI_long, kL_add, kL_mul, kL_sub, kL_div, kL_mod, kL_int, n1_add, not_false_eq_true, not_true_eq_false, and_true, true_and, and_false, false_and, or_true, true_or, or_false, false_or, Nat.reduceEqDiff, IN, IM, ev_parts hD.1.1, ev_window hD.1.2.2.2.2.2.1, s3, s2, e2, ea]
      try rfl
theorem OP_echoByte_x (h : ¬ 0 ≤ x1.toInt) : Cf_L_echoByte c.waveIsFresh c.n.count c.n.front c.n.least c.n.window c.n.pulses c.n.lengths c.n.fractions c.n.pulseTimes c.n.pulseEnergies c.w_near c.w_far c.w_echoes c.w_totals x1 = some (.inl 1) ∧ Rf_echoByte d.m d.code d.lineParts d.lengths d.fractions d.pulseMany d.times d.energies d.far d.near d.echoes d.left d.dropped d.merged d.drops d.contributions d.packet x1 = some (kI 1, d.lineParts, d.lengths, d.fractions, d.pulseMany, d.times, d.energies, d.far, d.near, d.echoes, d.left, d.dropped, d.merged, d.drops, d.contributions, d.packet, kI 0) := by
  constructor
  · unfold Cf_L_echoByte Cf_L_requireNotNegative
    rw [if_neg (nn_f h)]
    rfl
  · unfold Rf_echoByte Rf_echoByte_10
    rw [if_neg (nn_f h)]
    rfl
theorem OP_echoByte (hC : CR σ c) (hD : DL σ d) (h : 0 ≤ x1.toInt) : ∃ (r : Int32) (a b : Nat → Nat → Int64) (e t : Nat → Int64) (lp : Int32) (ℓ φ : Nat → Int32) (pm : Int32) (tm : Nat → Int32) (en far near ech : Nat → Int64) (lf dr : Int64) (mg ds ct : Int32) (pk : Int64), Cf_L_echoByte c.waveIsFresh c.n.count c.n.front c.n.least c.n.window c.n.pulses c.n.lengths c.n.fractions c.n.pulseTimes c.n.pulseEnergies c.w_near c.w_far c.w_echoes c.w_totals x1 = some (.inr (kI 1, a, b, e, t, r)) ∧ Rf_echoByte d.m d.code d.lineParts d.lengths d.fractions d.pulseMany d.times d.energies d.far d.near d.echoes d.left d.dropped d.merged d.drops d.contributions d.packet x1 = some (kI 0, lp, ℓ, φ, pm, tm, en, far, near, ech, lf, dr, mg, ds, ct, pk, r) ∧ σ.s.b.WRB a b e t := by
  obtain ⟨a, b, e, t, e1, q1⟩ := op_pw hC
  obtain ⟨ℓ, φ, tm, en, far, near, ech, lf, dr, mg, ds, e2, q2, q3⟩ := op_run hC hD
  have hnn := nn_t h
  obtain ⟨l, l1, l2, l3⟩ := x_nat h
  subst l2
  rcases ev_echoByte q1.2.2.1 q3.2.1 (bew hC) 201 0 FUEL l rfl (by have : FUEL = 4096 := rfl; omega) l1 with ⟨_, o1, o2⟩ | ⟨l', t', p1, p2, p3, o1, o2⟩
  · refine ⟨-1, a, b, e, t, kI σ.s.b.n, ℓ, φ, kI σ.s.b.np, tm, en, far, near, ech, lf, dr, mg, ds, kI 0, kL 0, ?_, ?_, q1⟩
    · unfold Cf_L_echoByte Cf_L_requireNotNegative
      rw [if_pos hnn, bx_r, e1, bd_s]
      (try dsimp only)
      rw [q32_0, o1, bd_s]
    · unfold Rf_echoByte Rf_echoByte_10
      rw [if_pos hnn, if_pos rfl, e2, bd_s]
      (try dsimp only)
      rw [q32_0, o2, bd_s]
  · have b1 := bew hC t'
    have eb := ev_entryByte p1 b1 p2
    have n1 : nd t' ≤ 9 := by have := ndf_le 8 (t' / 10); unfold nd; omega
    have n2 : nd (σ.s.b.ewB t') ≤ 9 := by have := ndf_le 8 (σ.s.b.ewB t' / 10); unfold nd; omega
    refine ⟨if l' < nd t' then kI (dgt (nd t' - 1 - l') t') else if l' = nd t' then kI 58 else if l' < nd t' + 1 + nd (σ.s.b.ewB t') then kI (dgt (nd t' + nd (σ.s.b.ewB t') - l') (σ.s.b.ewB t')) else kI 59, a, b, e, t, kI σ.s.b.n, ℓ, φ, kI σ.s.b.np, tm, en, far, near, ech, lf, dr, mg, ds, kI 0, kL 0, ?_, ?_, q1⟩
    · unfold Cf_L_echoByte Cf_L_requireNotNegative
      rw [if_pos hnn, bx_r, e1, bd_s]
      (try dsimp only)
      rw [q32_0, o1, bd_s]
      simp (disch := omega) only [↓nm_eq, ↓bd_x, bdx_s, ↓bx_x, bxx_r, bxx_l, ↓bn_x, bnx_r, chk_t, ↓reduceIte, q32, q64, kI_lt_t, kI_lt_f, kI_le_t, kI_le_f, kI_eq_t, kI_eq_f, kL_lt_t, kL_lt_f, kL_le_t, kL_le_f, kL_eq_t, kL_eq_f, kI_m1, kI_m1', m1_m1, kI_n1, kI_n1', n1_add', eq_self, inb_t, kI_nat, kI_add, kI_mul, kI_sub, kI_div, kI_mod, kI_long, kL_add, kL_mul, kL_sub, kL_div, kL_mod, kL_int, n1_add, not_false_eq_true, not_true_eq_false, and_true, true_and, and_false, false_and, or_true, true_or, or_false, false_or, Nat.reduceEqDiff, IN, IM, q1.2.2.1, eb]
      try rfl
    · unfold Rf_echoByte Rf_echoByte_10
      rw [if_pos hnn, if_pos rfl, e2, bd_s]
      (try dsimp only)
      rw [q32_0, o2, bd_s]
      by_cases w1 : l' < nd t'
      · rw [if_pos w1, if_pos w1]
        have ed := ev_digitOf (v := t') (i := l') (by omega) w1
        simp (disch := omega) only [↓nm_eq, ↓bd_x, bdx_s, ↓bx_x, bxx_r, bxx_l, ↓bn_x, bnx_r, chk_t, ↓reduceIte, q32, q64, kI_lt_t, kI_lt_f, kI_le_t, kI_le_f, kI_eq_t, kI_eq_f, kL_lt_t, kL_lt_f, kL_le_t, kL_le_f, kL_eq_t, kL_eq_f, kI_m1, kI_m1', m1_m1, kI_n1, kI_n1', n1_add', eq_self, inb_t, kI_nat, kI_add, kI_mul, kI_sub, kI_div, kI_mod, kI_long, kL_add, kL_mul, kL_sub, kL_div, kL_mod, kL_int, n1_add, not_false_eq_true, not_true_eq_false, and_true, true_and, and_false, false_and, or_true, true_or, or_false, false_or, Nat.reduceEqDiff, IN, IM, ed]
        try rfl
      · rw [if_neg w1, if_neg w1]
        by_cases w2 : l' = nd t'
        · rw [if_pos w2, if_pos w2]
          rfl
        · rw [if_neg w2, if_neg w2]
          by_cases w3 : l' < nd t' + 1 + nd (σ.s.b.ewB t')
          · rw [if_pos w3, if_pos w3]
            have ed := ev_digitOf (v := σ.s.b.ewB t') (i := l' - nd t' - 1) (by omega) (by omega)
            rw [show nd (σ.s.b.ewB t') - 1 - (l' - nd t' - 1) = nd t' + nd (σ.s.b.ewB t') - l' from by omega] at ed
            simp (disch := omega) only [↓nm_eq, ↓bd_x, bdx_s, ↓bx_x, bxx_r, bxx_l, ↓bn_x, bnx_r, chk_t, ↓reduceIte, q32, q64, kI_lt_t, kI_lt_f, kI_le_t, kI_le_f, kI_eq_t, kI_eq_f, kL_lt_t, kL_lt_f, kL_le_t, kL_le_f, kL_eq_t, kL_eq_f, kI_m1, kI_m1', m1_m1, kI_n1, kI_n1', n1_add', eq_self, inb_t, kI_nat, kI_add, kI_mul, kI_sub, kI_div, kI_mod, kI_long, kL_add, kL_mul, kL_sub, kL_div, kL_mod, kL_int, n1_add, not_false_eq_true, not_true_eq_false, and_true, true_and, and_false, false_and, or_true, true_or, or_false, false_or, Nat.reduceEqDiff, IN, IM, q3.2.1, ed]
            try rfl
          · rw [if_neg w3, if_neg w3]
            rfl
theorem ev_differencesCC (hC : CR σ c) : ∃ (a b : Nat → Nat → Int64) (e t : Nat → Int64), Cf_L_differences c.waveIsFresh c.n.count c.n.front c.n.least c.n.window c.n.pulses c.n.lengths c.n.fractions c.n.pulseTimes c.n.pulseEnergies c.n.sound c.w_near c.w_far c.w_echoes c.w_totals = some (kI 1, a, b, e, t, kI (sm (fun t => if σ.s.b.ewB t = σ.s.so t then 0 else 1) (σ.s.b.wn + 1))) ∧ σ.s.b.WRB a b e t := by
  have hw : σ.s.b.wn ≤ 200 := hC.1.1.1.2.2.2.2.1.2
  have n4 := hC.2.1.1.2.2.2.1
  have n10 := hC.2.1.2.1
  obtain ⟨a, b, e, t, e1, q1⟩ := op_pw hC
  have e3 := ev_differencesC q1.2.2.1 (bew hC) n10 (fun t ht => (hC.1.1.2 t ht).1) hw
  refine ⟨a, b, e, t, ?_, q1⟩
  unfold Cf_L_differences
  simp only [n4] at e1 ⊢
  rw [e1, bd_s]
  (try dsimp only)
  rw [q32_0, e3, bd_s]
theorem OP_differences (hC : CR σ c) (hD : DL σ d) : ∃ (r : Int32) (a b : Nat → Nat → Int64) (e t : Nat → Int64) (lp : Int32) (ℓ φ : Nat → Int32) (pm : Int32) (tm : Nat → Int32) (en far near ech : Nat → Int64) (lf dr : Int64) (mg ds ct : Int32) (pk : Int64), Cf_L_differences c.waveIsFresh c.n.count c.n.front c.n.least c.n.window c.n.pulses c.n.lengths c.n.fractions c.n.pulseTimes c.n.pulseEnergies c.n.sound c.w_near c.w_far c.w_echoes c.w_totals = some (kI 1, a, b, e, t, r) ∧ Rf_differences d.m d.code d.lineParts d.lengths d.fractions d.pulseMany d.times d.energies d.far d.near d.echoes d.left d.dropped d.merged d.drops d.contributions d.packet = some (kI 0, lp, ℓ, φ, pm, tm, en, far, near, ech, lf, dr, mg, ds, ct, pk, r) ∧ σ.s.b.WRB a b e t := by
  have hw : σ.s.b.wn ≤ 200 := hC.1.1.1.2.2.2.2.1.2
  obtain ⟨a, b, e, t, e1, q1⟩ := ev_differencesCC hC
  obtain ⟨ℓ, φ, tm, en, far, near, ech, lf, dr, mg, ds, e2, q2, q3⟩ := op_run hC hD
  have e3 := ev_differencesR q3.2.1 (bew hC) (fun t ht => (hC.1.1.2 t ht).1) hw hD.1.2.2.2.2.2.1 hD.1.2.2.2.2.2.2.2.2.2.1
  refine ⟨_, a, b, e, t, kI σ.s.b.n, ℓ, φ, kI σ.s.b.np, tm, en, far, near, ech, lf, dr, mg, ds, kI 0, kL 0, e1, ?_, q1⟩
  unfold Rf_differences
  simp (disch := omega) only [↓nm_eq, ↓bd_x, bdx_s, ↓bx_x, bxx_r, bxx_l, ↓bn_x, bnx_r, chk_t, ↓reduceIte, q32, q64, kI_lt_t, kI_lt_f, kI_le_t, kI_le_f, kI_eq_t, kI_eq_f, kL_lt_t, kL_lt_f, kL_le_t, kL_le_f, kL_eq_t, kL_eq_f, kI_m1, kI_m1', m1_m1, kI_n1, kI_n1', n1_add', eq_self, inb_t, kI_nat, kI_add, kI_mul, kI_sub, kI_div, kI_mod, kI_long, kL_add, kL_mul, kL_sub, kL_div, kL_mod, kL_int, n1_add, not_false_eq_true, not_true_eq_false, and_true, true_and, and_false, false_and, or_true, true_or, or_false, false_or, Nat.reduceEqDiff, IN, IM, e2, e3]
  try rfl
def fv (s : Sx) (t i : Nat) : Int32 := if t ≤ s.b.wn then (if i = 0 then kI t else if i = 1 then kI t - kI (mn s.b.pt s.b.np) else if i = 2 then (match pAf s.b (kI t - kI (mn s.b.pt s.b.np)) s.b.n 0 with | .inl y => y | .inr _ => -1) else if s.b.ewB t ≤ s.so t then -1 else kI 1) else -1
theorem ev_faultC (hC : CR σ c) {i t0 : Nat} (hi : i < 4) (ht : FU σ.s.b.ewB σ.s.so (σ.s.b.wn + 1) t0) : ∃ (a b : Nat → Nat → Int64) (e t : Nat → Int64), Cf_L_fault c.waveIsFresh c.n.count c.n.front c.n.least c.n.window c.n.pulses c.n.lengths c.n.fractions c.n.pulseTimes c.n.pulseEnergies c.n.sound c.w_near c.w_far c.w_echoes c.w_totals (kI i) = some (.inr (kI 1, a, b, e, t, fv σ.s t0 i)) ∧ σ.s.b.WRB a b e t := by
  have hb := hC.1.1.1
  have hw : σ.s.b.wn ≤ 200 := hb.2.2.2.2.1.2
  have n1 := hC.2.1.1.1
  have n4 := hC.2.1.1.2.2.2.1
  have n5 := hC.2.1.1.2.2.2.2.1
  have n6 := hC.2.1.1.2.2.2.2.2.1
  have n8 := hC.2.1.1.2.2.2.2.2.2.2.1
  have n10 := hC.2.1.2.1
  have s1 := rrI (x := kI i) (a := 0) (b := 3) (by omega) (by omega)
  rw [kI_long (by omega), if_pos ((IN_kI (by omega)).mpr (by omega))] at s1
  obtain ⟨a, b, e, t, e1, q1⟩ := op_pw hC
  have e3 := ev_firstUnequalS q1.2.2.1 (bew hC) n10 (fun t ht => (hC.1.1.2 t ht).1) hw ht
  have e4 := ev_earliestC hb n8
  have b1 := bew hC t0
  have q13 : ∀ t, t < 201 → e t = kL (σ.s.b.ewB t) := q1.2.2.1
  refine ⟨a, b, e, t, ?_, q1⟩
  unfold Cf_L_fault Cf_L_fault_48 Cf_L_fault_111 fv
  simp only [n1, n4, n5] at e1 ⊢
  by_cases c1 : t0 ≤ σ.s.b.wn
  · rw [if_pos c1] at e3 ⊢
    have b2 := (hC.1.1.2 t0 (by omega)).1
    obtain rfl | rfl | rfl | rfl : i = 0 ∨ i = 1 ∨ i = 2 ∨ i = 3 := by omega
    · simp (disch := omega) only [↓nm_eq, ↓bd_x, bdx_s, ↓bx_x, bxx_r, bxx_l, ↓bn_x, bnx_r, chk_t, ↓reduceIte, q32, q64, kI_lt_t, kI_lt_f, kI_le_t, kI_le_f, kI_eq_t, kI_eq_f, kL_lt_t, kL_lt_f, kL_le_t, kL_le_f, kL_eq_t, kL_eq_f, kI_m1, kI_m1', m1_m1, kI_n1, kI_n1', n1_add', eq_self, inb_t, kI_nat, kI_add, kI_mul, kI_sub, kI_div, kI_mod, kI_long, kL_add, kL_mul, kL_sub, kL_div, kL_mod, kL_int, n1_add, not_false_eq_true, not_true_eq_false, and_true, true_and, and_false, false_and, or_true, true_or, or_false, false_or, Nat.reduceEqDiff, IN, IM, s1, e1, e3]
      try rfl
    · have z : ∀ x y : Int32, x - y = x - y := fun _ _ => rfl
      rw [nm_eq, kI_long (by omega), q64_0, q64_3, s1, bx_r, e1, bd_s]
      (try dsimp only)
      rw [e3, bd_s, if_neg (by rw [kI_m1 (by omega)]; exact fun q => q), if_neg (by rw [q32_0, kI_eq (by omega) (by omega)]; omega), e4, bd_s, nm_eq, if_pos (by rw [q32_1])]
      try rfl
    · rw [nm_eq, kI_long (by omega), q64_0, q64_3, s1, bx_r, e1, bd_s]
      (try dsimp only)
      rw [e3, bd_s, if_neg (by rw [kI_m1 (by omega)]; exact fun q => q), if_neg (by rw [q32_0, kI_eq (by omega) (by omega)]; omega), e4, bd_s, nm_eq, if_neg (by rw [q32_1, kI_eq (by omega) (by omega)]; omega), if_pos (by rw [q32_2])]
      unfold Cf_B_partAtWayAndBack_n
      have hp := (ev_partAt hb n6 (m := fun j => if j = 0 then kL σ.s.b.n else kL (σ.s.b.ln (j - 1))) (if_pos rfl) (fun k hk => by rw [if_neg (by omega), Nat.add_sub_cancel_left]) (kI t0 - kI (mn σ.s.b.pt σ.s.b.np)) σ.s.b.n 0 FUEL (by omega) (by have := hb.1; have : FUEL = 4096 := rfl; omega)).1
      have hp' : Cl_B_partAtWayAndBack_n_4 (kI σ.s.b.n) c.n.lengths (kI t0 - kI (mn σ.s.b.pt σ.s.b.np)) FUEL (kI 0) (kI 0) = some (pAf σ.s.b (kI t0 - kI (mn σ.s.b.pt σ.s.b.np)) σ.s.b.n 0) := hp
      rw [q32_0, hp', bd_s]
      cases pAf σ.s.b (kI t0 - kI (mn σ.s.b.pt σ.s.b.np)) σ.s.b.n 0 with
      | inl y => rfl
      | inr y => rfl
    · rw [nm_eq, kI_long (by omega), q64_0, q64_3, s1, bx_r, e1, bd_s]
      (try dsimp only)
      rw [e3, bd_s, if_neg (by rw [kI_m1 (by omega)]; exact fun q => q), if_neg (by rw [q32_0, kI_eq (by omega) (by omega)]; omega), e4, bd_s, nm_eq, if_neg (by rw [q32_1, kI_eq (by omega) (by omega)]; omega), if_neg (by rw [q32_2, kI_eq (by omega) (by omega)]; omega)]
      rw [if_neg (by omega), if_neg (by omega), if_neg (by omega)]
      by_cases c2 : σ.s.b.ewB t0 ≤ σ.s.so t0
      · rw [if_pos c2]
        simp (disch := omega) only [↓nm_eq, ↓bd_x, bdx_s, ↓bx_x, bxx_r, bxx_l, ↓bn_x, bnx_r, chk_t, ↓reduceIte, q32, q64, kI_lt_t, kI_lt_f, kI_le_t, kI_le_f, kI_eq_t, kI_eq_f, kL_lt_t, kL_lt_f, kL_le_t, kL_le_f, kL_eq_t, kL_eq_f, kI_m1, kI_m1', m1_m1, kI_n1, kI_n1', n1_add', eq_self, inb_t, kI_nat, kI_add, kI_mul, kI_sub, kI_div, kI_mod, kI_long, kL_add, kL_mul, kL_sub, kL_div, kL_mod, kL_int, n1_add, not_false_eq_true, not_true_eq_false, and_true, true_and, and_false, false_and, or_true, true_or, or_false, false_or, Nat.reduceEqDiff, IN, IM, q13, n10]
        try rfl
      · rw [if_neg c2]
        simp (disch := omega) only [↓nm_eq, ↓bd_x, bdx_s, ↓bx_x, bxx_r, bxx_l, ↓bn_x, bnx_r, chk_t, ↓reduceIte, q32, q64, kI_lt_t, kI_lt_f, kI_le_t, kI_le_f, kI_eq_t, kI_eq_f, kL_lt_t, kL_lt_f, kL_le_t, kL_le_f, kL_eq_t, kL_eq_f, kI_m1, kI_m1', m1_m1, kI_n1, kI_n1', n1_add', eq_self, inb_t, kI_nat, kI_add, kI_mul, kI_sub, kI_div, kI_mod, kI_long, kL_add, kL_mul, kL_sub, kL_div, kL_mod, kL_int, n1_add, not_false_eq_true, not_true_eq_false, and_true, true_and, and_false, false_and, or_true, true_or, or_false, false_or, Nat.reduceEqDiff, IN, IM, q13, n10]
  · rw [if_neg c1] at e3 ⊢
    simp (disch := omega) only [↓nm_eq, ↓bd_x, bdx_s, ↓bx_x, bxx_r, bxx_l, ↓bn_x, bnx_r, chk_t, ↓reduceIte, q32, q64, kI_lt_t, kI_lt_f, kI_le_t, kI_le_f, kI_eq_t, kI_eq_f, kL_lt_t, kL_lt_f, kL_le_t, kL_le_f, kL_eq_t, kL_eq_f, kI_m1, kI_m1', m1_m1, kI_n1, kI_n1', n1_add', eq_self, inb_t, kI_nat, kI_add, kI_mul, kI_sub, kI_div, kI_mod, kI_long, kL_add, kL_mul, kL_sub, kL_div, kL_mod, kL_int, n1_add, not_false_eq_true, not_true_eq_false, and_true, true_and, and_false, false_and, or_true, true_or, or_false, false_or, Nat.reduceEqDiff, IN, IM, s1, e1, e3]
theorem ev_faultR (hC : CR σ c) {m : Nat → Int64} (hm : RS σ.s m) {tm : Nat → Int32} (htm : ∀ k, k < σ.s.b.np → tm k = kI (σ.s.b.pt k)) {ech : Nat → Int64} (hE : ∀ t, t < 201 → ech t = kL (σ.s.b.ewB t)) {i t0 : Nat} (hi : i < 4) (ht : FU σ.s.b.ewB σ.s.so (σ.s.b.wn + 1) t0) : Rf_faultOf m (kI σ.s.b.np) tm ech (kI i) = some (fv σ.s t0 i) := by
  have hb := hC.1.1.1
  have hw : σ.s.b.wn ≤ 200 := hb.2.2.2.2.1.2
  have m5 := hm.2.2.2.2.2.1
  have m9 := hm.2.2.2.2.2.2.2.2.2.1
  have e3 := ev_faultLoop (x1 := kI i) hE (bew hC) (fun t ht => (hC.1.1.2 t ht).1) hw m5 m9 ht
  have e4 := ev_earliestR hb htm
  have b1 := bew hC t0
  have ht1 := ht.1
  unfold Rf_faultOf Rf_faultOf_35 Rf_faultOf_66 Rf_faultOf_96 fv
  rw [q32_0, e3, bd_s, ev_window m5, bd_s]
  by_cases c1 : t0 ≤ σ.s.b.wn
  · have b2 := (hC.1.1.2 t0 (by omega)).1
    rw [if_pos (by rw [kI_le (by omega) (by omega)]; exact c1), if_pos c1, e4, bd_s, nm_eq]
    obtain rfl | rfl | rfl | rfl : i = 0 ∨ i = 1 ∨ i = 2 ∨ i = 3 := by omega
    · simp (disch := omega) only [↓nm_eq, ↓bd_x, bdx_s, ↓bx_x, bxx_r, bxx_l, ↓bn_x, bnx_r, chk_t, ↓reduceIte, q32, q64, kI_lt_t, kI_lt_f, kI_le_t, kI_le_f, kI_eq_t, kI_eq_f, kL_lt_t, kL_lt_f, kL_le_t, kL_le_f, kL_eq_t, kL_eq_f, kI_m1, kI_m1', m1_m1, kI_n1, kI_n1', n1_add', eq_self, inb_t, kI_nat, kI_add, kI_mul, kI_sub, kI_div, kI_mod, kI_long, kL_add, kL_mul, kL_sub, kL_div, kL_mod, kL_int, n1_add, not_false_eq_true, not_true_eq_false, and_true, true_and, and_false, false_and, or_true, true_or, or_false, false_or, Nat.reduceEqDiff, IN, IM]
      try rfl
    · rw [if_neg (by rw [q32_2, kI_le (by omega) (by omega)]; omega), if_neg (by rw [kI_eq (by omega) (by omega)]; omega)]
      try rfl
    · rw [if_pos (by rw [q32_2, kI_le (by omega) (by omega)]; omega), if_neg (by rw [q32_3, kI_eq (by omega) (by omega)]; omega)]
      have hp := (ev_partAt hb (ℓ := fun k => kI (σ.s.b.ln k)) (fun _ _ => rfl) hm.1 hm.2.1 (kI t0 - kI (mn σ.s.b.pt σ.s.b.np)) σ.s.b.n 0 FUEL (by omega) (by have := hb.1; have : FUEL = 4096 := rfl; omega)).2
      rw [hp, bd_s]
      cases pAf σ.s.b (kI t0 - kI (mn σ.s.b.pt σ.s.b.np)) σ.s.b.n 0 with
      | inl y => rfl
      | inr y => rfl
    · rw [if_pos (by rw [q32_2, kI_le (by omega) (by omega)]; omega), if_pos (by rw [q32_3])]
      rw [if_neg (by omega), if_neg (by omega), if_neg (by omega)]
      by_cases c2 : σ.s.b.ewB t0 ≤ σ.s.so t0
      · rw [if_pos c2]
        simp (disch := omega) only [↓nm_eq, ↓bd_x, bdx_s, ↓bx_x, bxx_r, bxx_l, ↓bn_x, bnx_r, chk_t, ↓reduceIte, q32, q64, kI_lt_t, kI_lt_f, kI_le_t, kI_le_f, kI_eq_t, kI_eq_f, kL_lt_t, kL_lt_f, kL_le_t, kL_le_f, kL_eq_t, kL_eq_f, kI_m1, kI_m1', m1_m1, kI_n1, kI_n1', n1_add', eq_self, inb_t, kI_nat, kI_add, kI_mul, kI_sub, kI_div, kI_mod, kI_long, kL_add, kL_mul, kL_sub, kL_div, kL_mod, kL_int, n1_add, not_false_eq_true, not_true_eq_false, and_true, true_and, and_false, false_and, or_true, true_or, or_false, false_or, Nat.reduceEqDiff, IN, IM, hE, m9]
        try rfl
      · rw [if_neg c2]
        simp (disch := omega) only [↓nm_eq, ↓bd_x, bdx_s, ↓bx_x, bxx_r, bxx_l, ↓bn_x, bnx_r, chk_t, ↓reduceIte, q32, q64, kI_lt_t, kI_lt_f, kI_le_t, kI_le_f, kI_eq_t, kI_eq_f, kL_lt_t, kL_lt_f, kL_le_t, kL_le_f, kL_eq_t, kL_eq_f, kI_m1, kI_m1', m1_m1, kI_n1, kI_n1', n1_add', eq_self, inb_t, kI_nat, kI_add, kI_mul, kI_sub, kI_div, kI_mod, kI_long, kL_add, kL_mul, kL_sub, kL_div, kL_mod, kL_int, n1_add, not_false_eq_true, not_true_eq_false, and_true, true_and, and_false, false_and, or_true, true_or, or_false, false_or, Nat.reduceEqDiff, IN, IM, hE, m9]
  · rw [if_neg (by rw [kI_le (by omega) (by omega)]; exact c1), if_neg c1]
theorem OP_fault_x (h : ¬ IN x1 0 3) : Cf_L_fault c.waveIsFresh c.n.count c.n.front c.n.least c.n.window c.n.pulses c.n.lengths c.n.fractions c.n.pulseTimes c.n.pulseEnergies c.n.sound c.w_near c.w_far c.w_echoes c.w_totals x1 = some (.inl 1) ∧ Rf_fault d.m d.code d.lineParts d.lengths d.fractions d.pulseMany d.times d.energies d.far d.near d.echoes d.left d.dropped d.merged d.drops d.contributions d.packet x1 = some (kI 1, d.lineParts, d.lengths, d.fractions, d.pulseMany, d.times, d.energies, d.far, d.near, d.echoes, d.left, d.dropped, d.merged, d.drops, d.contributions, d.packet, kI 0) := by
  constructor
  · unfold Cf_L_fault
    simp (disch := omega) only [↓nm_eq, ↓bd_x, bdx_s, ↓bx_x, bxx_r, bxx_l, ↓bn_x, bnx_r, chk_t, ↓reduceIte, q32, q64, kI_lt_t, kI_lt_f, kI_le_t, kI_le_f, kI_eq_t, kI_eq_f, kL_lt_t, kL_lt_f, kL_le_t, kL_le_f, kL_eq_t, kL_eq_f, kI_m1, kI_m1', m1_m1, kI_n1, kI_n1', n1_add', eq_self, inb_t, kI_nat, kI_add, kI_mul, kI_sub, kI_div, kI_mod, kI_long, kL_add, kL_mul, kL_sub, kL_div, kL_mod, kL_int, n1_add, not_false_eq_true, not_true_eq_false, and_true, true_and, and_false, false_and, or_true, true_or, or_false, false_or, Nat.reduceEqDiff, IN, IM, rrI, h]
  · unfold Rf_fault Rf_fault_18
    simp (disch := omega) only [↓nm_eq, ↓bd_x, bdx_s, ↓bx_x, bxx_r, bxx_l, ↓bn_x, bnx_r, chk_t, ↓reduceIte, q32, q64, kI_lt_t, kI_lt_f, kI_le_t, kI_le_f, kI_eq_t, kI_eq_f, kL_lt_t, kL_lt_f, kL_le_t, kL_le_f, kL_eq_t, kL_eq_f, kI_m1, kI_m1', m1_m1, kI_n1, kI_n1', n1_add', eq_self, inb_t, kI_nat, kI_add, kI_mul, kI_sub, kI_div, kI_mod, kI_long, kL_add, kL_mul, kL_sub, kL_div, kL_mod, kL_int, n1_add, not_false_eq_true, not_true_eq_false, and_true, true_and, and_false, false_and, or_true, true_or, or_false, false_or, Nat.reduceEqDiff, IN, IM, iI, h]
theorem OP_fault (hC : CR σ c) (hD : DL σ d) (h : IN x1 0 3) : ∃ (r : Int32) (a b : Nat → Nat → Int64) (e t : Nat → Int64) (lp : Int32) (ℓ φ : Nat → Int32) (pm : Int32) (tm : Nat → Int32) (en far near ech : Nat → Int64) (lf dr : Int64) (mg ds ct : Int32) (pk : Int64), Cf_L_fault c.waveIsFresh c.n.count c.n.front c.n.least c.n.window c.n.pulses c.n.lengths c.n.fractions c.n.pulseTimes c.n.pulseEnergies c.n.sound c.w_near c.w_far c.w_echoes c.w_totals x1 = some (.inr (kI 1, a, b, e, t, r)) ∧ Rf_fault d.m d.code d.lineParts d.lengths d.fractions d.pulseMany d.times d.energies d.far d.near d.echoes d.left d.dropped d.merged d.drops d.contributions d.packet x1 = some (kI 0, lp, ℓ, φ, pm, tm, en, far, near, ech, lf, dr, mg, ds, ct, pk, r) ∧ σ.s.b.WRB a b e t := by
  have s2 := iI (x := x1) (a := 0) (b := 3) (by omega) (by omega)
  rw [if_pos h] at s2
  obtain ⟨i, i1, i2, i3, i4⟩ := IN_nat h
  subst i2
  rw [kI_long i1] at s2
  obtain ⟨t0, ht⟩ := FU_ex σ.s.b.ewB σ.s.so (σ.s.b.wn + 1)
  obtain ⟨a, b, e, t, e1, q1⟩ := ev_faultC hC (show i < 4 by omega) ht
  obtain ⟨ℓ, φ, tm, en, far, near, ech, lf, dr, mg, ds, e2, q2, q3⟩ := op_run hC hD
  have e3 := ev_faultR hC hD.1 q2.2.2.1 q3.2.1 (show i < 4 by omega) ht
  refine ⟨_, a, b, e, t, kI σ.s.b.n, ℓ, φ, kI σ.s.b.np, tm, en, far, near, ech, lf, dr, mg, ds, kI 0, kL 0, e1, ?_, q1⟩
  unfold Rf_fault Rf_fault_18
  simp (disch := omega) only [↓nm_eq, ↓bd_x, bdx_s, ↓bx_x, bxx_r, bxx_l, ↓bn_x, bnx_r, chk_t, ↓reduceIte, q32, q64, kI_lt_t, kI_lt_f, kI_le_t, kI_le_f, kI_eq_t, kI_eq_f, kL_lt_t, kL_lt_f, kL_le_t, kL_le_f, kL_eq_t, kL_eq_f, kI_m1, kI_m1', m1_m1, kI_n1, kI_n1', n1_add', eq_self, inb_t, kI_nat, kI_add, kI_mul, kI_sub, kI_div, kI_mod, kI_long, kL_add, kL_mul, kL_sub, kL_div, kL_mod, kL_int, n1_add, not_false_eq_true, not_true_eq_false, and_true, true_and, and_false, false_and, or_true, true_or, or_false, false_or, Nat.reduceEqDiff, IN, IM, s2, e2, e3]
  try rfl
end OPS5
