abbrev QC : Type := Int32 × Int32 × Int32 × Int32 × Int32 × (Nat → Int32) × (Nat → Int32) × (Nat → Int32) × (Nat → Int32)
abbrev QC.count (x : QC) : Int32 := x.1
abbrev QC.front (x : QC) : Int32 := x.2.1
abbrev QC.least (x : QC) : Int32 := x.2.2.1
abbrev QC.window (x : QC) : Int32 := x.2.2.2.1
abbrev QC.pulses (x : QC) : Int32 := x.2.2.2.2.1
abbrev QC.lengths (x : QC) : Nat → Int32 := x.2.2.2.2.2.1
abbrev QC.fractions (x : QC) : Nat → Int32 := x.2.2.2.2.2.2.1
abbrev QC.pulseTimes (x : QC) : Nat → Int32 := x.2.2.2.2.2.2.2.1
abbrev QC.pulseEnergies (x : QC) : Nat → Int32 := x.2.2.2.2.2.2.2.2
abbrev QC.mk (a0 : Int32) (a1 : Int32) (a2 : Int32) (a3 : Int32) (a4 : Int32) (a5 : Nat → Int32) (a6 : Nat → Int32) (a7 : Nat → Int32) (a8 : Nat → Int32) : QC := (a0, a1, a2, a3, a4, a5, a6, a7, a8)
abbrev CK : Type := Int32 × Int32 × SC × Int32 × (Nat → Nat) × SC × SC × SC × Int32 × Nat × Int32 × Int32 × (Nat → Int32) × (Nat → Int32) × (Nat → Nat → Int64) × (Nat → Nat → Int64) × (Nat → Int64) × (Nat → Int64) × Int32 × Int32 × QC × (Nat → Nat → Int64) × (Nat → Nat → Int64) × (Nat → Int64) × (Nat → Int64)
abbrev CK.waveIsFresh (x : CK) : Int32 := x.1
abbrev CK.peelingIsFresh (x : CK) : Int32 := x.2.1
abbrev CK.n (x : CK) : SC := x.2.2.1
abbrev CK.hcount (x : CK) : Int32 := x.2.2.2.1
abbrev CK.hp (x : CK) : Nat → Nat := x.2.2.2.2.1
abbrev CK.h0 (x : CK) : SC := x.2.2.2.2.2.1
abbrev CK.h1 (x : CK) : SC := x.2.2.2.2.2.2.1
abbrev CK.h2 (x : CK) : SC := x.2.2.2.2.2.2.2.1
abbrev CK.s_length (x : CK) : Int32 := x.2.2.2.2.2.2.2.2.1
abbrev CK.s_command (x : CK) : Nat := x.2.2.2.2.2.2.2.2.2.1
abbrev CK.s_position (x : CK) : Int32 := x.2.2.2.2.2.2.2.2.2.2.1
abbrev CK.s_fault (x : CK) : Int32 := x.2.2.2.2.2.2.2.2.2.2.2.1
abbrev CK.s_bytes (x : CK) : Nat → Int32 := x.2.2.2.2.2.2.2.2.2.2.2.2.1
abbrev CK.s_numbers (x : CK) : Nat → Int32 := x.2.2.2.2.2.2.2.2.2.2.2.2.2.1
abbrev CK.w_near (x : CK) : Nat → Nat → Int64 := x.2.2.2.2.2.2.2.2.2.2.2.2.2.2.1
abbrev CK.w_far (x : CK) : Nat → Nat → Int64 := x.2.2.2.2.2.2.2.2.2.2.2.2.2.2.2.1
abbrev CK.w_echoes (x : CK) : Nat → Int64 := x.2.2.2.2.2.2.2.2.2.2.2.2.2.2.2.2.1
abbrev CK.w_totals (x : CK) : Nat → Int64 := x.2.2.2.2.2.2.2.2.2.2.2.2.2.2.2.2.2.1
abbrev CK.p_result (x : CK) : Int32 := x.2.2.2.2.2.2.2.2.2.2.2.2.2.2.2.2.2.2.1
abbrev CK.p_endTime (x : CK) : Int32 := x.2.2.2.2.2.2.2.2.2.2.2.2.2.2.2.2.2.2.2.1
abbrev CK.q (x : CK) : QC := x.2.2.2.2.2.2.2.2.2.2.2.2.2.2.2.2.2.2.2.2.1
abbrev CK.t_near (x : CK) : Nat → Nat → Int64 := x.2.2.2.2.2.2.2.2.2.2.2.2.2.2.2.2.2.2.2.2.2.1
abbrev CK.t_far (x : CK) : Nat → Nat → Int64 := x.2.2.2.2.2.2.2.2.2.2.2.2.2.2.2.2.2.2.2.2.2.2.1
abbrev CK.t_echoes (x : CK) : Nat → Int64 := x.2.2.2.2.2.2.2.2.2.2.2.2.2.2.2.2.2.2.2.2.2.2.2.1
abbrev CK.t_totals (x : CK) : Nat → Int64 := x.2.2.2.2.2.2.2.2.2.2.2.2.2.2.2.2.2.2.2.2.2.2.2.2
abbrev CK.mk (a0 : Int32) (a1 : Int32) (a2 : SC) (a3 : Int32) (a4 : Nat → Nat) (a5 : SC) (a6 : SC) (a7 : SC) (a8 : Int32) (a9 : Nat) (a10 : Int32) (a11 : Int32) (a12 : Nat → Int32) (a13 : Nat → Int32) (a14 : Nat → Nat → Int64) (a15 : Nat → Nat → Int64) (a16 : Nat → Int64) (a17 : Nat → Int64) (a18 : Int32) (a19 : Int32) (a20 : QC) (a21 : Nat → Nat → Int64) (a22 : Nat → Nat → Int64) (a23 : Nat → Int64) (a24 : Nat → Int64) : CK := (a0, a1, a2, a3, a4, a5, a6, a7, a8, a9, a10, a11, a12, a13, a14, a15, a16, a17, a18, a19, a20, a21, a22, a23, a24)
abbrev RK : Type := (Nat → Int64) × (Nat → Int64) × Int32 × (Nat → Int32) × Int32 × Int32 × Int32 × (Nat → Int32) × (Nat → Int32) × Int32 × (Nat → Int32) × (Nat → Int64) × (Nat → Int64) × (Nat → Int64) × (Nat → Int64) × Int64 × Int64 × Int32 × Int32 × Int32 × Int64 × Int32 × Int32 × Int32 × Int32 × Int32 × (Nat → Int32) × Int64
abbrev RK.m (x : RK) : Nat → Int64 := x.1
abbrev RK.saved (x : RK) : Nat → Int64 := x.2.1
abbrev RK.savedCount (x : RK) : Int32 := x.2.2.1
abbrev RK.script (x : RK) : Nat → Int32 := x.2.2.2.1
abbrev RK.scriptLength (x : RK) : Int32 := x.2.2.2.2.1
abbrev RK.code (x : RK) : Int32 := x.2.2.2.2.2.1
abbrev RK.lineParts (x : RK) : Int32 := x.2.2.2.2.2.2.1
abbrev RK.lengths (x : RK) : Nat → Int32 := x.2.2.2.2.2.2.2.1
abbrev RK.fractions (x : RK) : Nat → Int32 := x.2.2.2.2.2.2.2.2.1
abbrev RK.pulseMany (x : RK) : Int32 := x.2.2.2.2.2.2.2.2.2.1
abbrev RK.times (x : RK) : Nat → Int32 := x.2.2.2.2.2.2.2.2.2.2.1
abbrev RK.energies (x : RK) : Nat → Int64 := x.2.2.2.2.2.2.2.2.2.2.2.1
abbrev RK.far (x : RK) : Nat → Int64 := x.2.2.2.2.2.2.2.2.2.2.2.2.1
abbrev RK.near (x : RK) : Nat → Int64 := x.2.2.2.2.2.2.2.2.2.2.2.2.2.1
abbrev RK.echoes (x : RK) : Nat → Int64 := x.2.2.2.2.2.2.2.2.2.2.2.2.2.2.1
abbrev RK.left (x : RK) : Int64 := x.2.2.2.2.2.2.2.2.2.2.2.2.2.2.2.1
abbrev RK.dropped (x : RK) : Int64 := x.2.2.2.2.2.2.2.2.2.2.2.2.2.2.2.2.1
abbrev RK.merged (x : RK) : Int32 := x.2.2.2.2.2.2.2.2.2.2.2.2.2.2.2.2.2.1
abbrev RK.drops (x : RK) : Int32 := x.2.2.2.2.2.2.2.2.2.2.2.2.2.2.2.2.2.2.1
abbrev RK.contributions (x : RK) : Int32 := x.2.2.2.2.2.2.2.2.2.2.2.2.2.2.2.2.2.2.2.1
abbrev RK.packet (x : RK) : Int64 := x.2.2.2.2.2.2.2.2.2.2.2.2.2.2.2.2.2.2.2.2.1
abbrev RK.peelResult (x : RK) : Int32 := x.2.2.2.2.2.2.2.2.2.2.2.2.2.2.2.2.2.2.2.2.2.1
abbrev RK.peelTime (x : RK) : Int32 := x.2.2.2.2.2.2.2.2.2.2.2.2.2.2.2.2.2.2.2.2.2.2.1
abbrev RK.peelSum (x : RK) : Int32 := x.2.2.2.2.2.2.2.2.2.2.2.2.2.2.2.2.2.2.2.2.2.2.2.1
abbrev RK.at_ (x : RK) : Int32 := x.2.2.2.2.2.2.2.2.2.2.2.2.2.2.2.2.2.2.2.2.2.2.2.2.1
abbrev RK.commands (x : RK) : Int32 := x.2.2.2.2.2.2.2.2.2.2.2.2.2.2.2.2.2.2.2.2.2.2.2.2.2.1
abbrev RK.draft (x : RK) : Nat → Int32 := x.2.2.2.2.2.2.2.2.2.2.2.2.2.2.2.2.2.2.2.2.2.2.2.2.2.2.1
abbrev RK.hash (x : RK) : Int64 := x.2.2.2.2.2.2.2.2.2.2.2.2.2.2.2.2.2.2.2.2.2.2.2.2.2.2.2
abbrev RK.mk (a0 : Nat → Int64) (a1 : Nat → Int64) (a2 : Int32) (a3 : Nat → Int32) (a4 : Int32) (a5 : Int32) (a6 : Int32) (a7 : Nat → Int32) (a8 : Nat → Int32) (a9 : Int32) (a10 : Nat → Int32) (a11 : Nat → Int64) (a12 : Nat → Int64) (a13 : Nat → Int64) (a14 : Nat → Int64) (a15 : Int64) (a16 : Int64) (a17 : Int32) (a18 : Int32) (a19 : Int32) (a20 : Int64) (a21 : Int32) (a22 : Int32) (a23 : Int32) (a24 : Int32) (a25 : Int32) (a26 : Nat → Int32) (a27 : Int64) : RK := (a0, a1, a2, a3, a4, a5, a6, a7, a8, a9, a10, a11, a12, a13, a14, a15, a16, a17, a18, a19, a20, a21, a22, a23, a24, a25, a26, a27)
abbrev SS : Type := Sx × Nat × (Nat → Sx) × Nat × (Nat → Nat)
abbrev SS.s (x : SS) : Sx := x.1
abbrev SS.k (x : SS) : Nat := x.2.1
abbrev SS.H (x : SS) : Nat → Sx := x.2.2.1
abbrev SS.L (x : SS) : Nat := x.2.2.2.1
abbrev SS.bt (x : SS) : Nat → Nat := x.2.2.2.2
abbrev SS.mk (a0 : Sx) (a1 : Nat) (a2 : Nat → Sx) (a3 : Nat) (a4 : Nat → Nat) : SS := (a0, a1, a2, a3, a4)
def SS.OK (σ : SS) : Prop := σ.s.OK ∧ σ.k ≤ 3 ∧ (∀ i, i < σ.k → (σ.H i).OK) ∧ SOK σ.L σ.bt
def CW (σ : SS) (fr : Int32) (a b : Nat → Nat → Int64) (e t : Nat → Int64) : Prop := fr = kI 0 ∨ (fr = kI 1 ∧ σ.s.b.WRB a b e t)
def CP (σ : SS) (fr res et cn : Int32) (ℓ φ : Nat → Int32) : Prop := fr = kI 0 ∨ (fr = kI 1 ∧ PQ σ.s res et cn ℓ φ)
def CR (σ : SS) (c : CK) : Prop := σ.OK ∧ c.n.R σ.s ∧ HR σ.k σ.H c.hcount c.hp c.h0 c.h1 c.h2 ∧ (c.s_length = kI σ.L ∧ ∀ u, u < σ.L → c.s_bytes u = kI (σ.bt u)) ∧ CW σ c.waveIsFresh c.w_near c.w_far c.w_echoes c.w_totals ∧ CP σ c.peelingIsFresh c.p_result c.p_endTime c.q.count c.q.lengths c.q.fractions
def DL (σ : SS) (d : RK) : Prop := RS σ.s d.m ∧ RH σ.k σ.H d.saved d.savedCount ∧ d.scriptLength = kI σ.L ∧ ∀ u, u < σ.L → d.script u = kI (σ.bt u)
def SS.ch (σ : SS) (s : Sx) : SS := (SS.mk s (pk σ.k) (pH σ.k σ.H σ.s) σ.L σ.bt)
theorem pH_OK {σ : SS} (h : σ.OK) : pk σ.k ≤ 3 ∧ ∀ i, i < pk σ.k → (pH σ.k σ.H σ.s i).OK := by
  obtain ⟨h1, h2, h3, h4⟩ := h
  unfold pk pH
  by_cases w : σ.k = 3
  · rw [if_pos w]
    refine ⟨Nat.le_refl 3, fun i hi => ?_⟩
    rw [if_pos w]
    by_cases u : i < 2
    · rw [if_pos u]; exact h3 _ (by omega)
    · rw [if_neg u]; exact h1
  · rw [if_neg w]
    refine ⟨by omega, fun i hi => ?_⟩
    rw [if_neg w]
    by_cases u : i = σ.k
    · rw [if_pos u]; exact h1
    · rw [if_neg u]; exact h3 _ (by omega)
theorem ch_OK {σ : SS} (h : σ.OK) {s : Sx} (hs : s.OK) : (σ.ch s).OK := ⟨hs, (pH_OK h).1, (pH_OK h).2, h.2.2.2⟩
section OPS1
variable {σ : SS} {c : CK} {d : RK}
theorem SC.eta (c : SC) {s : Sx} (h : c.R s) : c.count = kI s.b.n ∧ c.front = kI s.b.ft ∧ c.least = kI s.b.ls ∧ c.window = kI s.b.wn ∧ c.pulses = kI s.b.np := ⟨h.1.1, h.1.2.1, h.1.2.2.1, h.1.2.2.2.1, h.1.2.2.2.2.1⟩
theorem op_pw (hC : CR σ c) : ∃ a b e t, Cf_L_presentWave c.waveIsFresh c.n.count c.n.front c.n.least c.n.window c.n.pulses c.n.lengths c.n.fractions c.n.pulseTimes c.n.pulseEnergies c.w_near c.w_far c.w_echoes c.w_totals = some (kI 1, a, b, e, t) ∧ σ.s.b.WRB a b e t := by
  obtain ⟨hO, hn, hh, hsc, hw, hp⟩ := hC
  obtain ⟨⟨n1, n2, n3, n4, n5, n6, n7, n8, n9⟩, n10, n11⟩ := hn
  have hb := hO.1.1
  have hwn : σ.s.b.wn ≤ 200 := hb.2.2.2.2.1.2
  unfold Cf_L_presentWave Cf_L_presentWave_26
  rcases hw with hw | ⟨hw, hr⟩
  · rw [hw, n1, n2, n3, n4, n5]
    have hφ : ∀ k, k < σ.s.b.n → c.n.fractions k = kI (σ.s.b.fq (k + 1)) := fun k hk => by
      rw [n7 k hk]
      unfold Bn.fq
      rw [if_neg (by omega), if_pos (by omega), Nat.add_sub_cancel]
    obtain ⟨a, b, e, t, e1, r1⟩ := ev_spread (Bn.LOK hb) hb.2.2.2.2.2.2 hwn n6 hφ n8 n9 (cN := c.w_near) (cF := c.w_far) (ech := c.w_echoes) (tot := c.w_totals)
    have e1' : Cf_W_spread_w_n (kI σ.s.b.n) (kI σ.s.b.ft) (kI σ.s.b.ls) (kI σ.s.b.wn) (kI σ.s.b.np) c.n.lengths c.n.fractions c.n.pulseTimes c.n.pulseEnergies c.w_near c.w_far c.w_echoes c.w_totals = some (a, b, e, t) := e1
    exact ⟨a, b, e, t, by simp (disch := omega) only [↓nm_eq, ↓bd_x, bdx_s, ↓bx_x, bxx_r, bxx_l, ↓bn_x, bnx_r, chk_t, ↓reduceIte, q32, q64, kI_lt_t, kI_lt_f, kI_le_t, kI_le_f, kI_eq_t, kI_eq_f, kL_lt_t, kL_lt_f, kL_le_t, kL_le_f, kL_eq_t, kL_eq_f, kI_m1, kI_m1', m1_m1, kI_n1, kI_n1', n1_add', eq_self, inb_t, kI_nat, kI_add, kI_mul, kI_sub, kI_div, kI_mod, kI_long, kL_add, kL_mul, kL_sub, kL_div, kL_mod, kL_int, n1_add, not_false_eq_true, not_true_eq_false, and_true, true_and, and_false, false_and, or_true, true_or, or_false, false_or, Nat.reduceEqDiff, IN, IM, e1'], r1⟩
  · rw [hw]
    exact ⟨c.w_near, c.w_far, c.w_echoes, c.w_totals, by simp (disch := omega) only [↓nm_eq, ↓bd_x, bdx_s, ↓bx_x, bxx_r, bxx_l, ↓bn_x, bnx_r, chk_t, ↓reduceIte, q32, q64, kI_lt_t, kI_lt_f, kI_le_t, kI_le_f, kI_eq_t, kI_eq_f, kL_lt_t, kL_lt_f, kL_le_t, kL_le_f, kL_eq_t, kL_eq_f, kI_m1, kI_m1', m1_m1, kI_n1, kI_n1', n1_add', eq_self, inb_t, kI_nat, kI_add, kI_mul, kI_sub, kI_div, kI_mod, kI_long, kL_add, kL_mul, kL_sub, kL_div, kL_mod, kL_int, n1_add, not_false_eq_true, not_true_eq_false, and_true, true_and, and_false, false_and, or_true, true_or, or_false, false_or, Nat.reduceEqDiff, IN, IM], hr⟩
theorem op_pp (hC : CR σ c) : ∃ (res et : Int32) (q : QC) (a b : Nat → Nat → Int64) (e t : Nat → Int64), Cf_L_presentPeeling c.peelingIsFresh c.n.front c.n.least c.n.window c.n.pulseEnergies c.n.seen c.p_result c.p_endTime c.q.count c.q.front c.q.least c.q.window c.q.pulses c.q.lengths c.q.fractions c.q.pulseTimes c.q.pulseEnergies c.t_near c.t_far c.t_echoes c.t_totals = some (kI 1, res, et, q.count, q.front, q.least, q.window, q.pulses, q.lengths, q.fractions, q.pulseTimes, q.pulseEnergies, a, b, e, t) ∧ PQ σ.s res et q.count q.lengths q.fractions := by
  obtain ⟨hO, hn, hh, hsc, hw, hp⟩ := hC
  obtain ⟨⟨n1, n2, n3, n4, n5, n6, n7, n8, n9⟩, n10, n11⟩ := hn
  have hb := hO.1.1
  have hnp : 1 ≤ σ.s.b.np := hb.2.2.2.2.2.1
  unfold Cf_L_presentPeeling Cf_L_presentPeeling_23
  rcases hp with hp | ⟨hp, hr⟩
  · rw [hp, n2, n3, n4]
    obtain ⟨res, et, qc, ql, qf, qt, qe, a, b, e, t, e1, r1⟩ := ev_findLine hO.1 n11 (n9 0 (by omega)) (res := c.p_result) (et := c.p_endTime) (qc := c.q.count) (qf := c.q.front) (ql := c.q.least) (qw := c.q.window) (qp := c.q.pulses) (ℓ := c.q.lengths) (φ := c.q.fractions) (qt := c.q.pulseTimes) (qe := c.q.pulseEnergies) (tN := c.t_near) (tF := c.t_far) (tE := c.t_echoes) (tT := c.t_totals)
    exact ⟨res, et, ⟨qc, kI σ.s.b.ft, kI σ.s.b.ls, kI σ.s.b.wn, kI 1, ql, qf, qt, qe⟩, a, b, e, t, by simp (disch := omega) only [↓nm_eq, ↓bd_x, bdx_s, ↓bx_x, bxx_r, bxx_l, ↓bn_x, bnx_r, chk_t, ↓reduceIte, q32, q64, kI_lt_t, kI_lt_f, kI_le_t, kI_le_f, kI_eq_t, kI_eq_f, kL_lt_t, kL_lt_f, kL_le_t, kL_le_f, kL_eq_t, kL_eq_f, kI_m1, kI_m1', m1_m1, kI_n1, kI_n1', n1_add', eq_self, inb_t, kI_nat, kI_add, kI_mul, kI_sub, kI_div, kI_mod, kI_long, kL_add, kL_mul, kL_sub, kL_div, kL_mod, kL_int, n1_add, not_false_eq_true, not_true_eq_false, and_true, true_and, and_false, false_and, or_true, true_or, or_false, false_or, Nat.reduceEqDiff, IN, IM, e1], r1⟩
  · rw [hp]
    exact ⟨c.p_result, c.p_endTime, c.q, c.t_near, c.t_far, c.t_echoes, c.t_totals, by simp (disch := omega) only [↓nm_eq, ↓bd_x, bdx_s, ↓bx_x, bxx_r, bxx_l, ↓bn_x, bnx_r, chk_t, ↓reduceIte, q32, q64, kI_lt_t, kI_lt_f, kI_le_t, kI_le_f, kI_eq_t, kI_eq_f, kL_lt_t, kL_lt_f, kL_le_t, kL_le_f, kL_eq_t, kL_eq_f, kI_m1, kI_m1', m1_m1, kI_n1, kI_n1', n1_add', eq_self, inb_t, kI_nat, kI_add, kI_mul, kI_sub, kI_div, kI_mod, kI_long, kL_add, kL_mul, kL_sub, kL_div, kL_mod, kL_int, n1_add, not_false_eq_true, not_true_eq_false, and_true, true_and, and_false, false_and, or_true, true_or, or_false, false_or, Nat.reduceEqDiff, IN, IM], hr⟩
theorem CR_w (hC : CR σ c) {a b : Nat → Nat → Int64} {e t : Nat → Int64} (h : σ.s.b.WRB a b e t) : CR σ (CK.mk (kI 1) c.peelingIsFresh c.n c.hcount c.hp c.h0 c.h1 c.h2 c.s_length c.s_command c.s_position c.s_fault c.s_bytes c.s_numbers a b e t c.p_result c.p_endTime c.q c.t_near c.t_far c.t_echoes c.t_totals) := by
  obtain ⟨hO, hn, hh, hsc, hw, hp⟩ := hC
  exact ⟨hO, hn, hh, hsc, Or.inr ⟨rfl, h⟩, hp⟩
theorem CR_p (hC : CR σ c) {res et : Int32} {q : QC} {a b : Nat → Nat → Int64} {e t : Nat → Int64} (h : PQ σ.s res et q.count q.lengths q.fractions) : CR σ (CK.mk c.waveIsFresh (kI 1) c.n c.hcount c.hp c.h0 c.h1 c.h2 c.s_length c.s_command c.s_position c.s_fault c.s_bytes c.s_numbers c.w_near c.w_far c.w_echoes c.w_totals res et q a b e t) := by
  obtain ⟨hO, hn, hh, hsc, hw, hp⟩ := hC
  exact ⟨hO, hn, hh, hsc, hw, Or.inr ⟨rfl, h⟩⟩
theorem op_keep (hC : CR σ c) : ∃ hp' g0 g1 g2, Cf_H_keep_hist_N c.n.count c.n.front c.n.least c.n.window c.n.pulses c.n.lengths c.n.fractions c.n.pulseTimes c.n.pulseEnergies c.n.sound c.n.seen c.hcount c.hp c.h0.count c.h0.front c.h0.least c.h0.window c.h0.pulses c.h0.lengths c.h0.fractions c.h0.pulseTimes c.h0.pulseEnergies c.h0.sound c.h0.seen c.h1.count c.h1.front c.h1.least c.h1.window c.h1.pulses c.h1.lengths c.h1.fractions c.h1.pulseTimes c.h1.pulseEnergies c.h1.sound c.h1.seen c.h2.count c.h2.front c.h2.least c.h2.window c.h2.pulses c.h2.lengths c.h2.fractions c.h2.pulseTimes c.h2.pulseEnergies c.h2.sound c.h2.seen = some (kI (pk σ.k), hp', g0.count, g0.front, g0.least, g0.window, g0.pulses, g0.lengths, g0.fractions, g0.pulseTimes, g0.pulseEnergies, g0.sound, g0.seen, g1.count, g1.front, g1.least, g1.window, g1.pulses, g1.lengths, g1.fractions, g1.pulseTimes, g1.pulseEnergies, g1.sound, g1.seen, g2.count, g2.front, g2.least, g2.window, g2.pulses, g2.lengths, g2.fractions, g2.pulseTimes, g2.pulseEnergies, g2.sound, g2.seen) ∧ HR (pk σ.k) (pH σ.k σ.H σ.s) (kI (pk σ.k)) hp' g0 g1 g2 := by
  obtain ⟨hO, hn, hh, hsc, hw, hp⟩ := hC
  exact ev_keepC hO.1 hh hn
theorem op_keepR (hO : σ.OK) (hD : DL σ d) : ∃ sv', Rf_keep d.m d.saved d.savedCount = some (sv', kI (pk σ.k)) ∧ RH (pk σ.k) (pH σ.k σ.H σ.s) sv' (kI (pk σ.k)) := ev_keepR hO.1 hO.2.2.1 hD.1 hD.2.1
theorem CR_ch (hC : CR σ c) {s : Sx} (hs : s.OK) {x : SC} (hx : x.R s) {hp' : Nat → Nat} {g0 g1 g2 : SC} (hh : HR (pk σ.k) (pH σ.k σ.H σ.s) (kI (pk σ.k)) hp' g0 g1 g2) : CR (σ.ch s) (CK.mk (kI 0) (kI 0) x (kI (pk σ.k)) hp' g0 g1 g2 c.s_length c.s_command c.s_position c.s_fault c.s_bytes c.s_numbers c.w_near c.w_far c.w_echoes c.w_totals c.p_result c.p_endTime c.q c.t_near c.t_far c.t_echoes c.t_totals) := by
  obtain ⟨hO, hn, _, hsc, hw, hp⟩ := hC
  exact ⟨ch_OK hO hs, hx, hh, hsc, Or.inl rfl, Or.inl rfl⟩
theorem DL_ch (hD : DL σ d) {s : Sx} {m' sv' : Nat → Int64} (hm : RS s m') (hh : RH (pk σ.k) (pH σ.k σ.H σ.s) sv' (kI (pk σ.k))) (cd : Int32) : DL (σ.ch s) (RK.mk m' sv' (kI (pk σ.k)) d.script d.scriptLength cd d.lineParts d.lengths d.fractions d.pulseMany d.times d.energies d.far d.near d.echoes d.left d.dropped d.merged d.drops d.contributions d.packet d.peelResult d.peelTime d.peelSum d.at_ d.commands d.draft d.hash) := ⟨hm, hh, hD.2.2.1, hD.2.2.2⟩
end OPS1
