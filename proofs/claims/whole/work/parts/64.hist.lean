abbrev SC : Type := Int32 × Int32 × Int32 × Int32 × Int32 × (Nat → Int32) × (Nat → Int32) × (Nat → Int32) × (Nat → Int32) × (Nat → Int64) × (Nat → Int64)
abbrev SC.count (x : SC) : Int32 := x.1
abbrev SC.front (x : SC) : Int32 := x.2.1
abbrev SC.least (x : SC) : Int32 := x.2.2.1
abbrev SC.window (x : SC) : Int32 := x.2.2.2.1
abbrev SC.pulses (x : SC) : Int32 := x.2.2.2.2.1
abbrev SC.lengths (x : SC) : Nat → Int32 := x.2.2.2.2.2.1
abbrev SC.fractions (x : SC) : Nat → Int32 := x.2.2.2.2.2.2.1
abbrev SC.pulseTimes (x : SC) : Nat → Int32 := x.2.2.2.2.2.2.2.1
abbrev SC.pulseEnergies (x : SC) : Nat → Int32 := x.2.2.2.2.2.2.2.2.1
abbrev SC.sound (x : SC) : Nat → Int64 := x.2.2.2.2.2.2.2.2.2.1
abbrev SC.seen (x : SC) : Nat → Int64 := x.2.2.2.2.2.2.2.2.2.2
abbrev SC.mk (a0 : Int32) (a1 : Int32) (a2 : Int32) (a3 : Int32) (a4 : Int32) (a5 : Nat → Int32) (a6 : Nat → Int32) (a7 : Nat → Int32) (a8 : Nat → Int32) (a9 : Nat → Int64) (a10 : Nat → Int64) : SC := (a0, a1, a2, a3, a4, a5, a6, a7, a8, a9, a10)
def SC.R (c : SC) (s : Sx) : Prop := CS s c.count c.front c.least c.window c.pulses c.lengths c.fractions c.pulseTimes c.pulseEnergies c.sound c.seen
def cpS (a d : SC) : SC := ⟨a.count, a.front, a.least, a.window, a.pulses, va_cpy a.lengths d.lengths 0 0 8, va_cpy a.fractions d.fractions 0 0 8, va_cpy a.pulseTimes d.pulseTimes 0 0 4, va_cpy a.pulseEnergies d.pulseEnergies 0 0 4, va_cpy a.sound d.sound 0 0 201, va_cpy a.seen d.seen 0 0 201⟩
theorem cpy_in {α : Type} {f g : Nat → α} {n j : Nat} (h : j < n) : va_cpy f g 0 0 n j = f j := by
  unfold va_cpy
  rw [if_pos (by omega)]
  congr 1
  omega
theorem cpS_R {a d : SC} {s : Sx} (hs : s.OK) (h : a.R s) : (cpS a d).R s := by
  obtain ⟨⟨h1, h2, h3, h4, h5, h6, h7, h8, h9⟩, h10, h11⟩ := h
  have hn := hs.1.1
  have hp : s.b.np ≤ 4 := hs.1.2.2.2.2.2.2.1
  refine ⟨⟨h1, h2, h3, h4, h5, fun k hk => ?_, fun k hk => ?_, fun k hk => ?_, fun k hk => ?_⟩, fun t ht => ?_, fun t ht => ?_⟩
  · exact (cpy_in (by omega)).trans (h6 k hk)
  · exact (cpy_in (by omega)).trans (h7 k hk)
  · exact (cpy_in (by omega)).trans (h8 k hk)
  · exact (cpy_in (by omega)).trans (h9 k hk)
  · exact (cpy_in (by omega)).trans (h10 t ht)
  · exact (cpy_in (by omega)).trans (h11 t ht)
def slot (h0 h1 h2 : SC) (j : Nat) : SC := if j = 0 then h0 else if j = 1 then h1 else h2
def HR (k : Nat) (H : Nat → Sx) (hc : Int32) (hp : Nat → Nat) (h0 h1 h2 : SC) : Prop := k ≤ 3 ∧ hc = kI k ∧ (∀ i, i < 3 → hp i < 3) ∧ (∀ i j, i < 3 → j < 3 → hp i = hp j → i = j) ∧ ∀ i, i < k → (slot h0 h1 h2 (hp i)).R (H i)
def pk (k : Nat) : Nat := if k = 3 then 3 else k + 1
def pH (k : Nat) (H : Nat → Sx) (s : Sx) : Nat → Sx := fun i => if k = 3 then (if i < 2 then H (i + 1) else s) else if i = k then s else H i
theorem cp_H0N (a d : SC) : Cf_S_copyState_H0_N a.count a.front a.least a.window a.pulses a.lengths a.fractions a.pulseTimes a.pulseEnergies a.sound a.seen d.count d.front d.least d.window d.pulses d.lengths d.fractions d.pulseTimes d.pulseEnergies d.sound d.seen = some ((cpS a d).count, (cpS a d).front, (cpS a d).least, (cpS a d).window, (cpS a d).pulses, (cpS a d).lengths, (cpS a d).fractions, (cpS a d).pulseTimes, (cpS a d).pulseEnergies, (cpS a d).sound, (cpS a d).seen) := rfl
theorem cp_NH0 (a d : SC) : Cf_S_copyState_N_H0 a.count a.front a.least a.window a.pulses a.lengths a.fractions a.pulseTimes a.pulseEnergies a.sound a.seen d.count d.front d.least d.window d.pulses d.lengths d.fractions d.pulseTimes d.pulseEnergies d.sound d.seen = some ((cpS d a).count, (cpS d a).front, (cpS d a).least, (cpS d a).window, (cpS d a).pulses, (cpS d a).lengths, (cpS d a).fractions, (cpS d a).pulseTimes, (cpS d a).pulseEnergies, (cpS d a).sound, (cpS d a).seen) := rfl
theorem cp_H1N (a d : SC) : Cf_S_copyState_H1_N a.count a.front a.least a.window a.pulses a.lengths a.fractions a.pulseTimes a.pulseEnergies a.sound a.seen d.count d.front d.least d.window d.pulses d.lengths d.fractions d.pulseTimes d.pulseEnergies d.sound d.seen = some ((cpS a d).count, (cpS a d).front, (cpS a d).least, (cpS a d).window, (cpS a d).pulses, (cpS a d).lengths, (cpS a d).fractions, (cpS a d).pulseTimes, (cpS a d).pulseEnergies, (cpS a d).sound, (cpS a d).seen) := rfl
theorem cp_NH1 (a d : SC) : Cf_S_copyState_N_H1 a.count a.front a.least a.window a.pulses a.lengths a.fractions a.pulseTimes a.pulseEnergies a.sound a.seen d.count d.front d.least d.window d.pulses d.lengths d.fractions d.pulseTimes d.pulseEnergies d.sound d.seen = some ((cpS d a).count, (cpS d a).front, (cpS d a).least, (cpS d a).window, (cpS d a).pulses, (cpS d a).lengths, (cpS d a).fractions, (cpS d a).pulseTimes, (cpS d a).pulseEnergies, (cpS d a).sound, (cpS d a).seen) := rfl
theorem cp_H2N (a d : SC) : Cf_S_copyState_H2_N a.count a.front a.least a.window a.pulses a.lengths a.fractions a.pulseTimes a.pulseEnergies a.sound a.seen d.count d.front d.least d.window d.pulses d.lengths d.fractions d.pulseTimes d.pulseEnergies d.sound d.seen = some ((cpS a d).count, (cpS a d).front, (cpS a d).least, (cpS a d).window, (cpS a d).pulses, (cpS a d).lengths, (cpS a d).fractions, (cpS a d).pulseTimes, (cpS a d).pulseEnergies, (cpS a d).sound, (cpS a d).seen) := rfl
theorem cp_NH2 (a d : SC) : Cf_S_copyState_N_H2 a.count a.front a.least a.window a.pulses a.lengths a.fractions a.pulseTimes a.pulseEnergies a.sound a.seen d.count d.front d.least d.window d.pulses d.lengths d.fractions d.pulseTimes d.pulseEnergies d.sound d.seen = some ((cpS d a).count, (cpS d a).front, (cpS d a).least, (cpS d a).window, (cpS d a).pulses, (cpS d a).lengths, (cpS d a).fractions, (cpS d a).pulseTimes, (cpS d a).pulseEnergies, (cpS d a).sound, (cpS d a).seen) := rfl
section HS
variable {s : Sx} (hs : s.OK) {k : Nat} {H : Nat → Sx} {hc : Int32} {hp : Nat → Nat} {c h0 h1 h2 : SC}
theorem ev_keep12 (hs : s.OK) (hc3 : k < 3) (hh : HR k H (kI k) hp h0 h1 h2) (hn : c.R s) : ∃ g0 g1 g2 : SC, Cf_H_keep_hist_N_12 c.count c.front c.least c.window c.pulses c.lengths c.fractions c.pulseTimes c.pulseEnergies c.sound c.seen (kI k) hp h0.count h0.front h0.least h0.window h0.pulses h0.lengths h0.fractions h0.pulseTimes h0.pulseEnergies h0.sound h0.seen h1.count h1.front h1.least h1.window h1.pulses h1.lengths h1.fractions h1.pulseTimes h1.pulseEnergies h1.sound h1.seen h2.count h2.front h2.least h2.window h2.pulses h2.lengths h2.fractions h2.pulseTimes h2.pulseEnergies h2.sound h2.seen = some (kI (k + 1), hp, g0.count, g0.front, g0.least, g0.window, g0.pulses, g0.lengths, g0.fractions, g0.pulseTimes, g0.pulseEnergies, g0.sound, g0.seen, g1.count, g1.front, g1.least, g1.window, g1.pulses, g1.lengths, g1.fractions, g1.pulseTimes, g1.pulseEnergies, g1.sound, g1.seen, g2.count, g2.front, g2.least, g2.window, g2.pulses, g2.lengths, g2.fractions, g2.pulseTimes, g2.pulseEnergies, g2.sound, g2.seen) ∧ HR (k + 1) (fun i => if i = k then s else H i) (kI (k + 1)) hp g0 g1 g2 := by
  obtain ⟨q1, _, q2, q3, q4⟩ := hh
  have p := q2 k hc3
  unfold Cf_H_keep_hist_N_12
  obtain e | e | e : hp k = 0 ∨ hp k = 1 ∨ hp k = 2 := by omega
  · refine ⟨cpS c h0, h1, h2, by simp (disch := omega) only [↓nm_eq, ↓bd_x, bdx_s, ↓bx_x, bxx_r, bxx_l, ↓bn_x, bnx_r, chk_t, ↓reduceIte, q32, q64, kI_lt_t, kI_lt_f, kI_le_t, kI_le_f, kI_eq_t, kI_eq_f, kL_lt_t, kL_lt_f, kL_le_t, kL_le_f, kL_eq_t, kL_eq_f, kI_m1, kI_m1', m1_m1, kI_n1, kI_n1', n1_add', eq_self, inb_t, kI_nat, kI_add, kI_mul, kI_sub, kI_div, kI_mod, kI_long, kL_add, kL_mul, kL_sub, kL_div, kL_mod, kL_int, n1_add, not_false_eq_true, not_true_eq_false, and_true, true_and, and_false, false_and, or_true, true_or, or_false, false_or, Nat.reduceEqDiff, IN, IM, e, cp_H0N c h0], by omega, rfl, q2, q3, fun i hi => ?_⟩
    try dsimp only
    by_cases w : i = k
    · rw [if_pos w, w, e]
      exact cpS_R hs hn
    · rw [if_neg w]
      have r := q4 i (by omega)
      have u : hp i ≠ 0 := fun v => w (q3 i k (by omega) hc3 (by omega))
      unfold slot at r ⊢
      rw [if_neg u] at r ⊢
      exact r
  · refine ⟨h0, cpS c h1, h2, by simp (disch := omega) only [↓nm_eq, ↓bd_x, bdx_s, ↓bx_x, bxx_r, bxx_l, ↓bn_x, bnx_r, chk_t, ↓reduceIte, q32, q64, kI_lt_t, kI_lt_f, kI_le_t, kI_le_f, kI_eq_t, kI_eq_f, kL_lt_t, kL_lt_f, kL_le_t, kL_le_f, kL_eq_t, kL_eq_f, kI_m1, kI_m1', m1_m1, kI_n1, kI_n1', n1_add', eq_self, inb_t, kI_nat, kI_add, kI_mul, kI_sub, kI_div, kI_mod, kI_long, kL_add, kL_mul, kL_sub, kL_div, kL_mod, kL_int, n1_add, not_false_eq_true, not_true_eq_false, and_true, true_and, and_false, false_and, or_true, true_or, or_false, false_or, Nat.reduceEqDiff, IN, IM, e, cp_H1N c h1], by omega, rfl, q2, q3, fun i hi => ?_⟩
    try dsimp only
    by_cases w : i = k
    · rw [if_pos w, w, e]
      exact cpS_R hs hn
    · rw [if_neg w]
      have r := q4 i (by omega)
      have u : hp i ≠ 1 := fun v => w (q3 i k (by omega) hc3 (by omega))
      unfold slot at r ⊢
      rw [if_neg u] at r ⊢
      exact r
  · refine ⟨h0, h1, cpS c h2, by simp (disch := omega) only [↓nm_eq, ↓bd_x, bdx_s, ↓bx_x, bxx_r, bxx_l, ↓bn_x, bnx_r, chk_t, ↓reduceIte, q32, q64, kI_lt_t, kI_lt_f, kI_le_t, kI_le_f, kI_eq_t, kI_eq_f, kL_lt_t, kL_lt_f, kL_le_t, kL_le_f, kL_eq_t, kL_eq_f, kI_m1, kI_m1', m1_m1, kI_n1, kI_n1', n1_add', eq_self, inb_t, kI_nat, kI_add, kI_mul, kI_sub, kI_div, kI_mod, kI_long, kL_add, kL_mul, kL_sub, kL_div, kL_mod, kL_int, n1_add, not_false_eq_true, not_true_eq_false, and_true, true_and, and_false, false_and, or_true, true_or, or_false, false_or, Nat.reduceEqDiff, IN, IM, e, cp_H2N c h2], by omega, rfl, q2, q3, fun i hi => ?_⟩
    try dsimp only
    by_cases w : i = k
    · rw [if_pos w, w, e]
      exact cpS_R hs hn
    · rw [if_neg w]
      have r := q4 i (by omega)
      have u : hp i ≠ 2 := fun v => w (q3 i k (by omega) hc3 (by omega))
      have u2 := q2 i (by omega)
      unfold slot at r ⊢
      by_cases u3 : hp i = 0
      · rw [if_pos u3] at r ⊢
        exact r
      · rw [if_neg u3, if_pos (by omega)] at r ⊢
        exact r
theorem up_a {f : Nat → Nat} {i v j : Nat} : va_up f i v j = if j = i then v else f j := rfl
theorem ev_move (q2 : ∀ i, i < 3 → hp i < 3) : Cf_H_moveOldestToTop_hist hc hp = some (kI 2, va_up (va_up (va_up hp 0 (hp 1)) 1 (hp 2)) 2 (hp 0)) := by
  have p0 := q2 0 (by omega)
  have p1 := q2 1 (by omega)
  have p2 := q2 2 (by omega)
  obtain ⟨g, hg⟩ : ∃ g, FUEL = g + 3 := ⟨4093, rfl⟩
  unfold Cf_H_moveOldestToTop_hist
  rw [hg]
  have e1 : (if 2 = 0 then hp 1 else hp 2) = hp 2 := rfl
  have e2 : 1 - 1 = 0 := rfl
  have e3 : 2 - 1 = 1 := rfl
  simp only [Cl_H_moveOldestToTop_hist_9]
  simp (disch := omega) only [↓nm_eq, ↓bd_x, bdx_s, ↓bx_x, bxx_r, bxx_l, ↓bn_x, bnx_r, chk_t, ↓reduceIte, q32, q64, kI_lt_t, kI_lt_f, kI_le_t, kI_le_f, kI_eq_t, kI_eq_f, kL_lt_t, kL_lt_f, kL_le_t, kL_le_f, kL_eq_t, kL_eq_f, kI_m1, kI_m1', m1_m1, kI_n1, kI_n1', n1_add', eq_self, inb_t, kI_nat, kI_add, kI_mul, kI_sub, kI_div, kI_mod, kI_long, kL_add, kL_mul, kL_sub, kL_div, kL_mod, kL_int, n1_add, not_false_eq_true, not_true_eq_false, and_true, true_and, and_false, false_and, or_true, true_or, or_false, false_or, Nat.reduceEqDiff, IN, IM, up_a, p0, p1, p2, e2, e3, e1]
theorem ev_keepC (hs : s.OK) (hh : HR k H hc hp h0 h1 h2) (hn : c.R s) : ∃ (hp' : Nat → Nat) (g0 g1 g2 : SC), Cf_H_keep_hist_N c.count c.front c.least c.window c.pulses c.lengths c.fractions c.pulseTimes c.pulseEnergies c.sound c.seen hc hp h0.count h0.front h0.least h0.window h0.pulses h0.lengths h0.fractions h0.pulseTimes h0.pulseEnergies h0.sound h0.seen h1.count h1.front h1.least h1.window h1.pulses h1.lengths h1.fractions h1.pulseTimes h1.pulseEnergies h1.sound h1.seen h2.count h2.front h2.least h2.window h2.pulses h2.lengths h2.fractions h2.pulseTimes h2.pulseEnergies h2.sound h2.seen = some (kI (pk k), hp', g0.count, g0.front, g0.least, g0.window, g0.pulses, g0.lengths, g0.fractions, g0.pulseTimes, g0.pulseEnergies, g0.sound, g0.seen, g1.count, g1.front, g1.least, g1.window, g1.pulses, g1.lengths, g1.fractions, g1.pulseTimes, g1.pulseEnergies, g1.sound, g1.seen, g2.count, g2.front, g2.least, g2.window, g2.pulses, g2.lengths, g2.fractions, g2.pulseTimes, g2.pulseEnergies, g2.sound, g2.seen) ∧ HR (pk k) (pH k H s) (kI (pk k)) hp' g0 g1 g2 := by
  have hh0 := hh
  obtain ⟨q1, q0, q2, q3, q4⟩ := hh
  subst q0
  unfold Cf_H_keep_hist_N pk pH
  by_cases w : k = 3
  · subst w
    have d := q3 0 1 (by omega) (by omega)
    have d2 := q3 0 2 (by omega) (by omega)
    have d3 := q3 1 2 (by omega) (by omega)
    have p0 := q2 0 (by omega)
    have p1 := q2 1 (by omega)
    have p2 := q2 2 (by omega)
    have hv : ∀ i, i < 3 → va_up (va_up (va_up hp 0 (hp 1)) 1 (hp 2)) 2 (hp 0) i = if i = 0 then hp 1 else if i = 1 then hp 2 else hp 0 := fun i hi => by
      obtain rfl | rfl | rfl : i = 0 ∨ i = 1 ∨ i = 2 := by omega
      · rfl
      · rfl
      · rfl
    obtain ⟨g0, g1, g2, e1, e2⟩ := ev_keep12 (k := 2) (H := fun i => H (i + 1)) (hp := va_up (va_up (va_up hp 0 (hp 1)) 1 (hp 2)) 2 (hp 0)) hs (by omega) ⟨by omega, rfl, fun i hi => by
      rw [hv i hi]
      obtain rfl | rfl | rfl : i = 0 ∨ i = 1 ∨ i = 2 := by omega
      · exact p1
      · exact p2
      · exact p0, fun i j hi hj => by
      rw [hv i hi, hv j hj]
      obtain rfl | rfl | rfl : i = 0 ∨ i = 1 ∨ i = 2 := by omega
      · obtain rfl | rfl | rfl : j = 0 ∨ j = 1 ∨ j = 2 := by omega
        · exact fun _ => rfl
        · exact fun q => absurd (d3 q) (by omega)
        · exact fun q => absurd (d q.symm) (by omega)
      · obtain rfl | rfl | rfl : j = 0 ∨ j = 1 ∨ j = 2 := by omega
        · exact fun q => absurd (d3 q.symm) (by omega)
        · exact fun _ => rfl
        · exact fun q => absurd (d2 q.symm) (by omega)
      · obtain rfl | rfl | rfl : j = 0 ∨ j = 1 ∨ j = 2 := by omega
        · exact fun q => absurd (d q) (by omega)
        · exact fun q => absurd (d2 q) (by omega)
        · exact fun _ => rfl, fun i hi => by
      rw [hv i (by omega)]
      obtain rfl | rfl : i = 0 ∨ i = 1 := by omega
      · exact q4 1 (by omega)
      · exact q4 2 (by omega)⟩ hn
    refine ⟨va_up (va_up (va_up hp 0 (hp 1)) 1 (hp 2)) 2 (hp 0), g0, g1, g2, ?_, ?_⟩
    · rw [if_neg (by rw [q32_3, kI_lt (by omega) (by omega)]; omega), ev_move q2, bd_s]
      exact e1
    · obtain ⟨r1, r2, r3, r4, r5⟩ := e2
      refine ⟨Nat.le_refl 3, r2, r3, r4, fun i hi => ?_⟩
      have r6 := r5 i hi
      have hi' : i < 3 := hi
      try dsimp only at r6 ⊢
      rw [if_pos rfl]
      by_cases u : i < 2
      · rw [if_pos u]
        rw [if_neg (by omega)] at r6
        exact r6
      · rw [if_neg u]
        rw [if_pos (by omega)] at r6
        exact r6
  · obtain ⟨g0, g1, g2, e1, e2⟩ := ev_keep12 hs (by omega) hh0 hn
    rw [if_neg w]
    refine ⟨hp, g0, g1, g2, ?_, ?_⟩
    · rw [if_pos (by rw [q32_3, kI_lt (by omega) (by omega)]; omega)]
      exact e1
    · obtain ⟨r1, r2, r3, r4, r5⟩ := e2
      refine ⟨r1, r2, r3, r4, fun i hi => ?_⟩
      try dsimp only
      rw [if_neg w]
      exact r5 i hi
theorem ev_restore (hh : HR k H hc hp h0 h1 h2) (hk : 1 ≤ k) (hH : (H (k - 1)).OK) : ∃ g : SC, Cf_H_restoreLatest_hist_N c.count c.front c.least c.window c.pulses c.lengths c.fractions c.pulseTimes c.pulseEnergies c.sound c.seen hc hp h0.count h0.front h0.least h0.window h0.pulses h0.lengths h0.fractions h0.pulseTimes h0.pulseEnergies h0.sound h0.seen h1.count h1.front h1.least h1.window h1.pulses h1.lengths h1.fractions h1.pulseTimes h1.pulseEnergies h1.sound h1.seen h2.count h2.front h2.least h2.window h2.pulses h2.lengths h2.fractions h2.pulseTimes h2.pulseEnergies h2.sound h2.seen = some (g.count, g.front, g.least, g.window, g.pulses, g.lengths, g.fractions, g.pulseTimes, g.pulseEnergies, g.sound, g.seen, kI (k - 1)) ∧ g.R (H (k - 1)) ∧ HR (k - 1) H (kI (k - 1)) hp h0 h1 h2 := by
  obtain ⟨q1, q0, q2, q3, q4⟩ := hh
  subst q0
  have p := q2 (k - 1) (by omega)
  have r := q4 (k - 1) (by omega)
  have hr : HR (k - 1) H (kI (k - 1)) hp h0 h1 h2 := ⟨by omega, rfl, q2, q3, fun i hi => q4 i (by omega)⟩
  unfold Cf_H_restoreLatest_hist_N Cf_H_restoreLatest_hist_N_30
  obtain e | e | e : hp (k - 1) = 0 ∨ hp (k - 1) = 1 ∨ hp (k - 1) = 2 := by omega
  · rw [e] at r
    exact ⟨cpS h0 c, by simp (disch := omega) only [↓nm_eq, ↓bd_x, bdx_s, ↓bx_x, bxx_r, bxx_l, ↓bn_x, bnx_r, chk_t, ↓reduceIte, q32, q64, kI_lt_t, kI_lt_f, kI_le_t, kI_le_f, kI_eq_t, kI_eq_f, kL_lt_t, kL_lt_f, kL_le_t, kL_le_f, kL_eq_t, kL_eq_f, kI_m1, kI_m1', m1_m1, kI_n1, kI_n1', n1_add', eq_self, inb_t, kI_nat, kI_add, kI_mul, kI_sub, kI_div, kI_mod, kI_long, kL_add, kL_mul, kL_sub, kL_div, kL_mod, kL_int, n1_add, not_false_eq_true, not_true_eq_false, and_true, true_and, and_false, false_and, or_true, true_or, or_false, false_or, Nat.reduceEqDiff, IN, IM, e, cp_NH0 c h0], cpS_R hH r, hr⟩
  · rw [e] at r
    exact ⟨cpS h1 c, by simp (disch := omega) only [↓nm_eq, ↓bd_x, bdx_s, ↓bx_x, bxx_r, bxx_l, ↓bn_x, bnx_r, chk_t, ↓reduceIte, q32, q64, kI_lt_t, kI_lt_f, kI_le_t, kI_le_f, kI_eq_t, kI_eq_f, kL_lt_t, kL_lt_f, kL_le_t, kL_le_f, kL_eq_t, kL_eq_f, kI_m1, kI_m1', m1_m1, kI_n1, kI_n1', n1_add', eq_self, inb_t, kI_nat, kI_add, kI_mul, kI_sub, kI_div, kI_mod, kI_long, kL_add, kL_mul, kL_sub, kL_div, kL_mod, kL_int, n1_add, not_false_eq_true, not_true_eq_false, and_true, true_and, and_false, false_and, or_true, true_or, or_false, false_or, Nat.reduceEqDiff, IN, IM, e, cp_NH1 c h1], cpS_R hH r, hr⟩
  · rw [e] at r
    exact ⟨cpS h2 c, by simp (disch := omega) only [↓nm_eq, ↓bd_x, bdx_s, ↓bx_x, bxx_r, bxx_l, ↓bn_x, bnx_r, chk_t, ↓reduceIte, q32, q64, kI_lt_t, kI_lt_f, kI_le_t, kI_le_f, kI_eq_t, kI_eq_f, kL_lt_t, kL_lt_f, kL_le_t, kL_le_f, kL_eq_t, kL_eq_f, kI_m1, kI_m1', m1_m1, kI_n1, kI_n1', n1_add', eq_self, inb_t, kI_nat, kI_add, kI_mul, kI_sub, kI_div, kI_mod, kI_long, kL_add, kL_mul, kL_sub, kL_div, kL_mod, kL_int, n1_add, not_false_eq_true, not_true_eq_false, and_true, true_and, and_false, false_and, or_true, true_or, or_false, false_or, Nat.reduceEqDiff, IN, IM, e, cp_NH2 c h2], cpS_R hH r, hr⟩
end HS
theorem RS_congr {s : Sx} (hs : s.OK) {m m' : Nat → Int64} (hm : RS s m) (h : ∀ j, j < 431 → m' j = m j) : RS s m' := by
  obtain ⟨m0, m1, m2, m3, m4, m5, m6, m7, m8, m9, m10⟩ := hm
  have hn := hs.1.1
  have hnp : s.b.np ≤ 4 := hs.1.2.2.2.2.2.2.1
  refine ⟨?_, fun k hk => ?_, fun k hk => ?_, ?_, ?_, ?_, ?_, fun k hk => ?_, fun k hk => ?_, fun t ht => ?_, fun t ht => ?_⟩
  · rw [h _ (by omega)]; exact m0
  · rw [h _ (by omega)]; exact m1 k hk
  · rw [h _ (by omega)]; exact m2 k hk
  · rw [h _ (by omega)]; exact m3
  · rw [h _ (by omega)]; exact m4
  · rw [h _ (by omega)]; exact m5
  · rw [h _ (by omega)]; exact m6
  · rw [h _ (by omega)]; exact m7 k hk
  · rw [h _ (by omega)]; exact m8 k hk
  · rw [h _ (by omega)]; exact m9 t ht
  · rw [h _ (by omega)]; exact m10 t ht
def RH (k : Nat) (H : Nat → Sx) (sv : Nat → Int64) (sc : Int32) : Prop := k ≤ 3 ∧ sc = kI k ∧ ∀ i, i < k → RS (H i) fun j => sv (431 * i + j)
section RHS
variable {s : Sx} {k : Nat} {H : Nat → Sx} {sv : Nat → Int64} {sc : Int32} {m : Nat → Int64}
theorem ev_keep49 (hs : s.OK) (hH : ∀ i, i < k → (H i).OK) (hm : RS s m) (hk : k < 3) (hh : ∀ i, i < k → RS (H i) fun j => sv (431 * i + j)) : ∃ sv', Rf_keep_49 m sv (kI k) = some (sv', kI (k + 1)) ∧ RH (k + 1) (fun i => if i = k then s else H i) sv' (kI (k + 1)) := by
  obtain ⟨a, e, q1, q2⟩ := loop_gen (L := fun fu (z : Nat → Int64) x => Rl_keep_51 m (kI k) fu z x) (fun i z => (∀ j, j < i → z (431 * k + j) = m j) ∧ ∀ j, j < 431 * k → z j = sv j) (fun z => (∀ j, j < 431 → z (431 * k + j) = m j) ∧ ∀ j, j < 431 * k → z j = sv j) 431 (fun fu i z hi hz => by
      refine Or.inr ⟨vp_updL z (431 * k + i) (m i), ?_, fun j hj => ?_, fun j hj => ?_⟩
      · simp only [Rl_keep_51]
        simp (disch := omega) only [↓nm_eq, ↓bd_x, bdx_s, ↓bx_x, bxx_r, bxx_l, ↓bn_x, bnx_r, chk_t, ↓reduceIte, q32, q64, kI_lt_t, kI_lt_f, kI_le_t, kI_le_f, kI_eq_t, kI_eq_f, kL_lt_t, kL_lt_f, kL_le_t, kL_le_f, kL_eq_t, kL_eq_f, kI_m1, kI_m1', m1_m1, kI_n1, kI_n1', n1_add', eq_self, inb_t, kI_nat, kI_add, kI_mul, kI_sub, kI_div, kI_mod, kI_long, kL_add, kL_mul, kL_sub, kL_div, kL_mod, kL_int, n1_add, not_false_eq_true, not_true_eq_false, and_true, true_and, and_false, false_and, or_true, true_or, or_false, false_or, Nat.reduceEqDiff, IN, IM]
      · by_cases e : j = i
        · rw [e, up_at]
        · rw [up_ne (by omega)]; exact hz.1 j (by omega)
      · rw [up_ne (by omega)]; exact hz.2 j hj)
    (fun fu z hz => ⟨z, by simp only [Rl_keep_51]; simp (disch := omega) only [↓nm_eq, ↓bd_x, bdx_s, ↓bx_x, bxx_r, bxx_l, ↓bn_x, bnx_r, chk_t, ↓reduceIte, q32, q64, kI_lt_t, kI_lt_f, kI_le_t, kI_le_f, kI_eq_t, kI_eq_f, kL_lt_t, kL_lt_f, kL_le_t, kL_le_f, kL_eq_t, kL_eq_f, kI_m1, kI_m1', m1_m1, kI_n1, kI_n1', n1_add', eq_self, inb_t, kI_nat, kI_add, kI_mul, kI_sub, kI_div, kI_mod, kI_long, kL_add, kL_mul, kL_sub, kL_div, kL_mod, kL_int, n1_add, not_false_eq_true, not_true_eq_false, and_true, true_and, and_false, false_and, or_true, true_or, or_false, false_or, Nat.reduceEqDiff, IN, IM], hz⟩) FUEL 0 sv (by have : FUEL = 4096 := rfl; omega) (by omega) ⟨fun j hj => by omega, fun j _ => rfl⟩
  refine ⟨a, ?_, by omega, rfl, fun i hi => ?_⟩
  · unfold Rf_keep_49
    rw [q32_0, bd_e e]
    simp (disch := omega) only [↓nm_eq, ↓bd_x, bdx_s, ↓bx_x, bxx_r, bxx_l, ↓bn_x, bnx_r, chk_t, ↓reduceIte, q32, q64, kI_lt_t, kI_lt_f, kI_le_t, kI_le_f, kI_eq_t, kI_eq_f, kL_lt_t, kL_lt_f, kL_le_t, kL_le_f, kL_eq_t, kL_eq_f, kI_m1, kI_m1', m1_m1, kI_n1, kI_n1', n1_add', eq_self, inb_t, kI_nat, kI_add, kI_mul, kI_sub, kI_div, kI_mod, kI_long, kL_add, kL_mul, kL_sub, kL_div, kL_mod, kL_int, n1_add, not_false_eq_true, not_true_eq_false, and_true, true_and, and_false, false_and, or_true, true_or, or_false, false_or, Nat.reduceEqDiff, IN, IM]
  · try dsimp only
    by_cases w : i = k
    · rw [if_pos w, w]
      exact RS_congr hs hm fun j hj => q1 j hj
    · rw [if_neg w]
      refine RS_congr (hH i (by omega)) (hh i (by omega)) fun j hj => q2 _ ?_
      have : 431 * (i + 1) ≤ 431 * k := Nat.mul_le_mul_left 431 (by omega)
      omega
theorem ev_keepR (hs : s.OK) (hH : ∀ i, i < k → (H i).OK) (hm : RS s m) (hh : RH k H sv sc) : ∃ sv', Rf_keep m sv sc = some (sv', kI (pk k)) ∧ RH (pk k) (pH k H s) sv' (kI (pk k)) := by
  obtain ⟨h1, h2, h3⟩ := hh
  subst h2
  unfold Rf_keep pk pH
  by_cases w : k = 3
  · subst w
    obtain ⟨a, e, q1⟩ := loop_gen (L := fun fu (z : Nat → Int64) x => Rl_keep_10 fu z x) (fun i z => (∀ j, j < i → z j = sv (j + 431)) ∧ ∀ j, i ≤ j → z j = sv j) (fun z => ∀ j, j < 862 → z j = sv (j + 431)) 862 (fun fu i z hi hz => by
        have r := hz.2 (i + 431) (by omega)
        refine Or.inr ⟨vp_updL z i (sv (i + 431)), ?_, fun j hj => ?_, fun j hj => ?_⟩
        · simp only [Rl_keep_10]
          simp (disch := omega) only [↓nm_eq, ↓bd_x, bdx_s, ↓bx_x, bxx_r, bxx_l, ↓bn_x, bnx_r, chk_t, ↓reduceIte, q32, q64, kI_lt_t, kI_lt_f, kI_le_t, kI_le_f, kI_eq_t, kI_eq_f, kL_lt_t, kL_lt_f, kL_le_t, kL_le_f, kL_eq_t, kL_eq_f, kI_m1, kI_m1', m1_m1, kI_n1, kI_n1', n1_add', eq_self, inb_t, kI_nat, kI_add, kI_mul, kI_sub, kI_div, kI_mod, kI_long, kL_add, kL_mul, kL_sub, kL_div, kL_mod, kL_int, n1_add, not_false_eq_true, not_true_eq_false, and_true, true_and, and_false, false_and, or_true, true_or, or_false, false_or, Nat.reduceEqDiff, IN, IM, r]
        · by_cases e : j = i
          · rw [e, up_at]
          · rw [up_ne (by omega)]; exact hz.1 j (by omega)
        · rw [up_ne (by omega)]; exact hz.2 j (by omega))
      (fun fu z hz => ⟨z, by simp only [Rl_keep_10]; simp (disch := omega) only [↓nm_eq, ↓bd_x, bdx_s, ↓bx_x, bxx_r, bxx_l, ↓bn_x, bnx_r, chk_t, ↓reduceIte, q32, q64, kI_lt_t, kI_lt_f, kI_le_t, kI_le_f, kI_eq_t, kI_eq_f, kL_lt_t, kL_lt_f, kL_le_t, kL_le_f, kL_eq_t, kL_eq_f, kI_m1, kI_m1', m1_m1, kI_n1, kI_n1', n1_add', eq_self, inb_t, kI_nat, kI_add, kI_mul, kI_sub, kI_div, kI_mod, kI_long, kL_add, kL_mul, kL_sub, kL_div, kL_mod, kL_int, n1_add, not_false_eq_true, not_true_eq_false, and_true, true_and, and_false, false_and, or_true, true_or, or_false, false_or, Nat.reduceEqDiff, IN, IM], hz.1⟩) FUEL 0 sv (by have : FUEL = 4096 := rfl; omega) (by omega) ⟨fun j hj => by omega, fun j _ => rfl⟩
    obtain ⟨sv', e1, r1, r2, r3⟩ := ev_keep49 (k := 2) (H := fun i => H (i + 1)) (sv := a) hs (fun i hi => hH (i + 1) (by omega)) hm (by omega) (fun i hi => RS_congr (hH (i + 1) (by omega)) (h3 (i + 1) (by omega)) fun j hj => by
      rw [q1 _ (by omega), show 431 * i + j + 431 = 431 * (i + 1) + j from by omega])
    refine ⟨sv', ?_, ?_⟩
    · rw [q32_3, if_pos rfl, q32_0, bd_e e, nm_eq, q32_1, kI_sub (by omega)]
      exact e1
    · refine ⟨Nat.le_refl 3, r2, fun i hi => ?_⟩
      have hi' : i < 3 := hi
      have r6 := r3 i hi'
      try dsimp only at r6 ⊢
      rw [if_pos rfl]
      by_cases u : i < 2
      · rw [if_pos u]
        rw [if_neg (by omega)] at r6
        exact r6
      · rw [if_neg u]
        rw [if_pos (by omega)] at r6
        exact r6
  · obtain ⟨sv', e1, r1, r2, r3⟩ := ev_keep49 hs hH hm (show k < 3 by omega) h3
    rw [if_neg w, if_neg (by rw [q32_3, kI_eq (by omega) (by omega)]; exact w)]
    refine ⟨sv', e1, r1, r2, fun i hi => ?_⟩
    try dsimp only
    rw [if_neg w]
    exact r3 i hi
theorem ev_undoR (hH : ∀ i, i < k → (H i).OK) (hk : 1 ≤ k) (hh : RH k H sv sc) : ∃ m', Rl_undo_37 sv (kI (k - 1)) FUEL m (kI 0) = some m' ∧ RS (H (k - 1)) m' ∧ RH (k - 1) H sv (kI (k - 1)) := by
  obtain ⟨h1, h2, h3⟩ := hh
  obtain ⟨a, e, q1⟩ := loop_gen (L := fun fu (z : Nat → Int64) x => Rl_undo_37 sv (kI (k - 1)) fu z x) (fun i z => ∀ j, j < i → z j = sv (431 * (k - 1) + j)) (fun z => ∀ j, j < 431 → z j = sv (431 * (k - 1) + j)) 431 (fun fu i z hi hz => by
      refine Or.inr ⟨vp_updL z i (sv (431 * (k - 1) + i)), ?_, fun j hj => ?_⟩
      · simp only [Rl_undo_37]
        simp (disch := omega) only [↓nm_eq, ↓bd_x, bdx_s, ↓bx_x, bxx_r, bxx_l, ↓bn_x, bnx_r, chk_t, ↓reduceIte, q32, q64, kI_lt_t, kI_lt_f, kI_le_t, kI_le_f, kI_eq_t, kI_eq_f, kL_lt_t, kL_lt_f, kL_le_t, kL_le_f, kL_eq_t, kL_eq_f, kI_m1, kI_m1', m1_m1, kI_n1, kI_n1', n1_add', eq_self, inb_t, kI_nat, kI_add, kI_mul, kI_sub, kI_div, kI_mod, kI_long, kL_add, kL_mul, kL_sub, kL_div, kL_mod, kL_int, n1_add, not_false_eq_true, not_true_eq_false, and_true, true_and, and_false, false_and, or_true, true_or, or_false, false_or, Nat.reduceEqDiff, IN, IM]
      · by_cases e : j = i
        · rw [e, up_at]
        · rw [up_ne (by omega)]; exact hz j (by omega))
    (fun fu z hz => ⟨z, by simp only [Rl_undo_37]; simp (disch := omega) only [↓nm_eq, ↓bd_x, bdx_s, ↓bx_x, bxx_r, bxx_l, ↓bn_x, bnx_r, chk_t, ↓reduceIte, q32, q64, kI_lt_t, kI_lt_f, kI_le_t, kI_le_f, kI_eq_t, kI_eq_f, kL_lt_t, kL_lt_f, kL_le_t, kL_le_f, kL_eq_t, kL_eq_f, kI_m1, kI_m1', m1_m1, kI_n1, kI_n1', n1_add', eq_self, inb_t, kI_nat, kI_add, kI_mul, kI_sub, kI_div, kI_mod, kI_long, kL_add, kL_mul, kL_sub, kL_div, kL_mod, kL_int, n1_add, not_false_eq_true, not_true_eq_false, and_true, true_and, and_false, false_and, or_true, true_or, or_false, false_or, Nat.reduceEqDiff, IN, IM], hz⟩) FUEL 0 m (by have : FUEL = 4096 := rfl; omega) (by omega) (fun j hj => by omega)
  exact ⟨a, e, RS_congr (hH _ (by omega)) (h3 (k - 1) (by omega)) q1, by omega, rfl, fun i hi => h3 i (by omega)⟩
end RHS
