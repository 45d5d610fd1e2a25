def AG (κ : Nat) (x1 x2 x3 y1 y2 y3 : Int32) : Prop := (1 ≤ cn8 κ → x1 = y1) ∧ (2 ≤ cn8 κ → x2 = y2) ∧ (3 ≤ cn8 κ → x3 = y3)
theorem vd_0 (b : Bn) (x1 x2 x3 : Int32) : vd 0 b x1 x2 x3 = vAdd b x1 x2 := by unfold vd; rw [if_pos rfl]
theorem vd_2 (b : Bn) (x1 x2 x3 : Int32) : vd 2 b x1 x2 x3 = vCut b x1 := by unfold vd; rw [if_neg (by omega), if_neg (by omega), if_pos rfl]
theorem vd_4 (b : Bn) (x1 x2 x3 : Int32) : vd 4 b x1 x2 x3 = vPul b x1 x2 := by unfold vd; rw [if_neg (by omega), if_neg (by omega), if_neg (by omega), if_neg (by omega), if_pos rfl]
theorem eb_0 (b : Bn) (x1 x2 x3 : Int32) : eb 0 b x1 x2 x3 = addB b x1.toNatClampNeg x2.toNatClampNeg := by unfold eb; rw [if_pos rfl]
theorem eb_2 (b : Bn) (x1 x2 x3 : Int32) : eb 2 b x1 x2 x3 = cutB b x1.toNatClampNeg := by unfold eb; rw [if_neg (by omega), if_neg (by omega), if_pos rfl]
theorem eb_4 (b : Bn) (x1 x2 x3 : Int32) : eb 4 b x1 x2 x3 = apB b x1.toNatClampNeg x2.toNatClampNeg := by unfold eb; rw [if_neg (by omega), if_neg (by omega), if_neg (by omega), if_neg (by omega)]
theorem vd_01 (b : Bn) (x1 x2 x3 : Int32) : vd 0 b x1 x2 x3 ≠ 1 := by
  rw [vd_0]
  unfold vAdd
  by_cases w : IN x1 1 20 ∧ IN x2 0 1000
  · rw [if_pos w]
    by_cases u : b.n = 8
    · rw [if_pos u]; omega
    · rw [if_neg u]; omega
  · rw [if_neg w]; omega
theorem vd_41 (b : Bn) (x1 x2 x3 : Int32) : vd 4 b x1 x2 x3 ≠ 1 := by
  rw [vd_4]
  unfold vPul
  by_cases w : IN x1 0 100 ∧ IN x2 1 1000000
  · rw [if_pos w]
    by_cases u : b.np = 4
    · rw [if_pos u]; omega
    · rw [if_neg u]; omega
  · rw [if_neg w]; omega
theorem AG_c {κ : Nat} (hκ : κ < 8) {x1 x2 x3 y1 y2 y3 : Int32} (h : AG κ x1 x2 x3 y1 y2 y3) (b : Bn) : vd κ b x1 x2 x3 = vd κ b y1 y2 y3 ∧ (κ < 5 → eb κ b x1 x2 x3 = eb κ b y1 y2 y3 ∧ an κ b x1 = an κ b y1) := by
  obtain ⟨h1, h2, h3⟩ := h
  obtain rfl | rfl | rfl | rfl | rfl | h5 : κ = 0 ∨ κ = 1 ∨ κ = 2 ∨ κ = 3 ∨ κ = 4 ∨ 5 ≤ κ := by omega
  · have e1 := h1 (by decide)
    have e2 := h2 (by decide)
    subst e1
    subst e2
    rw [vd_0, vd_0, eb_0, eb_0]
    exact ⟨rfl, fun _ => ⟨rfl, rfl⟩⟩
  · have e1 := h1 (by decide)
    have e2 := h2 (by decide)
    have e3 := h3 (by decide)
    subst e1
    subst e2
    subst e3
    exact ⟨rfl, fun _ => ⟨rfl, rfl⟩⟩
  · have e1 := h1 (by decide)
    subst e1
    rw [vd_2, vd_2, eb_2, eb_2]
    exact ⟨rfl, fun _ => ⟨rfl, rfl⟩⟩
  · have e1 := h1 (by decide)
    have e2 := h2 (by decide)
    have e3 := h3 (by decide)
    subst e1
    subst e2
    subst e3
    exact ⟨rfl, fun _ => ⟨rfl, rfl⟩⟩
  · have e1 := h1 (by decide)
    have e2 := h2 (by decide)
    subst e1
    subst e2
    rw [vd_4, vd_4, eb_4, eb_4]
    exact ⟨rfl, fun _ => ⟨rfl, rfl⟩⟩
  · refine ⟨?_, fun q => by omega⟩
    unfold vd
    rw [if_neg (by omega), if_neg (by omega), if_neg (by omega), if_neg (by omega), if_neg (by omega), if_neg (by omega), if_neg (by omega), if_neg (by omega), if_neg (by omega), if_neg (by omega)]
theorem SN_c {κ : Nat} (hκ : κ < 8) {x1 x2 x3 y1 y2 y3 : Int32} (h : AG κ x1 x2 x3 y1 y2 y3) {s s' : Sx} {r : Nat} (k : SN κ s y1 y2 y3 s' r) : SN κ s x1 x2 x3 s' r := by
  rcases k with ⟨k1, k2, k3⟩ | k | k | k
  · obtain ⟨e1, e2⟩ := (AG_c hκ h s.b).2 k1
    exact Or.inl ⟨k1, by rw [e1]; exact k2, by rw [e2]; exact k3⟩
  · exact Or.inr (Or.inl k)
  · exact Or.inr (Or.inr (Or.inl k))
  · exact Or.inr (Or.inr (Or.inr k))
section OPS7
variable {σ : SS} {c : CK} {d : RK}
theorem op_does (hC : CR σ c) (hD : DL σ d) {κ row : Nat} (hκ : κ < 8) (hr : row + 3 < 120) (h0 : d.draft row = kI (kd κ)) : (vd κ σ.s.b (d.draft (row + 1)) (d.draft (row + 2)) (d.draft (row + 3)) = 0 → ∃ (s' : Sx) (r : Nat) (m' : Nat → Int64) (lp : Int32) (ℓ1 φ1 : Nat → Int32) (pm : Int32) (tm : Nat → Int32) (en far near ech : Nat → Int64) (lf dr : Int64) (mg ds ct : Int32) (pk' : Int64) (pr pt1 ps : Int32), Rf_does d.m d.code d.lineParts d.lengths d.fractions d.pulseMany d.times d.energies d.far d.near d.echoes d.left d.dropped d.merged d.drops d.contributions d.packet d.peelResult d.peelTime d.peelSum d.draft (kI row) = some (m', kI 0, lp, ℓ1, φ1, pm, tm, en, far, near, ech, lf, dr, mg, ds, ct, pk', pr, pt1, ps, kI 1) ∧ SN κ σ.s (d.draft (row + 1)) (d.draft (row + 2)) (d.draft (row + 3)) s' r ∧ RS s' m') ∧ (vd κ σ.s.b (d.draft (row + 1)) (d.draft (row + 2)) (d.draft (row + 3)) ≠ 0 → ∃ cd, Rf_does d.m d.code d.lineParts d.lengths d.fractions d.pulseMany d.times d.energies d.far d.near d.echoes d.left d.dropped d.merged d.drops d.contributions d.packet d.peelResult d.peelTime d.peelSum d.draft (kI row) = some (d.m, cd, d.lineParts, d.lengths, d.fractions, d.pulseMany, d.times, d.energies, d.far, d.near, d.echoes, d.left, d.dropped, d.merged, d.drops, d.contributions, d.packet, d.peelResult, d.peelTime, d.peelSum, kI 0)) := by
  have hs := hC.1.1
  have hm := hD.1
  have h3 := vd_3 κ σ.s.b (d.draft (row + 1)) (d.draft (row + 2)) (d.draft (row + 3))
  obtain ⟨y1, hy1⟩ : ∃ y, d.draft (row + 1) = y := ⟨_, rfl⟩
  obtain ⟨y2, hy2⟩ : ∃ y, d.draft (row + 2) = y := ⟨_, rfl⟩
  obtain ⟨y3, hy3⟩ : ∃ y, d.draft (row + 3) = y := ⟨_, rfl⟩
  rw [hy1, hy2, hy3] at h3 ⊢
  unfold Rf_does Rf_does_111 Rf_does_147 Rf_does_179 Rf_does_211 Rf_does_230 Rf_does_249 Rf_does_298 Rf_does_314 Rf_does_315
  obtain rfl | rfl | rfl | rfl | rfl | rfl | rfl | rfl : κ = 0 ∨ κ = 1 ∨ κ = 2 ∨ κ = 3 ∨ κ = 4 ∨ κ = 5 ∨ κ = 6 ∨ κ = 7 := by omega
  · have h0' : d.draft row = kI 2 := h0
    have eW := W_add (x1 := y1) (x2 := y2) hs hm y3
    constructor
    · intro hv
      obtain ⟨m', e3, q4⟩ := R_adds (x1 := y1) (x2 := y2) (x3 := y3) hs hm hv
      obtain ⟨r, hr1, hr2⟩ := an_r 0 hs.1 hv (by omega)
      rw [hr1] at e3
      rw [hv] at eW
      have c0 : cA 0 = 0 := rfl
      rw [c0] at eW
      exact ⟨_, r, m', d.lineParts, d.lengths, d.fractions, d.pulseMany, d.times, d.energies, d.far, d.near, d.echoes, d.left, d.dropped, d.merged, d.drops, d.contributions, d.packet, d.peelResult, d.peelTime, d.peelSum, by simp (disch := omega) only [↓nm_eq, ↓bd_x, bdx_s, ↓bx_x, bxx_r, bxx_l, ↓bn_x, bnx_r, chk_t, ↓reduceIte, q32, q64, kI_lt_t, kI_lt_f, kI_le_t, kI_le_f, kI_eq_t, kI_eq_f, kL_lt_t, kL_lt_f, kL_le_t, kL_le_f, kL_eq_t, kL_eq_f, kI_m1, kI_m1', m1_m1, kI_n1, kI_n1', n1_add', eq_self, inb_t, kI_nat, kI_add, kI_mul, kI_sub, kI_div, kI_mod, kI_long, kL_add, kL_mul, kL_sub, kL_div, kL_mod, kL_int, n1_add, not_false_eq_true, not_true_eq_false, and_true, true_and, and_false, false_and, or_true, true_or, or_false, false_or, Nat.reduceEqDiff, IN, IM, h0', hy1, hy2, hy3, eW, e3], Or.inl ⟨by omega, rfl, hr1, hr2⟩, q4⟩
    · intro hv
      obtain w | w | w : vd 0 σ.s.b y1 y2 y3 = 1 ∨ vd 0 σ.s.b y1 y2 y3 = 2 ∨ vd 0 σ.s.b y1 y2 y3 = 3 := by omega
      · exact absurd w (vd_01 _ _ _ _)
      · rw [w] at eW
        have c0 : cA 2 = 1 := rfl
        rw [c0] at eW
        exact ⟨kI 1, by simp (disch := omega) only [↓nm_eq, ↓bd_x, bdx_s, ↓bx_x, bxx_r, bxx_l, ↓bn_x, bnx_r, chk_t, ↓reduceIte, q32, q64, kI_lt_t, kI_lt_f, kI_le_t, kI_le_f, kI_eq_t, kI_eq_f, kL_lt_t, kL_lt_f, kL_le_t, kL_le_f, kL_eq_t, kL_eq_f, kI_m1, kI_m1', m1_m1, kI_n1, kI_n1', n1_add', eq_self, inb_t, kI_nat, kI_add, kI_mul, kI_sub, kI_div, kI_mod, kI_long, kL_add, kL_mul, kL_sub, kL_div, kL_mod, kL_int, n1_add, not_false_eq_true, not_true_eq_false, and_true, true_and, and_false, false_and, or_true, true_or, or_false, false_or, Nat.reduceEqDiff, IN, IM, h0', hy1, hy2, hy3, eW]⟩
      · rw [w] at eW
        have c0 : cA 3 = 2 := rfl
        rw [c0] at eW
        exact ⟨kI 2, by simp (disch := omega) only [↓nm_eq, ↓bd_x, bdx_s, ↓bx_x, bxx_r, bxx_l, ↓bn_x, bnx_r, chk_t, ↓reduceIte, q32, q64, kI_lt_t, kI_lt_f, kI_le_t, kI_le_f, kI_eq_t, kI_eq_f, kL_lt_t, kL_lt_f, kL_le_t, kL_le_f, kL_eq_t, kL_eq_f, kI_m1, kI_m1', m1_m1, kI_n1, kI_n1', n1_add', eq_self, inb_t, kI_nat, kI_add, kI_mul, kI_sub, kI_div, kI_mod, kI_long, kL_add, kL_mul, kL_sub, kL_div, kL_mod, kL_int, n1_add, not_false_eq_true, not_true_eq_false, and_true, true_and, and_false, false_and, or_true, true_or, or_false, false_or, Nat.reduceEqDiff, IN, IM, h0', hy1, hy2, hy3, eW]⟩
  · have h0' : d.draft row = kI 0 := h0
    have eW := W_set (x1 := y1) (x2 := y2) (x3 := y3) hs hm
    constructor
    · intro hv
      obtain ⟨m', e3, q4⟩ := R_sets (x1 := y1) (x2 := y2) (x3 := y3) hs hm hv
      obtain ⟨r, hr1, hr2⟩ := an_r 1 hs.1 hv (by omega)
      rw [hr1] at e3
      rw [hv] at eW
      exact ⟨_, r, m', d.lineParts, d.lengths, d.fractions, d.pulseMany, d.times, d.energies, d.far, d.near, d.echoes, d.left, d.dropped, d.merged, d.drops, d.contributions, d.packet, d.peelResult, d.peelTime, d.peelSum, by simp (disch := omega) only [↓nm_eq, ↓bd_x, bdx_s, ↓bx_x, bxx_r, bxx_l, ↓bn_x, bnx_r, chk_t, ↓reduceIte, q32, q64, kI_lt_t, kI_lt_f, kI_le_t, kI_le_f, kI_eq_t, kI_eq_f, kL_lt_t, kL_lt_f, kL_le_t, kL_le_f, kL_eq_t, kL_eq_f, kI_m1, kI_m1', m1_m1, kI_n1, kI_n1', n1_add', eq_self, inb_t, kI_nat, kI_add, kI_mul, kI_sub, kI_div, kI_mod, kI_long, kL_add, kL_mul, kL_sub, kL_div, kL_mod, kL_int, n1_add, not_false_eq_true, not_true_eq_false, and_true, true_and, and_false, false_and, or_true, true_or, or_false, false_or, Nat.reduceEqDiff, IN, IM, h0', hy1, hy2, hy3, eW, e3], Or.inl ⟨by omega, rfl, hr1, hr2⟩, q4⟩
    · intro hv
      obtain w | w | w : vd 1 σ.s.b y1 y2 y3 = 1 ∨ vd 1 σ.s.b y1 y2 y3 = 2 ∨ vd 1 σ.s.b y1 y2 y3 = 3 := by omega
      · rw [w] at eW
        exact ⟨kI 1, by simp (disch := omega) only [↓nm_eq, ↓bd_x, bdx_s, ↓bx_x, bxx_r, bxx_l, ↓bn_x, bnx_r, chk_t, ↓reduceIte, q32, q64, kI_lt_t, kI_lt_f, kI_le_t, kI_le_f, kI_eq_t, kI_eq_f, kL_lt_t, kL_lt_f, kL_le_t, kL_le_f, kL_eq_t, kL_eq_f, kI_m1, kI_m1', m1_m1, kI_n1, kI_n1', n1_add', eq_self, inb_t, kI_nat, kI_add, kI_mul, kI_sub, kI_div, kI_mod, kI_long, kL_add, kL_mul, kL_sub, kL_div, kL_mod, kL_int, n1_add, not_false_eq_true, not_true_eq_false, and_true, true_and, and_false, false_and, or_true, true_or, or_false, false_or, Nat.reduceEqDiff, IN, IM, h0', hy1, hy2, hy3, eW]⟩
      · rw [w] at eW
        exact ⟨kI 2, by simp (disch := omega) only [↓nm_eq, ↓bd_x, bdx_s, ↓bx_x, bxx_r, bxx_l, ↓bn_x, bnx_r, chk_t, ↓reduceIte, q32, q64, kI_lt_t, kI_lt_f, kI_le_t, kI_le_f, kI_eq_t, kI_eq_f, kL_lt_t, kL_lt_f, kL_le_t, kL_le_f, kL_eq_t, kL_eq_f, kI_m1, kI_m1', m1_m1, kI_n1, kI_n1', n1_add', eq_self, inb_t, kI_nat, kI_add, kI_mul, kI_sub, kI_div, kI_mod, kI_long, kL_add, kL_mul, kL_sub, kL_div, kL_mod, kL_int, n1_add, not_false_eq_true, not_true_eq_false, and_true, true_and, and_false, false_and, or_true, true_or, or_false, false_or, Nat.reduceEqDiff, IN, IM, h0', hy1, hy2, hy3, eW]⟩
      · rw [w] at eW
        exact ⟨kI 3, by simp (disch := omega) only [↓nm_eq, ↓bd_x, bdx_s, ↓bx_x, bxx_r, bxx_l, ↓bn_x, bnx_r, chk_t, ↓reduceIte, q32, q64, kI_lt_t, kI_lt_f, kI_le_t, kI_le_f, kI_eq_t, kI_eq_f, kL_lt_t, kL_lt_f, kL_le_t, kL_le_f, kL_eq_t, kL_eq_f, kI_m1, kI_m1', m1_m1, kI_n1, kI_n1', n1_add', eq_self, inb_t, kI_nat, kI_add, kI_mul, kI_sub, kI_div, kI_mod, kI_long, kL_add, kL_mul, kL_sub, kL_div, kL_mod, kL_int, n1_add, not_false_eq_true, not_true_eq_false, and_true, true_and, and_false, false_and, or_true, true_or, or_false, false_or, Nat.reduceEqDiff, IN, IM, h0', hy1, hy2, hy3, eW]⟩
  · have h0' : d.draft row = kI 4 := h0
    have eW := W_cut (x1 := y1) hs hm y2 y3
    constructor
    · intro hv
      obtain ⟨m', e3, q4⟩ := R_cut (x1 := y1) (x2 := y2) (x3 := y3) hs hm hv
      obtain ⟨r, hr1, hr2⟩ := an_r 2 hs.1 hv (by omega)
      rw [hr1] at e3
      rw [if_pos hv] at eW
      exact ⟨_, r, m', d.lineParts, d.lengths, d.fractions, d.pulseMany, d.times, d.energies, d.far, d.near, d.echoes, d.left, d.dropped, d.merged, d.drops, d.contributions, d.packet, d.peelResult, d.peelTime, d.peelSum, by simp (disch := omega) only [↓nm_eq, ↓bd_x, bdx_s, ↓bx_x, bxx_r, bxx_l, ↓bn_x, bnx_r, chk_t, ↓reduceIte, q32, q64, kI_lt_t, kI_lt_f, kI_le_t, kI_le_f, kI_eq_t, kI_eq_f, kL_lt_t, kL_lt_f, kL_le_t, kL_le_f, kL_eq_t, kL_eq_f, kI_m1, kI_m1', m1_m1, kI_n1, kI_n1', n1_add', eq_self, inb_t, kI_nat, kI_add, kI_mul, kI_sub, kI_div, kI_mod, kI_long, kL_add, kL_mul, kL_sub, kL_div, kL_mod, kL_int, n1_add, not_false_eq_true, not_true_eq_false, and_true, true_and, and_false, false_and, or_true, true_or, or_false, false_or, Nat.reduceEqDiff, IN, IM, h0', hy1, hy2, hy3, eW, e3], Or.inl ⟨by omega, rfl, hr1, hr2⟩, q4⟩
    · intro hv
      rw [if_neg hv] at eW
      exact ⟨kI 1, by simp (disch := omega) only [↓nm_eq, ↓bd_x, bdx_s, ↓bx_x, bxx_r, bxx_l, ↓bn_x, bnx_r, chk_t, ↓reduceIte, q32, q64, kI_lt_t, kI_lt_f, kI_le_t, kI_le_f, kI_eq_t, kI_eq_f, kL_lt_t, kL_lt_f, kL_le_t, kL_le_f, kL_eq_t, kL_eq_f, kI_m1, kI_m1', m1_m1, kI_n1, kI_n1', n1_add', eq_self, inb_t, kI_nat, kI_add, kI_mul, kI_sub, kI_div, kI_mod, kI_long, kL_add, kL_mul, kL_sub, kL_div, kL_mod, kL_int, n1_add, not_false_eq_true, not_true_eq_false, and_true, true_and, and_false, false_and, or_true, true_or, or_false, false_or, Nat.reduceEqDiff, IN, IM, h0', hy1, hy2, hy3, eW]⟩
  · have h0' : d.draft row = kI 1 := h0
    have eW := W_spl (x1 := y1) (x2 := y2) (x3 := y3) hs hm
    constructor
    · intro hv
      obtain ⟨m', e3, q4⟩ := R_spl (x1 := y1) (x2 := y2) (x3 := y3) hs hm hv
      obtain ⟨r, hr1, hr2⟩ := an_r 3 hs.1 hv (by omega)
      rw [hr1] at e3
      rw [hv] at eW
      exact ⟨_, r, m', d.lineParts, d.lengths, d.fractions, d.pulseMany, d.times, d.energies, d.far, d.near, d.echoes, d.left, d.dropped, d.merged, d.drops, d.contributions, d.packet, d.peelResult, d.peelTime, d.peelSum, by simp (disch := omega) only [↓nm_eq, ↓bd_x, bdx_s, ↓bx_x, bxx_r, bxx_l, ↓bn_x, bnx_r, chk_t, ↓reduceIte, q32, q64, kI_lt_t, kI_lt_f, kI_le_t, kI_le_f, kI_eq_t, kI_eq_f, kL_lt_t, kL_lt_f, kL_le_t, kL_le_f, kL_eq_t, kL_eq_f, kI_m1, kI_m1', m1_m1, kI_n1, kI_n1', n1_add', eq_self, inb_t, kI_nat, kI_add, kI_mul, kI_sub, kI_div, kI_mod, kI_long, kL_add, kL_mul, kL_sub, kL_div, kL_mod, kL_int, n1_add, not_false_eq_true, not_true_eq_false, and_true, true_and, and_false, false_and, or_true, true_or, or_false, false_or, Nat.reduceEqDiff, IN, IM, h0', hy1, hy2, hy3, eW, e3], Or.inl ⟨by omega, rfl, hr1, hr2⟩, q4⟩
    · intro hv
      obtain w | w | w : vd 3 σ.s.b y1 y2 y3 = 1 ∨ vd 3 σ.s.b y1 y2 y3 = 2 ∨ vd 3 σ.s.b y1 y2 y3 = 3 := by omega
      · rw [w] at eW
        exact ⟨kI 1, by simp (disch := omega) only [↓nm_eq, ↓bd_x, bdx_s, ↓bx_x, bxx_r, bxx_l, ↓bn_x, bnx_r, chk_t, ↓reduceIte, q32, q64, kI_lt_t, kI_lt_f, kI_le_t, kI_le_f, kI_eq_t, kI_eq_f, kL_lt_t, kL_lt_f, kL_le_t, kL_le_f, kL_eq_t, kL_eq_f, kI_m1, kI_m1', m1_m1, kI_n1, kI_n1', n1_add', eq_self, inb_t, kI_nat, kI_add, kI_mul, kI_sub, kI_div, kI_mod, kI_long, kL_add, kL_mul, kL_sub, kL_div, kL_mod, kL_int, n1_add, not_false_eq_true, not_true_eq_false, and_true, true_and, and_false, false_and, or_true, true_or, or_false, false_or, Nat.reduceEqDiff, IN, IM, h0', hy1, hy2, hy3, eW]⟩
      · rw [w] at eW
        exact ⟨kI 2, by simp (disch := omega) only [↓nm_eq, ↓bd_x, bdx_s, ↓bx_x, bxx_r, bxx_l, ↓bn_x, bnx_r, chk_t, ↓reduceIte, q32, q64, kI_lt_t, kI_lt_f, kI_le_t, kI_le_f, kI_eq_t, kI_eq_f, kL_lt_t, kL_lt_f, kL_le_t, kL_le_f, kL_eq_t, kL_eq_f, kI_m1, kI_m1', m1_m1, kI_n1, kI_n1', n1_add', eq_self, inb_t, kI_nat, kI_add, kI_mul, kI_sub, kI_div, kI_mod, kI_long, kL_add, kL_mul, kL_sub, kL_div, kL_mod, kL_int, n1_add, not_false_eq_true, not_true_eq_false, and_true, true_and, and_false, false_and, or_true, true_or, or_false, false_or, Nat.reduceEqDiff, IN, IM, h0', hy1, hy2, hy3, eW]⟩
      · rw [w] at eW
        exact ⟨kI 3, by simp (disch := omega) only [↓nm_eq, ↓bd_x, bdx_s, ↓bx_x, bxx_r, bxx_l, ↓bn_x, bnx_r, chk_t, ↓reduceIte, q32, q64, kI_lt_t, kI_lt_f, kI_le_t, kI_le_f, kI_eq_t, kI_eq_f, kL_lt_t, kL_lt_f, kL_le_t, kL_le_f, kL_eq_t, kL_eq_f, kI_m1, kI_m1', m1_m1, kI_n1, kI_n1', n1_add', eq_self, inb_t, kI_nat, kI_add, kI_mul, kI_sub, kI_div, kI_mod, kI_long, kL_add, kL_mul, kL_sub, kL_div, kL_mod, kL_int, n1_add, not_false_eq_true, not_true_eq_false, and_true, true_and, and_false, false_and, or_true, true_or, or_false, false_or, Nat.reduceEqDiff, IN, IM, h0', hy1, hy2, hy3, eW]⟩
  · have h0' : d.draft row = kI 3 := h0
    have eW := W_pul (x1 := y1) (x2 := y2) hs hm y3
    constructor
    · intro hv
      obtain ⟨m', e3, q4⟩ := R_pul (x1 := y1) (x2 := y2) (x3 := y3) hs hm hv
      obtain ⟨r, hr1, hr2⟩ := an_r 4 hs.1 hv (by omega)
      rw [hr1] at e3
      rw [hv] at eW
      have c0 : cA 0 = 0 := rfl
      rw [c0] at eW
      exact ⟨_, r, m', d.lineParts, d.lengths, d.fractions, d.pulseMany, d.times, d.energies, d.far, d.near, d.echoes, d.left, d.dropped, d.merged, d.drops, d.contributions, d.packet, d.peelResult, d.peelTime, d.peelSum, by simp (disch := omega) only [↓nm_eq, ↓bd_x, bdx_s, ↓bx_x, bxx_r, bxx_l, ↓bn_x, bnx_r, chk_t, ↓reduceIte, q32, q64, kI_lt_t, kI_lt_f, kI_le_t, kI_le_f, kI_eq_t, kI_eq_f, kL_lt_t, kL_lt_f, kL_le_t, kL_le_f, kL_eq_t, kL_eq_f, kI_m1, kI_m1', m1_m1, kI_n1, kI_n1', n1_add', eq_self, inb_t, kI_nat, kI_add, kI_mul, kI_sub, kI_div, kI_mod, kI_long, kL_add, kL_mul, kL_sub, kL_div, kL_mod, kL_int, n1_add, not_false_eq_true, not_true_eq_false, and_true, true_and, and_false, false_and, or_true, true_or, or_false, false_or, Nat.reduceEqDiff, IN, IM, h0', hy1, hy2, hy3, eW, e3], Or.inl ⟨by omega, rfl, hr1, hr2⟩, q4⟩
    · intro hv
      obtain w | w | w : vd 4 σ.s.b y1 y2 y3 = 1 ∨ vd 4 σ.s.b y1 y2 y3 = 2 ∨ vd 4 σ.s.b y1 y2 y3 = 3 := by omega
      · exact absurd w (vd_41 _ _ _ _)
      · rw [w] at eW
        have c0 : cA 2 = 1 := rfl
        rw [c0] at eW
        exact ⟨kI 1, by simp (disch := omega) only [↓nm_eq, ↓bd_x, bdx_s, ↓bx_x, bxx_r, bxx_l, ↓bn_x, bnx_r, chk_t, ↓reduceIte, q32, q64, kI_lt_t, kI_lt_f, kI_le_t, kI_le_f, kI_eq_t, kI_eq_f, kL_lt_t, kL_lt_f, kL_le_t, kL_le_f, kL_eq_t, kL_eq_f, kI_m1, kI_m1', m1_m1, kI_n1, kI_n1', n1_add', eq_self, inb_t, kI_nat, kI_add, kI_mul, kI_sub, kI_div, kI_mod, kI_long, kL_add, kL_mul, kL_sub, kL_div, kL_mod, kL_int, n1_add, not_false_eq_true, not_true_eq_false, and_true, true_and, and_false, false_and, or_true, true_or, or_false, false_or, Nat.reduceEqDiff, IN, IM, h0', hy1, hy2, hy3, eW]⟩
      · rw [w] at eW
        have c0 : cA 3 = 2 := rfl
        rw [c0] at eW
        exact ⟨kI 2, by simp (disch := omega) only [↓nm_eq, ↓bd_x, bdx_s, ↓bx_x, bxx_r, bxx_l, ↓bn_x, bnx_r, chk_t, ↓reduceIte, q32, q64, kI_lt_t, kI_lt_f, kI_le_t, kI_le_f, kI_eq_t, kI_eq_f, kL_lt_t, kL_lt_f, kL_le_t, kL_le_f, kL_eq_t, kL_eq_f, kI_m1, kI_m1', m1_m1, kI_n1, kI_n1', n1_add', eq_self, inb_t, kI_nat, kI_add, kI_mul, kI_sub, kI_div, kI_mod, kI_long, kL_add, kL_mul, kL_sub, kL_div, kL_mod, kL_int, n1_add, not_false_eq_true, not_true_eq_false, and_true, true_and, and_false, false_and, or_true, true_or, or_false, false_or, Nat.reduceEqDiff, IN, IM, h0', hy1, hy2, hy3, eW]⟩
  · have h0' : d.draft row = kI 5 := h0
    constructor
    · intro _
      have t7 : σ.s.b.TOTB 7 ≤ 201 := T7
      obtain ⟨m', lp, ℓ1, φ1, pm, tm, en, far, near, ech, lf, dr, mg, ds, ct, pk', e5, qa, qb⟩ := op_copiesR hC hD (B := 29) (by omega)
      generalize hN : σ.s.b.TOTB 7 = N at t7 e5
      exact ⟨_, σ.s.b.TOTB 7, m', lp, ℓ1, φ1, pm, tm, en, far, near, ech, lf, dr, mg, ds, ct, pk', d.peelResult, d.peelTime, d.peelSum, by simp (disch := omega) only [↓nm_eq, ↓bd_x, bdx_s, ↓bx_x, bxx_r, bxx_l, ↓bn_x, bnx_r, chk_t, ↓reduceIte, q32, q64, kI_lt_t, kI_lt_f, kI_le_t, kI_le_f, kI_eq_t, kI_eq_f, kL_lt_t, kL_lt_f, kL_le_t, kL_le_f, kL_eq_t, kL_eq_f, kI_m1, kI_m1', m1_m1, kI_n1, kI_n1', n1_add', eq_self, inb_t, kI_nat, kI_add, kI_mul, kI_sub, kI_div, kI_mod, kI_long, kL_add, kL_mul, kL_sub, kL_div, kL_mod, kL_int, n1_add, not_false_eq_true, not_true_eq_false, and_true, true_and, and_false, false_and, or_true, true_or, or_false, false_or, Nat.reduceEqDiff, IN, IM, h0', hy1, hy2, hy3, e5], Or.inr (Or.inl ⟨rfl, rfl, rfl⟩), qa rfl⟩
    · intro hv
      exact absurd rfl hv
  · have h0' : d.draft row = kI 6 := h0
    constructor
    · intro _
      have t7 : σ.s.b.TOTB 7 ≤ 201 := T7
      obtain ⟨m', lp, ℓ1, φ1, pm, tm, en, far, near, ech, lf, dr, mg, ds, ct, pk', e5, qa, qb⟩ := op_copiesR hC hD (B := 230) (by omega)
      generalize hN : σ.s.b.TOTB 7 = N at t7 e5
      exact ⟨_, σ.s.b.TOTB 7, m', lp, ℓ1, φ1, pm, tm, en, far, near, ech, lf, dr, mg, ds, ct, pk', d.peelResult, d.peelTime, d.peelSum, by simp (disch := omega) only [↓nm_eq, ↓bd_x, bdx_s, ↓bx_x, bxx_r, bxx_l, ↓bn_x, bnx_r, chk_t, ↓reduceIte, q32, q64, kI_lt_t, kI_lt_f, kI_le_t, kI_le_f, kI_eq_t, kI_eq_f, kL_lt_t, kL_lt_f, kL_le_t, kL_le_f, kL_eq_t, kL_eq_f, kI_m1, kI_m1', m1_m1, kI_n1, kI_n1', n1_add', eq_self, inb_t, kI_nat, kI_add, kI_mul, kI_sub, kI_div, kI_mod, kI_long, kL_add, kL_mul, kL_sub, kL_div, kL_mod, kL_int, n1_add, not_false_eq_true, not_true_eq_false, and_true, true_and, and_false, false_and, or_true, true_or, or_false, false_or, Nat.reduceEqDiff, IN, IM, h0', hy1, hy2, hy3, e5], Or.inr (Or.inr (Or.inl ⟨rfl, rfl, rfl⟩)), qb rfl⟩
    · intro hv
      exact absurd rfl hv
  · have h0' : d.draft row = kI 7 := h0
    constructor
    · intro _
      obtain ⟨n', r0, tq, ln', fr', m', lp, ℓ1, φ1, pm, tm, en, far, near, ech, lf, dr, mg, ds, ct, pk', pr, pt1, ps, e5, p1, q5⟩ := op_adoptsR hC hD
      have hl := (PL_0 p1).1
      exact ⟨_, n', m', lp, ℓ1, φ1, pm, tm, en, far, near, ech, lf, dr, mg, ds, ct, pk', pr, pt1, ps, by simp (disch := omega) only [↓nm_eq, ↓bd_x, bdx_s, ↓bx_x, bxx_r, bxx_l, ↓bn_x, bnx_r, chk_t, ↓reduceIte, q32, q64, kI_lt_t, kI_lt_f, kI_le_t, kI_le_f, kI_eq_t, kI_eq_f, kL_lt_t, kL_lt_f, kL_le_t, kL_le_f, kL_eq_t, kL_eq_f, kI_m1, kI_m1', m1_m1, kI_n1, kI_n1', n1_add', eq_self, inb_t, kI_nat, kI_add, kI_mul, kI_sub, kI_div, kI_mod, kI_long, kL_add, kL_mul, kL_sub, kL_div, kL_mod, kL_int, n1_add, not_false_eq_true, not_true_eq_false, and_true, true_and, and_false, false_and, or_true, true_or, or_false, false_or, Nat.reduceEqDiff, IN, IM, h0', hy1, hy2, hy3, e5], Or.inr (Or.inr (Or.inr ⟨rfl, r0, tq, ln', fr', p1, rfl⟩)), q5⟩
    · intro hv
      exact absurd rfl hv
theorem op_loop : ∀ (l : List (Nat × List Nat)) (k i p fuC fuR : Nat) (σ : SS) (c : CK) (d : RK), CR σ c → DL σ d → c.s_position = kI p → p ≤ σ.L → σ.L ≤ p + 4 * k → ra σ.L σ.bt (k + 1) p = .inr l → c.s_fault = -1 → DR d.draft i l → d.commands = kI (i + l.length) → i + l.length ≤ 30 → l.length + 1 < fuC → l.length + 1 < fuR → ∃ (s' : Sx) (N : Nat) (c' : CK) (d' : RK) (o : _), Cl_L_run_38 c.n.front c.n.least c.n.window c.s_length c.s_bytes fuC c.waveIsFresh c.peelingIsFresh c.n.count c.n.pulses c.n.lengths c.n.fractions c.n.pulseTimes c.n.pulseEnergies c.n.sound c.n.seen c.s_command c.s_position c.s_fault c.s_numbers c.w_near c.w_far c.w_echoes c.w_totals c.p_result c.p_endTime c.q.count c.q.front c.q.least c.q.window c.q.pulses c.q.lengths c.q.fractions c.q.pulseTimes c.q.pulseEnergies c.t_near c.t_far c.t_echoes c.t_totals (kI i) = some o ∧ (o = .inl (c'.waveIsFresh, c'.peelingIsFresh, c'.n.count, c'.n.pulses, c'.n.lengths, c'.n.fractions, c'.n.pulseTimes, c'.n.pulseEnergies, c'.n.sound, c'.n.seen, c'.s_command, c'.s_position, c'.s_fault, c'.s_numbers, c'.w_near, c'.w_far, c'.w_echoes, c'.w_totals, c'.p_result, c'.p_endTime, c'.q.count, c'.q.front, c'.q.least, c'.q.window, c'.q.pulses, c'.q.lengths, c'.q.fractions, c'.q.pulseTimes, c'.q.pulseEnergies, c'.t_near, c'.t_far, c'.t_echoes, c'.t_totals, kI N) ∨ o = .inr (c'.waveIsFresh, c'.peelingIsFresh, c'.n.count, c'.n.pulses, c'.n.lengths, c'.n.fractions, c'.n.pulseTimes, c'.n.pulseEnergies, c'.n.sound, c'.n.seen, c'.s_command, c'.s_position, c'.s_fault, c'.s_numbers, c'.w_near, c'.w_far, c'.w_echoes, c'.w_totals, c'.p_result, c'.p_endTime, c'.q.count, c'.q.front, c'.q.least, c'.q.window, c'.q.pulses, c'.q.lengths, c'.q.fractions, c'.q.pulseTimes, c'.q.pulseEnergies, c'.t_near, c'.t_far, c'.t_echoes, c'.t_totals, kI N)) ∧ Rl_run_26 d.commands d.draft fuR d.m d.code d.lineParts d.lengths d.fractions d.pulseMany d.times d.energies d.far d.near d.echoes d.left d.dropped d.merged d.drops d.contributions d.packet d.peelResult d.peelTime d.peelSum (kI i) = some (d'.m, d'.code, d'.lineParts, d'.lengths, d'.fractions, d'.pulseMany, d'.times, d'.energies, d'.far, d'.near, d'.echoes, d'.left, d'.dropped, d'.merged, d'.drops, d'.contributions, d'.packet, d'.peelResult, d'.peelTime, d'.peelSum, kI N) ∧ CR (SS.mk s' σ.k σ.H σ.L σ.bt) c' ∧ RS s' d'.m ∧ (c'.n.front = c.n.front ∧ c'.n.least = c.n.least ∧ c'.n.window = c.n.window) := by
  intro l
  induction l with
  | nil =>
    intro k i p fuC fuR σ c d hC hD hp1 hp2 hp3 hra hft hdr hcm hi hf1 hf2
    obtain ⟨g1, rfl⟩ : ∃ g, fuC = g + 1 := ⟨fuC - 1, by omega⟩
    obtain ⟨g2, rfl⟩ : ∃ g, fuR = g + 1 := ⟨fuR - 1, by omega⟩
    have hSL := hC.1.2.2.2
    have hlen := hC.2.2.2.1
    obtain ⟨κ, pos, fl, N', b, i1, i2, i3⟩ := ev_readCommand hSL hlen.2 hp2 (κ0 := c.s_command) (ft := -1) (N := c.s_numbers)
    have hL : σ.L ≤ sks σ.L σ.bt p := by
      by_cases w : σ.L ≤ sks σ.L σ.bt p
      · exact w
      · exfalso
        rw [show ra σ.L σ.bt (k + 1) p = if σ.L ≤ sks σ.L σ.bt p then .inr [] else match rc σ.L σ.bt (sks σ.L σ.bt p) with | (r, none) => .inl r | (r, some c) => match ra σ.L σ.bt k r with | .inl f => .inl f | .inr l => .inr (c :: l) from rfl, if_neg w] at hra
        cases hr : rc σ.L σ.bt (sks σ.L σ.bt p) with
        | mk r o =>
          rw [hr] at hra
          cases o with
          | none => cases hra
          | some cc =>
            (try dsimp only at hra)
            cases hr2 : ra σ.L σ.bt k r with
            | inl f => rw [hr2] at hra; cases hra
            | inr l2 => rw [hr2] at hra; cases hra
    rw [if_pos hL] at i3
    obtain ⟨b1, b2⟩ := i3
    subst b1
    subst b2
    refine ⟨σ.s, i, (CK.mk c.waveIsFresh c.peelingIsFresh c.n c.hcount c.hp c.h0 c.h1 c.h2 c.s_length κ (kI pos) (-1) c.s_bytes N' c.w_near c.w_far c.w_echoes c.w_totals c.p_result c.p_endTime c.q c.t_near c.t_far c.t_echoes c.t_totals), d, _, ?_, Or.inr rfl, ?_, hC, hD.1, rfl, rfl, rfl⟩
    · simp only [Cl_L_run_38]
      have hi' : i ≤ 30 := by simp only [List.length_nil] at hi; omega
      rw [if_neg (show ¬ (120 : Int32) ≤ kI i by rw [q32_120, kI_le (by omega) (by omega)]; omega), hlen.1, hp1, hft, i1, bd_s]
      simp (disch := omega) only [↓nm_eq, ↓bd_x, bdx_s, ↓bx_x, bxx_r, bxx_l, ↓bn_x, bnx_r, chk_t, ↓reduceIte, q32, q64, kI_lt_t, kI_lt_f, kI_le_t, kI_le_f, kI_eq_t, kI_eq_f, kL_lt_t, kL_lt_f, kL_le_t, kL_le_f, kL_eq_t, kL_eq_f, kI_m1, kI_m1', m1_m1, kI_n1, kI_n1', n1_add', eq_self, inb_t, kI_nat, kI_add, kI_mul, kI_sub, kI_div, kI_mod, kI_long, kL_add, kL_mul, kL_sub, kL_div, kL_mod, kL_int, n1_add, not_false_eq_true, not_true_eq_false, and_true, true_and, and_false, false_and, or_true, true_or, or_false, false_or, Nat.reduceEqDiff, IN, IM]
    · simp only [Rl_run_26]
      have hi' : i ≤ 30 := by simp only [List.length_nil] at hi; omega
      rw [hcm]
      simp (disch := omega) only [↓nm_eq, ↓bd_x, bdx_s, ↓bx_x, bxx_r, bxx_l, ↓bn_x, bnx_r, chk_t, ↓reduceIte, q32, q64, kI_lt_t, kI_lt_f, kI_le_t, kI_le_f, kI_eq_t, kI_eq_f, kL_lt_t, kL_lt_f, kL_le_t, kL_le_f, kL_eq_t, kL_eq_f, kI_m1, kI_m1', m1_m1, kI_n1, kI_n1', n1_add', eq_self, inb_t, kI_nat, kI_add, kI_mul, kI_sub, kI_div, kI_mod, kI_long, kL_add, kL_mul, kL_sub, kL_div, kL_mod, kL_int, n1_add, not_false_eq_true, not_true_eq_false, and_true, true_and, and_false, false_and, or_true, true_or, or_false, false_or, Nat.reduceEqDiff, IN, IM, List.length_nil, Nat.add_zero]
  | cons cc l ih =>
    intro k i p fuC fuR σ c d hC hD hp1 hp2 hp3 hra hft hdr hcm hi hf1 hf2
    rw [List.length_cons] at hcm hi hf1 hf2
    obtain ⟨g1, rfl⟩ : ∃ g, fuC = g + 1 := ⟨fuC - 1, by omega⟩
    obtain ⟨g2, rfl⟩ : ∃ g, fuR = g + 1 := ⟨fuR - 1, by omega⟩
    have hSL := hC.1.2.2.2
    have hlen := hC.2.2.2.1
    obtain ⟨κ, pos, fl, N', b, i1, i2, i3⟩ := ev_readCommand hSL hlen.2 hp2 (κ0 := c.s_command) (ft := -1) (N := c.s_numbers)
    have sg := sks_ge (L := σ.L) (bt := σ.bt) p
    rw [show ra σ.L σ.bt (k + 1) p = if σ.L ≤ sks σ.L σ.bt p then .inr [] else match rc σ.L σ.bt (sks σ.L σ.bt p) with | (r, none) => .inl r | (r, some c) => match ra σ.L σ.bt k r with | .inl f => .inl f | .inr l => .inr (c :: l) from rfl] at hra
    by_cases w : σ.L ≤ sks σ.L σ.bt p
    · rw [if_pos w] at hra
      cases hra
    · rw [if_neg w] at hra i3
      cases hr : rc σ.L σ.bt (sks σ.L σ.bt p) with
      | mk r o =>
        rw [hr] at hra i3
        cases o with
        | none => cases hra
        | some c2 =>
          (try dsimp only at hra i3)
          obtain ⟨b1, b2, b3, b4, b5, b6, b7, b8⟩ := i3
          cases hr2 : ra σ.L σ.bt k r with
          | inl f => rw [hr2] at hra; cases hra
          | inr l2 =>
            rw [hr2] at hra
            injection hra with hra
            injection hra with hra1 hra2
            subst hra1
            subst hra2
            subst b1
            subst b2
            subst b3
            obtain ⟨k', rfl⟩ : ∃ k', k = k' + 1 := ⟨k - 1, by omega⟩
            obtain ⟨κc, ns⟩ := c2
            (try dsimp only at b4 b7 b8)
            subst b4
            obtain ⟨d1, d2, d3, d4⟩ := hdr 0 κ ns rfl
            rw [Nat.add_zero] at d2 d4
            have hcn := cn8_b κ b5
            have hag : AG κ (N' 0) (N' 1) (N' 2) (d.draft (4 * i + 1)) (d.draft (4 * i + 2)) (d.draft (4 * i + 3)) := by
              refine ⟨fun q => ?_, fun q => ?_, fun q => ?_⟩
              · rw [b8 0 (by omega)]; exact (d4 0 (by omega)).symm
              · rw [b8 1 (by omega)]; exact (d4 1 (by omega)).symm
              · rw [b8 2 (by omega)]; exact (d4 2 (by omega)).symm
            have hvd := (AG_c b5 hag σ.s.b).1
            obtain ⟨dz, dx⟩ := op_does hC hD b5 (show 4 * i + 3 < 120 by omega) d2
            have hC2 : CR σ (CK.mk c.waveIsFresh c.peelingIsFresh c.n c.hcount c.hp c.h0 c.h1 c.h2 c.s_length κ (kI pos) (-1) c.s_bytes N' c.w_near c.w_far c.w_echoes c.w_totals c.p_result c.p_endTime c.q c.t_near c.t_far c.t_echoes c.t_totals) := hC
            have ev := op_verdict hC b5 (x1 := N' 0) (x2 := N' 1) (x3 := N' 2)
            have hv3 := vd_3 κ σ.s.b (N' 0) (N' 1) (N' 2)
            by_cases hv : vd κ σ.s.b (N' 0) (N' 1) (N' 2) = 0
            · obtain ⟨s', r, wf, pf, cn, np, ℓ, φ, pt, pe, so, se, a, b, e, t, res, et, q, a', b', e', t', e1, hsn, hc⟩ := op_carry hC2 b5 hv
              obtain ⟨s2, r2, m', lp, ℓ1, φ1, pm, tm, en, far, near, ech, lf, dr, mg, ds, ct, pk', pr, pt1, ps, e2, hsn2, hrs⟩ := dz (by rw [← hvd]; exact hv)
              obtain ⟨z1, z2⟩ := SN_det hsn (SN_c b5 hag hsn2)
              subst z1
              obtain ⟨s3, M, c3, d3', o, f1, f2, f3, f4, f5, f6⟩ := ih k' (i + 1) pos g1 g2 (SS.mk s' σ.k σ.H σ.L σ.bt) (CK.mk wf pf (SC.mk cn c.n.front c.n.least c.n.window np ℓ φ pt pe so se) c.hcount c.hp c.h0 c.h1 c.h2 c.s_length κ (kI pos) (-1) c.s_bytes N' a b e t res et q a' b' e' t') (RK.mk m' d.saved d.savedCount d.script d.scriptLength (kI 0) lp ℓ1 φ1 pm tm en far near ech lf dr mg ds ct pk' pr pt1 ps d.at_ d.commands d.draft d.hash) hc ⟨hrs, hD.2.1, hD.2.2.1, hD.2.2.2⟩ rfl i2 (by show σ.L ≤ pos + 4 * k'; omega) hr2 rfl (fun j κ' ns' hj => by
                have := hdr (j + 1) κ' ns' hj
                rw [show i + (j + 1) = i + 1 + j from by omega] at this
                exact this) (by show d.commands = _; rw [hcm, show i + (l2.length + 1) = i + 1 + l2.length from by omega]) (by omega) (by omega) (by omega)
              refine ⟨s3, M, c3, d3', o, ?_, f2, ?_, f4, f5, f6⟩
              · simp only [Cl_L_run_38]
                rw [if_neg (show ¬ (120 : Int32) ≤ kI i by rw [q32_120, kI_le (by omega) (by omega)]; omega), hlen.1, hp1, hft, i1, bd_s]
                (try dsimp only)
                rw [if_neg (show ¬ kI 1 = 0 by decide), chk_true (show inb (0 : Int32) 3 by decide), nm_eq, chk_true (show inb (1 : Int32) 3 by decide), nm_eq, chk_true (show inb (2 : Int32) 3 by decide), nm_eq, t32_0, t32_1, t32_2, ev, bd_s, hv, chk_true (by decide), if_pos rfl, chk_true (show inb (0 : Int32) 3 by decide), nm_eq, chk_true (show inb (1 : Int32) 3 by decide), nm_eq, chk_true (show inb (2 : Int32) 3 by decide), nm_eq, e1, bd_s]
                (try dsimp only)
                rw [nm_eq, q32_1, kI_add, ← hlen.1]
                exact f1
              · simp only [Rl_run_26]
                rw [if_neg (show ¬ d.commands ≤ kI i by rw [hcm, kI_le (by omega) (by omega)]; omega), nm_eq, q32_4, kI_mul, e2, bd_s]
                (try dsimp only)
                rw [if_neg (show ¬ kI 1 = 0 by decide), nm_eq, q32_1, kI_add]
                exact f3
            · obtain ⟨cd, e2⟩ := dx (by rw [← hvd]; exact hv)
              refine ⟨σ.s, i, (CK.mk c.waveIsFresh c.peelingIsFresh c.n c.hcount c.hp c.h0 c.h1 c.h2 c.s_length κ (kI pos) (-1) c.s_bytes N' c.w_near c.w_far c.w_echoes c.w_totals c.p_result c.p_endTime c.q c.t_near c.t_far c.t_echoes c.t_totals), (RK.mk d.m d.saved d.savedCount d.script d.scriptLength cd d.lineParts d.lengths d.fractions d.pulseMany d.times d.energies d.far d.near d.echoes d.left d.dropped d.merged d.drops d.contributions d.packet d.peelResult d.peelTime d.peelSum d.at_ d.commands d.draft d.hash), _, ?_, Or.inl rfl, ?_, hC2, hD.1, rfl, rfl, rfl⟩
              · simp only [Cl_L_run_38]
                rw [if_neg (show ¬ (120 : Int32) ≤ kI i by rw [q32_120, kI_le (by omega) (by omega)]; omega), hlen.1, hp1, hft, i1, bd_s]
                (try dsimp only)
                rw [if_neg (show ¬ kI 1 = 0 by decide), chk_true (show inb (0 : Int32) 3 by decide), nm_eq, chk_true (show inb (1 : Int32) 3 by decide), nm_eq, chk_true (show inb (2 : Int32) 3 by decide), nm_eq, t32_0, t32_1, t32_2, ev, bd_s, chk_true (by omega), if_neg hv]
              · simp only [Rl_run_26]
                rw [if_neg (show ¬ d.commands ≤ kI i by rw [hcm, kI_le (by omega) (by omega)]; omega), nm_eq, q32_4, kI_mul, e2, bd_s]
                (try dsimp only)
                rw [if_pos (show kI 0 = 0 by decide)]
theorem OP_run (hC : CR σ c) (hD : DL σ d) : ∃ (σ' : SS) (r : Int32) (c' : CK) (d' : RK), Cf_L_run c.waveIsFresh c.peelingIsFresh c.n.count c.n.front c.n.least c.n.window c.n.pulses c.n.lengths c.n.fractions c.n.pulseTimes c.n.pulseEnergies c.n.sound c.n.seen c.hcount c.hp c.h0.count c.h0.front c.h0.least c.h0.window c.h0.pulses c.h0.lengths c.h0.fractions c.h0.pulseTimes c.h0.pulseEnergies c.h0.sound c.h0.seen c.h1.count c.h1.front c.h1.least c.h1.window c.h1.pulses c.h1.lengths c.h1.fractions c.h1.pulseTimes c.h1.pulseEnergies c.h1.sound c.h1.seen c.h2.count c.h2.front c.h2.least c.h2.window c.h2.pulses c.h2.lengths c.h2.fractions c.h2.pulseTimes c.h2.pulseEnergies c.h2.sound c.h2.seen c.s_length c.s_command c.s_position c.s_fault c.s_bytes c.s_numbers c.w_near c.w_far c.w_echoes c.w_totals c.p_result c.p_endTime c.q.count c.q.front c.q.least c.q.window c.q.pulses c.q.lengths c.q.fractions c.q.pulseTimes c.q.pulseEnergies c.t_near c.t_far c.t_echoes c.t_totals = some (c'.waveIsFresh, c'.peelingIsFresh, c'.n.count, c'.n.pulses, c'.n.lengths, c'.n.fractions, c'.n.pulseTimes, c'.n.pulseEnergies, c'.n.sound, c'.n.seen, c'.hcount, c'.hp, c'.h0.count, c'.h0.front, c'.h0.least, c'.h0.window, c'.h0.pulses, c'.h0.lengths, c'.h0.fractions, c'.h0.pulseTimes, c'.h0.pulseEnergies, c'.h0.sound, c'.h0.seen, c'.h1.count, c'.h1.front, c'.h1.least, c'.h1.window, c'.h1.pulses, c'.h1.lengths, c'.h1.fractions, c'.h1.pulseTimes, c'.h1.pulseEnergies, c'.h1.sound, c'.h1.seen, c'.h2.count, c'.h2.front, c'.h2.least, c'.h2.window, c'.h2.pulses, c'.h2.lengths, c'.h2.fractions, c'.h2.pulseTimes, c'.h2.pulseEnergies, c'.h2.sound, c'.h2.seen, c'.s_command, c'.s_position, c'.s_fault, c'.s_numbers, c'.w_near, c'.w_far, c'.w_echoes, c'.w_totals, c'.p_result, c'.p_endTime, c'.q.count, c'.q.front, c'.q.least, c'.q.window, c'.q.pulses, c'.q.lengths, c'.q.fractions, c'.q.pulseTimes, c'.q.pulseEnergies, c'.t_near, c'.t_far, c'.t_echoes, c'.t_totals, r) ∧ Rf_run d.m d.saved d.savedCount d.script d.scriptLength d.code d.lineParts d.lengths d.fractions d.pulseMany d.times d.energies d.far d.near d.echoes d.left d.dropped d.merged d.drops d.contributions d.packet d.peelResult d.peelTime d.peelSum d.at_ d.commands d.draft = some (d'.m, d'.saved, d'.savedCount, kI 0, d'.lineParts, d'.lengths, d'.fractions, d'.pulseMany, d'.times, d'.energies, d'.far, d'.near, d'.echoes, d'.left, d'.dropped, d'.merged, d'.drops, d'.contributions, d'.packet, d'.peelResult, d'.peelTime, d'.peelSum, d'.at_, d'.commands, d'.draft, r) ∧ CR σ' (CK.mk c'.waveIsFresh c'.peelingIsFresh (SC.mk c'.n.count c.n.front c.n.least c.n.window c'.n.pulses c'.n.lengths c'.n.fractions c'.n.pulseTimes c'.n.pulseEnergies c'.n.sound c'.n.seen) c'.hcount c'.hp c'.h0 c'.h1 c'.h2 c.s_length c'.s_command c'.s_position c'.s_fault c.s_bytes c'.s_numbers c'.w_near c'.w_far c'.w_echoes c'.w_totals c'.p_result c'.p_endTime c'.q c'.t_near c'.t_far c'.t_echoes c'.t_totals) ∧ DL σ' (RK.mk d'.m d'.saved d'.savedCount d.script d.scriptLength (kI 0) d'.lineParts d'.lengths d'.fractions d'.pulseMany d'.times d'.energies d'.far d'.near d'.echoes d'.left d'.dropped d'.merged d'.drops d'.contributions d'.packet d'.peelResult d'.peelTime d'.peelSum d'.at_ d'.commands d'.draft d.hash) := by
  have hSL := hC.1.2.2.2
  have hlen := hC.2.2.2.1
  obtain ⟨κ, pos, N', f1, f2⟩ := ev_firstFaultLoop hSL hlen.2 30 0 c.s_command 0 FUEL c.s_numbers (by have := hSL.1; omega) (by omega) (by have : FUEL = 4096 := rfl; omega) (Nat.zero_le _)
  obtain ⟨D', at', cm', b, g1, g2⟩ := ev_readAllR hSL hD.2.2.2 (x0 := d.at_) (x1 := d.commands) (D := d.draft)
  have ef : Cf_C_firstFault_scr c.s_length c.s_command c.s_position c.s_fault c.s_bytes c.s_numbers = some (κ, pos, (match ra σ.L σ.bt 31 0 with | .inl f => kI f | .inr _ => -1), N', (match ra σ.L σ.bt 31 0 with | .inl f => kI f | .inr _ => -1)) := by
    unfold Cf_C_firstFault_scr Cf_C_rewind_scr Cf_C_firstFault_scr_29
    rw [hlen.1, bd_s]
    (try dsimp only)
    have f1' : Cl_C_firstFault_scr_8 (kI σ.L) c.s_bytes FUEL c.s_command (0 : Int32) (-1 : Int32) c.s_numbers (1 : Int32) (0 : Int32) = some (κ, pos, (match ra σ.L σ.bt 31 0 with | .inl f => kI f | .inr _ => -1), N') := f1
    rw [f1', bd_s]
  rw [← hD.2.2.1] at g1
  cases hra : ra σ.L σ.bt 31 0 with
  | inl f =>
    rw [hra] at ef g2
    (try dsimp only at ef g2)
    have hf := f2 f hra
    have hL := hSL.1
    refine ⟨σ, (-10 : Int32) - kI f, (CK.mk c.waveIsFresh c.peelingIsFresh c.n c.hcount c.hp c.h0 c.h1 c.h2 c.s_length κ pos (kI f) c.s_bytes N' c.w_near c.w_far c.w_echoes c.w_totals c.p_result c.p_endTime c.q c.t_near c.t_far c.t_echoes c.t_totals), (RK.mk d.m d.saved d.savedCount d.script d.scriptLength d.code d.lineParts d.lengths d.fractions d.pulseMany d.times d.energies d.far d.near d.echoes d.left d.dropped d.merged d.drops d.contributions d.packet d.peelResult d.peelTime d.peelSum at' cm' D' d.hash), ?_, ?_, hC, hD⟩
    · unfold Cf_L_run
      rw [ef, bd_s]
      (try dsimp only)
      rw [if_neg (by rw [kI_m1 (by omega)]; exact fun q => q), nm_eq]
    · unfold Rf_run
      rw [g1, bd_s]
      (try dsimp only)
      rw [g2.2, g2.1, if_pos (show kI 0 = 0 by decide), nm_eq]
      rfl
  | inr l =>
    rw [hra] at ef g2
    (try dsimp only at ef g2)
    obtain ⟨g3, g4, g5, g6⟩ := g2
    obtain ⟨hp', h0', h1', h2', e2, q3⟩ := op_keep hC
    obtain ⟨sv', e4, q4⟩ := op_keepR hC.1 hD
    obtain ⟨s', N, c3, d3, o, k1, k2, k3, k4, k5, k6⟩ := op_loop l 30 0 0 FUEL FUEL σ (CK.mk c.waveIsFresh c.peelingIsFresh c.n c.hcount c.hp c.h0 c.h1 c.h2 c.s_length κ (kI 0) (-1) c.s_bytes N' c.w_near c.w_far c.w_echoes c.w_totals c.p_result c.p_endTime c.q c.t_near c.t_far c.t_echoes c.t_totals) (RK.mk d.m d.saved d.savedCount d.script d.scriptLength (kI 0) d.lineParts d.lengths d.fractions d.pulseMany d.times d.energies d.far d.near d.echoes d.left d.dropped d.merged d.drops d.contributions d.packet d.peelResult d.peelTime d.peelSum at' cm' D' d.hash) hC hD rfl (Nat.zero_le _) (by have := hSL.1; omega) hra rfl g5 (by show cm' = _; rw [g3, Nat.zero_add]) (by omega) (by have : FUEL = 4096 := rfl; omega) (by have : FUEL = 4096 := rfl; omega)
    refine ⟨σ.ch s', kI N, (CK.mk c3.waveIsFresh c3.peelingIsFresh c3.n (kI (pk σ.k)) hp' h0' h1' h2' c3.s_length c3.s_command c3.s_position c3.s_fault c3.s_bytes c3.s_numbers c3.w_near c3.w_far c3.w_echoes c3.w_totals c3.p_result c3.p_endTime c3.q c3.t_near c3.t_far c3.t_echoes c3.t_totals), (RK.mk d3.m sv' (kI (pk σ.k)) d3.script d3.scriptLength (kI 0) d3.lineParts d3.lengths d3.fractions d3.pulseMany d3.times d3.energies d3.far d3.near d3.echoes d3.left d3.dropped d3.merged d3.drops d3.contributions d3.packet d3.peelResult d3.peelTime d3.peelSum at' cm' D' d3.hash), ?_, ?_, ?_, ⟨k5, q4, hD.2.2.1, hD.2.2.2⟩⟩
    · unfold Cf_L_run Cf_C_rewind_scr Cf_L_run_118
      rw [ef, bd_s]
      (try dsimp only)
      rw [if_pos rfl, e2, bd_s]
      (try dsimp only)
      rw [bd_s]
      (try dsimp only)
      (try dsimp only at k1)
      rw [q32_0, k1, bd_s]
      rcases k2 with k2 | k2
      · rw [k2]
      · rw [k2]
    · unfold Rf_run Rf_run_50
      rw [g1, bd_s]
      (try dsimp only)
      (try dsimp only at k3)
      rw [g4, if_neg (show ¬ kI 1 = 0 by decide), e4, bd_s]
      (try dsimp only)
      rw [q32_0, k3, bd_s]
    · obtain ⟨u1, u2, u3, u4, u5, u6⟩ := k4
      obtain ⟨w1, w2, w3⟩ := k6
      (try dsimp only at w1 w2 w3)
      refine ⟨ch_OK hC.1 u1.1, ?_, q3, hlen, u5, u6⟩
      obtain ⟨⟨n1, n2, n3, n4, n5, n6, n7, n8, n9⟩, n10, n11⟩ := u2
      exact ⟨⟨n1, w1 ▸ n2, w2 ▸ n3, w3 ▸ n4, n5, n6, n7, n8, n9⟩, n10, n11⟩
end OPS7
