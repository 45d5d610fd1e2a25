def mix (h v : Int64) : Int64 := kL 31 * h + v
def mxs (f : Nat → Int64) : Nat → Int64 → Int64
  | 0, h => h
  | k + 1, h => mix (mxs f k h) (f k)
def mx2 (f g : Nat → Int64) : Nat → Int64 → Int64
  | 0, h => h
  | k + 1, h => mix (mix (mx2 f g k h) (f k)) (g k)
theorem ev_mixed {h v : Int64} : Cf_L_mixed h v = some (mix h v) := rfl
theorem ev_mix {h v : Int64} : Rf_mix h v = some (mix h v) := rfl
theorem mxs_s (f : Nat → Int64) (k : Nat) (h : Int64) : mxs f (k + 1) h = mix (mxs f k h) (f k) := rfl
theorem mx2_s (f g : Nat → Int64) (k : Nat) (h : Int64) : mx2 f g (k + 1) h = mix (mix (mx2 f g k h) (f k)) (g k) := rfl
theorem mxs_cg {f g : Nat → Int64} {k : Nat} {h : Int64} (H : ∀ i, i < k → f i = g i) : mxs f k h = mxs g k h := by
  induction k with
  | zero => rfl
  | succ k ih => rw [mxs_s, mxs_s, ih (fun i hi => H i (by omega)), H k (by omega)]
theorem mxs_2 (f g : Nat → Int64) (k : Nat) (h : Int64) : mxs (fun i => if i % 2 = 0 then f (i / 2) else g (i / 2)) (2 * k) h = mx2 f g k h := by
  induction k with
  | zero => rfl
  | succ k ih =>
    rw [show 2 * (k + 1) = 2 * k + 1 + 1 from by omega, mxs_s, mxs_s, mx2_s, ih]
    rw [if_pos (by omega), if_neg (by omega), show 2 * k / 2 = k from by omega, show (2 * k + 1) / 2 = k from by omega]
section OPS8
variable {σ : SS} {c : CK} {d : RK}
theorem bv_le {b : Bn} (hb : b.OK) (i : Nat) : bv b i ≤ 1000 := by
  have h1 := hb.1
  have h2 := sm_ln_le (n := b.n) (ln := b.ln) (fr := b.fr) ⟨hb.1, hb.2.1⟩ b.n (Nat.le_refl _)
  obtain ⟨a1, a2, a3, a4, a5, a6, a7, a8⟩ := hb
  unfold bv
  repeat' split
  all_goals omega
theorem g_bench (hC : CR σ c) (h : Int64) : Cl_L_mixedWithBench_5 c.n.count c.n.front c.n.least c.n.window c.n.pulses c.n.lengths FUEL h (kI 0) = some (mxs (fun i => kL (bv σ.s.b i)) 6 h) := by
  obtain ⟨a, e, q⟩ := loop_gen (L := fun fu (s : Int64) x => Cl_L_mixedWithBench_5 c.n.count c.n.front c.n.least c.n.window c.n.pulses c.n.lengths fu s x) (fun i s => s = mxs (fun i => kL (bv σ.s.b i)) i h) (fun s => s = mxs (fun i => kL (bv σ.s.b i)) 6 h) 6 (fun fu i s hi hs => by
      refine Or.inr ⟨_, ?_, rfl⟩
      subst hs
      have e1 := ev_benchC hC hi
      have b1 := bv_le hC.1.1.1 i
      simp only [Cl_L_mixedWithBench_5]
      simp (disch := omega) only [↓nm_eq, ↓bd_x, bdx_s, ↓bx_x, bxx_r, bxx_l, ↓bn_x, bnx_r, chk_t, ↓reduceIte, q32, q64, kI_lt_t, kI_lt_f, kI_le_t, kI_le_f, kI_eq_t, kI_eq_f, kL_lt_t, kL_lt_f, kL_le_t, kL_le_f, kL_eq_t, kL_eq_f, kI_m1, kI_m1', m1_m1, kI_n1, kI_n1', n1_add', eq_self, inb_t, kI_nat, kI_add, kI_mul, kI_sub, kI_div, kI_mod, kI_long, kL_add, kL_mul, kL_sub, kL_div, kL_mod, kL_int, n1_add, not_false_eq_true, not_true_eq_false, and_true, true_and, and_false, false_and, or_true, true_or, or_false, false_or, Nat.reduceEqDiff, IN, IM, e1, ev_mixed, mxs_s])
    (fun fu s hs => ⟨s, by simp only [Cl_L_mixedWithBench_5]; simp (disch := omega) only [↓nm_eq, ↓bd_x, bdx_s, ↓bx_x, bxx_r, bxx_l, ↓bn_x, bnx_r, chk_t, ↓reduceIte, q32, q64, kI_lt_t, kI_lt_f, kI_le_t, kI_le_f, kI_eq_t, kI_eq_f, kL_lt_t, kL_lt_f, kL_le_t, kL_le_f, kL_eq_t, kL_eq_f, kI_m1, kI_m1', m1_m1, kI_n1, kI_n1', n1_add', eq_self, inb_t, kI_nat, kI_add, kI_mul, kI_sub, kI_div, kI_mod, kI_long, kL_add, kL_mul, kL_sub, kL_div, kL_mod, kL_int, n1_add, not_false_eq_true, not_true_eq_false, and_true, true_and, and_false, false_and, or_true, true_or, or_false, false_or, Nat.reduceEqDiff, IN, IM], hs⟩) FUEL 0 h (by have : FUEL = 4096 := rfl; omega) (by omega) rfl
  rw [← q]
  exact e
theorem g_partsN {n : Nat} (hn : n ≤ 8) {ln fr : Nat → Nat} (hb : ∀ k, k < n → ln k ≤ 1000000 ∧ fr k ≤ 1000000) {ℓ φ : Nat → Int32} (hℓ : ∀ k, k < n → ℓ k = kI (ln k)) (hφ : ∀ k, k < n → φ k = kI (fr k)) (h : Int64) : Cf_L_mixedWithParts_n (kI n) ℓ φ h = some (mx2 (fun k => kL (ln k)) (fun k => kL (fr k)) n h) := by
  obtain ⟨a, e, q⟩ := loop_gen (L := fun fu (s : Int64) x => Cl_L_mixedWithParts_n_5 (kI n) ℓ φ fu s x) (fun i s => s = mx2 (fun k => kL (ln k)) (fun k => kL (fr k)) i h) (fun s => s = mx2 (fun k => kL (ln k)) (fun k => kL (fr k)) n h) n (fun fu i s hi hs => by
      refine Or.inr ⟨_, ?_, rfl⟩
      subst hs
      have b1 := hb i hi
      simp only [Cl_L_mixedWithParts_n_5]
      simp (disch := omega) only [↓nm_eq, ↓bd_x, bdx_s, ↓bx_x, bxx_r, bxx_l, ↓bn_x, bnx_r, chk_t, ↓reduceIte, q32, q64, kI_lt_t, kI_lt_f, kI_le_t, kI_le_f, kI_eq_t, kI_eq_f, kL_lt_t, kL_lt_f, kL_le_t, kL_le_f, kL_eq_t, kL_eq_f, kI_m1, kI_m1', m1_m1, kI_n1, kI_n1', n1_add', eq_self, inb_t, kI_nat, kI_add, kI_mul, kI_sub, kI_div, kI_mod, kI_long, kL_add, kL_mul, kL_sub, kL_div, kL_mod, kL_int, n1_add, not_false_eq_true, not_true_eq_false, and_true, true_and, and_false, false_and, or_true, true_or, or_false, false_or, Nat.reduceEqDiff, IN, IM, hℓ, hφ, ev_mixed, mx2_s])
    (fun fu s hs => ⟨s, by simp only [Cl_L_mixedWithParts_n_5]; simp (disch := omega) only [↓nm_eq, ↓bd_x, bdx_s, ↓bx_x, bxx_r, bxx_l, ↓bn_x, bnx_r, chk_t, ↓reduceIte, q32, q64, kI_lt_t, kI_lt_f, kI_le_t, kI_le_f, kI_eq_t, kI_eq_f, kL_lt_t, kL_lt_f, kL_le_t, kL_le_f, kL_eq_t, kL_eq_f, kI_m1, kI_m1', m1_m1, kI_n1, kI_n1', n1_add', eq_self, inb_t, kI_nat, kI_add, kI_mul, kI_sub, kI_div, kI_mod, kI_long, kL_add, kL_mul, kL_sub, kL_div, kL_mod, kL_int, n1_add, not_false_eq_true, not_true_eq_false, and_true, true_and, and_false, false_and, or_true, true_or, or_false, false_or, Nat.reduceEqDiff, IN, IM], hs⟩) FUEL 0 h (by have : FUEL = 4096 := rfl; omega) (by omega) rfl
  subst q
  unfold Cf_L_mixedWithParts_n
  rw [q32_0, bd_e e]
theorem g_partsQ {n : Nat} (hn : n ≤ 8) {ln fr : Nat → Nat} (hb : ∀ k, k < n → ln k ≤ 1000000 ∧ fr k ≤ 1000000) {ℓ φ : Nat → Int32} (hℓ : ∀ k, k < n → ℓ k = kI (ln k)) (hφ : ∀ k, k < n → φ k = kI (fr k)) (h : Int64) : Cf_L_mixedWithParts_q (kI n) ℓ φ h = some (mx2 (fun k => kL (ln k)) (fun k => kL (fr k)) n h) := by
  obtain ⟨a, e, q⟩ := loop_gen (L := fun fu (s : Int64) x => Cl_L_mixedWithParts_q_5 (kI n) ℓ φ fu s x) (fun i s => s = mx2 (fun k => kL (ln k)) (fun k => kL (fr k)) i h) (fun s => s = mx2 (fun k => kL (ln k)) (fun k => kL (fr k)) n h) n (fun fu i s hi hs => by
      refine Or.inr ⟨_, ?_, rfl⟩
      subst hs
      have b1 := hb i hi
      simp only [Cl_L_mixedWithParts_q_5]
      simp (disch := omega) only [↓nm_eq, ↓bd_x, bdx_s, ↓bx_x, bxx_r, bxx_l, ↓bn_x, bnx_r, chk_t, ↓reduceIte, q32, q64, kI_lt_t, kI_lt_f, kI_le_t, kI_le_f, kI_eq_t, kI_eq_f, kL_lt_t, kL_lt_f, kL_le_t, kL_le_f, kL_eq_t, kL_eq_f, kI_m1, kI_m1', m1_m1, kI_n1, kI_n1', n1_add', eq_self, inb_t, kI_nat, kI_add, kI_mul, kI_sub, kI_div, kI_mod, kI_long, kL_add, kL_mul, kL_sub, kL_div, kL_mod, kL_int, n1_add, not_false_eq_true, not_true_eq_false, and_true, true_and, and_false, false_and, or_true, true_or, or_false, false_or, Nat.reduceEqDiff, IN, IM, hℓ, hφ, ev_mixed, mx2_s])
    (fun fu s hs => ⟨s, by simp only [Cl_L_mixedWithParts_q_5]; simp (disch := omega) only [↓nm_eq, ↓bd_x, bdx_s, ↓bx_x, bxx_r, bxx_l, ↓bn_x, bnx_r, chk_t, ↓reduceIte, q32, q64, kI_lt_t, kI_lt_f, kI_le_t, kI_le_f, kI_eq_t, kI_eq_f, kL_lt_t, kL_lt_f, kL_le_t, kL_le_f, kL_eq_t, kL_eq_f, kI_m1, kI_m1', m1_m1, kI_n1, kI_n1', n1_add', eq_self, inb_t, kI_nat, kI_add, kI_mul, kI_sub, kI_div, kI_mod, kI_long, kL_add, kL_mul, kL_sub, kL_div, kL_mod, kL_int, n1_add, not_false_eq_true, not_true_eq_false, and_true, true_and, and_false, false_and, or_true, true_or, or_false, false_or, Nat.reduceEqDiff, IN, IM], hs⟩) FUEL 0 h (by have : FUEL = 4096 := rfl; omega) (by omega) rfl
  subst q
  unfold Cf_L_mixedWithParts_q
  rw [q32_0, bd_e e]
theorem g_pulses {n : Nat} (hn : n ≤ 4) {pt pe : Nat → Nat} (hb : ∀ k, k < n → pt k ≤ 1000000 ∧ pe k ≤ 1000000) {ℓ φ : Nat → Int32} (hℓ : ∀ k, k < n → ℓ k = kI (pt k)) (hφ : ∀ k, k < n → φ k = kI (pe k)) (h : Int64) : Cl_L_mixedWithBench_44 (kI n) ℓ φ FUEL h (kI 0) = some (mx2 (fun k => kL (pt k)) (fun k => kL (pe k)) n h) := by
  obtain ⟨a, e, q⟩ := loop_gen (L := fun fu (s : Int64) x => Cl_L_mixedWithBench_44 (kI n) ℓ φ fu s x) (fun i s => s = mx2 (fun k => kL (pt k)) (fun k => kL (pe k)) i h) (fun s => s = mx2 (fun k => kL (pt k)) (fun k => kL (pe k)) n h) n (fun fu i s hi hs => by
      refine Or.inr ⟨_, ?_, rfl⟩
      subst hs
      have b1 := hb i hi
      simp only [Cl_L_mixedWithBench_44]
      simp (disch := omega) only [↓nm_eq, ↓bd_x, bdx_s, ↓bx_x, bxx_r, bxx_l, ↓bn_x, bnx_r, chk_t, ↓reduceIte, q32, q64, kI_lt_t, kI_lt_f, kI_le_t, kI_le_f, kI_eq_t, kI_eq_f, kL_lt_t, kL_lt_f, kL_le_t, kL_le_f, kL_eq_t, kL_eq_f, kI_m1, kI_m1', m1_m1, kI_n1, kI_n1', n1_add', eq_self, inb_t, kI_nat, kI_add, kI_mul, kI_sub, kI_div, kI_mod, kI_long, kL_add, kL_mul, kL_sub, kL_div, kL_mod, kL_int, n1_add, not_false_eq_true, not_true_eq_false, and_true, true_and, and_false, false_and, or_true, true_or, or_false, false_or, Nat.reduceEqDiff, IN, IM, hℓ, hφ, ev_mixed, mx2_s])
    (fun fu s hs => ⟨s, by simp only [Cl_L_mixedWithBench_44]; simp (disch := omega) only [↓nm_eq, ↓bd_x, bdx_s, ↓bx_x, bxx_r, bxx_l, ↓bn_x, bnx_r, chk_t, ↓reduceIte, q32, q64, kI_lt_t, kI_lt_f, kI_le_t, kI_le_f, kI_eq_t, kI_eq_f, kL_lt_t, kL_lt_f, kL_le_t, kL_le_f, kL_eq_t, kL_eq_f, kI_m1, kI_m1', m1_m1, kI_n1, kI_n1', n1_add', eq_self, inb_t, kI_nat, kI_add, kI_mul, kI_sub, kI_div, kI_mod, kI_long, kL_add, kL_mul, kL_sub, kL_div, kL_mod, kL_int, n1_add, not_false_eq_true, not_true_eq_false, and_true, true_and, and_false, false_and, or_true, true_or, or_false, false_or, Nat.reduceEqDiff, IN, IM], hs⟩) FUEL 0 h (by have : FUEL = 4096 := rfl; omega) (by omega) rfl
  subst q
  exact e
def hb3 (b : Bn) (h : Int64) : Int64 := mx2 (fun k => kL (b.pt k)) (fun k => kL (b.pe k)) b.np (mx2 (fun k => kL (b.ln k)) (fun k => kL (b.fr k)) b.n (mxs (fun i => kL (bv b i)) 6 h))
theorem g_mwb (hC : CR σ c) (h : Int64) : Cf_L_mixedWithBench c.n.count c.n.front c.n.least c.n.window c.n.pulses c.n.lengths c.n.fractions c.n.pulseTimes c.n.pulseEnergies h = some (hb3 σ.s.b h) := by
  have hb := hC.1.1.1
  obtain ⟨hO, ⟨⟨n1, n2, n3, n4, n5, n6, n7, n8, n9⟩, n10, n11⟩, hh, hsc, hw, hp⟩ := id hC
  have e1 := g_bench hC h
  have e2 := g_partsN (ln := σ.s.b.ln) (fr := σ.s.b.fr) hb.1 (fun k hk => by have := hb.2.1 k hk; omega) n6 n7 (mxs (fun i => kL (bv σ.s.b i)) 6 h)
  have e3 := g_pulses (pt := σ.s.b.pt) (pe := σ.s.b.pe) hb.2.2.2.2.2.2.1 (fun k hk => by have := hb.2.2.2.2.2.2.2 k hk; omega) n8 n9 (mx2 (fun k => kL (σ.s.b.ln k)) (fun k => kL (σ.s.b.fr k)) σ.s.b.n (mxs (fun i => kL (bv σ.s.b i)) 6 h))
  rw [← n1] at e2
  rw [← n5] at e3
  unfold Cf_L_mixedWithBench hb3
  rw [q32_0, e1, bd_s, e2, bd_s, e3, bd_s]
theorem g_tot (hC : CR σ c) (h : Int64) : ∃ s : Int32 × (Nat → Nat → Int64) × (Nat → Nat → Int64) × (Nat → Int64) × (Nat → Int64) × Int64, Cl_L_digest_36 c.n.count c.n.front c.n.least c.n.window c.n.pulses c.n.lengths c.n.fractions c.n.pulseTimes c.n.pulseEnergies FUEL c.waveIsFresh c.w_near c.w_far c.w_echoes c.w_totals h (kI 0) = some s ∧ s.2.2.2.2.2 = mxs (fun i => kL (σ.s.b.TOTB i)) 9 h ∧ CR σ (CK.mk s.1 c.peelingIsFresh c.n c.hcount c.hp c.h0 c.h1 c.h2 c.s_length c.s_command c.s_position c.s_fault c.s_bytes c.s_numbers s.2.1 s.2.2.1 s.2.2.2.1 s.2.2.2.2.1 c.p_result c.p_endTime c.q c.t_near c.t_far c.t_echoes c.t_totals) := by
  refine loop_gen (L := fun fu (s : Int32 × (Nat → Nat → Int64) × (Nat → Nat → Int64) × (Nat → Int64) × (Nat → Int64) × Int64) x => Cl_L_digest_36 c.n.count c.n.front c.n.least c.n.window c.n.pulses c.n.lengths c.n.fractions c.n.pulseTimes c.n.pulseEnergies fu s.1 s.2.1 s.2.2.1 s.2.2.2.1 s.2.2.2.2.1 s.2.2.2.2.2 x) (fun i s => s.2.2.2.2.2 = mxs (fun i => kL (σ.s.b.TOTB i)) i h ∧ CR σ (CK.mk s.1 c.peelingIsFresh c.n c.hcount c.hp c.h0 c.h1 c.h2 c.s_length c.s_command c.s_position c.s_fault c.s_bytes c.s_numbers s.2.1 s.2.2.1 s.2.2.2.1 s.2.2.2.2.1 c.p_result c.p_endTime c.q c.t_near c.t_far c.t_echoes c.t_totals)) (fun s => s.2.2.2.2.2 = mxs (fun i => kL (σ.s.b.TOTB i)) 9 h ∧ CR σ (CK.mk s.1 c.peelingIsFresh c.n c.hcount c.hp c.h0 c.h1 c.h2 c.s_length c.s_command c.s_position c.s_fault c.s_bytes c.s_numbers s.2.1 s.2.2.1 s.2.2.2.1 s.2.2.2.2.1 c.p_result c.p_endTime c.q c.t_near c.t_far c.t_echoes c.t_totals)) 9 (fun fu i s hi hs => ?_) (fun fu s hs => ⟨s, by simp only [Cl_L_digest_36]; simp (disch := omega) only [↓nm_eq, ↓bd_x, bdx_s, ↓bx_x, bxx_r, bxx_l, ↓bn_x, bnx_r, chk_t, ↓reduceIte, q32, q64, kI_lt_t, kI_lt_f, kI_le_t, kI_le_f, kI_eq_t, kI_eq_f, kL_lt_t, kL_lt_f, kL_le_t, kL_le_f, kL_eq_t, kL_eq_f, kI_m1, kI_m1', m1_m1, kI_n1, kI_n1', n1_add', eq_self, inb_t, kI_nat, kI_add, kI_mul, kI_sub, kI_div, kI_mod, kI_long, kL_add, kL_mul, kL_sub, kL_div, kL_mod, kL_int, n1_add, not_false_eq_true, not_true_eq_false, and_true, true_and, and_false, false_and, or_true, true_or, or_false, false_or, Nat.reduceEqDiff, IN, IM], hs⟩) FUEL 0 (c.waveIsFresh, c.w_near, c.w_far, c.w_echoes, c.w_totals, h) (by have : FUEL = 4096 := rfl; omega) (by omega) ⟨rfl, hC⟩
  obtain ⟨s1, s2, s3, s4, s5, s6⟩ := s
  obtain ⟨hs1, hs2⟩ := hs
  (try dsimp only at hs1 hs2)
  subst hs1
  obtain ⟨a, b, e, t, e1, q1⟩ := ev_totalC hs2 hi
  (try dsimp only at e1)
  refine Or.inr ⟨(kI 1, a, b, e, t, mxs (fun i => kL (σ.s.b.TOTB i)) (i + 1) h), ?_, rfl, CR_w hC q1⟩
  simp only [Cl_L_digest_36]
  simp (disch := omega) only [↓nm_eq, ↓bd_x, bdx_s, ↓bx_x, bxx_r, bxx_l, ↓bn_x, bnx_r, chk_t, ↓reduceIte, q32, q64, kI_lt_t, kI_lt_f, kI_le_t, kI_le_f, kI_eq_t, kI_eq_f, kL_lt_t, kL_lt_f, kL_le_t, kL_le_f, kL_eq_t, kL_eq_f, kI_m1, kI_m1', m1_m1, kI_n1, kI_n1', n1_add', eq_self, inb_t, kI_nat, kI_add, kI_mul, kI_sub, kI_div, kI_mod, kI_long, kL_add, kL_mul, kL_sub, kL_div, kL_mod, kL_int, n1_add, not_false_eq_true, not_true_eq_false, and_true, true_and, and_false, false_and, or_true, true_or, or_false, false_or, Nat.reduceEqDiff, IN, IM, e1, ev_mixed, mxs_s]
theorem g_ech (hC : CR σ c) (h : Int64) : ∃ s : Int32 × (Nat → Nat → Int64) × (Nat → Nat → Int64) × (Nat → Int64) × (Nat → Int64) × Int64, Cl_L_digest_60 c.n.count c.n.front c.n.least c.n.window c.n.pulses c.n.lengths c.n.fractions c.n.pulseTimes c.n.pulseEnergies FUEL c.waveIsFresh c.w_near c.w_far c.w_echoes c.w_totals h (kI 0) = some s ∧ s.2.2.2.2.2 = mxs (fun i => kL (σ.s.b.ewB i)) (σ.s.b.wn + 1) h ∧ CR σ (CK.mk s.1 c.peelingIsFresh c.n c.hcount c.hp c.h0 c.h1 c.h2 c.s_length c.s_command c.s_position c.s_fault c.s_bytes c.s_numbers s.2.1 s.2.2.1 s.2.2.2.1 s.2.2.2.2.1 c.p_result c.p_endTime c.q c.t_near c.t_far c.t_echoes c.t_totals) := by
  have hw : σ.s.b.wn ≤ 200 := hC.1.1.1.2.2.2.2.1.2
  have n4 := hC.2.1.1.2.2.2.1
  refine loop_gen (L := fun fu (s : Int32 × (Nat → Nat → Int64) × (Nat → Nat → Int64) × (Nat → Int64) × (Nat → Int64) × Int64) x => Cl_L_digest_60 c.n.count c.n.front c.n.least c.n.window c.n.pulses c.n.lengths c.n.fractions c.n.pulseTimes c.n.pulseEnergies fu s.1 s.2.1 s.2.2.1 s.2.2.2.1 s.2.2.2.2.1 s.2.2.2.2.2 x) (fun i s => s.2.2.2.2.2 = mxs (fun i => kL (σ.s.b.ewB i)) i h ∧ CR σ (CK.mk s.1 c.peelingIsFresh c.n c.hcount c.hp c.h0 c.h1 c.h2 c.s_length c.s_command c.s_position c.s_fault c.s_bytes c.s_numbers s.2.1 s.2.2.1 s.2.2.2.1 s.2.2.2.2.1 c.p_result c.p_endTime c.q c.t_near c.t_far c.t_echoes c.t_totals)) (fun s => s.2.2.2.2.2 = mxs (fun i => kL (σ.s.b.ewB i)) (σ.s.b.wn + 1) h ∧ CR σ (CK.mk s.1 c.peelingIsFresh c.n c.hcount c.hp c.h0 c.h1 c.h2 c.s_length c.s_command c.s_position c.s_fault c.s_bytes c.s_numbers s.2.1 s.2.2.1 s.2.2.2.1 s.2.2.2.2.1 c.p_result c.p_endTime c.q c.t_near c.t_far c.t_echoes c.t_totals)) (σ.s.b.wn + 1) (fun fu i s hi hs => ?_) (fun fu s hs => ⟨s, by
    simp only [Cl_L_digest_60]
    rw [if_pos (by rw [n4, kI_lt (by omega) (by omega)]; omega)], hs⟩) FUEL 0 (c.waveIsFresh, c.w_near, c.w_far, c.w_echoes, c.w_totals, h) (by have : FUEL = 4096 := rfl; omega) (by omega) ⟨rfl, hC⟩
  obtain ⟨s1, s2, s3, s4, s5, s6⟩ := s
  obtain ⟨hs1, hs2⟩ := hs
  (try dsimp only at hs1 hs2)
  subst hs1
  obtain ⟨a, b, e, t, e1, q1⟩ := ev_echoC hs2 (show i ≤ σ.s.b.wn by omega)
  (try dsimp only at e1)
  refine Or.inr ⟨(kI 1, a, b, e, t, mxs (fun i => kL (σ.s.b.ewB i)) (i + 1) h), ?_, rfl, CR_w hC q1⟩
  simp only [Cl_L_digest_60]
  rw [if_neg (by rw [n4, kI_lt (by omega) (by omega)]; omega)]
  simp (disch := omega) only [↓nm_eq, ↓bd_x, bdx_s, ↓bx_x, bxx_r, bxx_l, ↓bn_x, bnx_r, chk_t, ↓reduceIte, q32, q64, kI_lt_t, kI_lt_f, kI_le_t, kI_le_f, kI_eq_t, kI_eq_f, kL_lt_t, kL_lt_f, kL_le_t, kL_le_f, kL_eq_t, kL_eq_f, kI_m1, kI_m1', m1_m1, kI_n1, kI_n1', n1_add', eq_self, inb_t, kI_nat, kI_add, kI_mul, kI_sub, kI_div, kI_mod, kI_long, kL_add, kL_mul, kL_sub, kL_div, kL_mod, kL_int, n1_add, not_false_eq_true, not_true_eq_false, and_true, true_and, and_false, false_and, or_true, true_or, or_false, false_or, Nat.reduceEqDiff, IN, IM, e1, ev_mixed, mxs_s]
theorem g_flt (hC : CR σ c) {t0 : Nat} (ht : FU σ.s.b.ewB σ.s.so (σ.s.b.wn + 1) t0) (h : Int64) : ∃ s : Int32 × (Nat → Nat → Int64) × (Nat → Nat → Int64) × (Nat → Int64) × (Nat → Int64) × Int64, Cl_L_digest_102 c.n.count c.n.front c.n.least c.n.window c.n.pulses c.n.lengths c.n.fractions c.n.pulseTimes c.n.pulseEnergies c.n.sound FUEL c.waveIsFresh c.w_near c.w_far c.w_echoes c.w_totals h (kI 0) = some s ∧ s.2.2.2.2.2 = mxs (fun i => (fv σ.s t0 i).toInt64) 4 h ∧ CR σ (CK.mk s.1 c.peelingIsFresh c.n c.hcount c.hp c.h0 c.h1 c.h2 c.s_length c.s_command c.s_position c.s_fault c.s_bytes c.s_numbers s.2.1 s.2.2.1 s.2.2.2.1 s.2.2.2.2.1 c.p_result c.p_endTime c.q c.t_near c.t_far c.t_echoes c.t_totals) := by
  refine loop_gen (L := fun fu (s : Int32 × (Nat → Nat → Int64) × (Nat → Nat → Int64) × (Nat → Int64) × (Nat → Int64) × Int64) x => Cl_L_digest_102 c.n.count c.n.front c.n.least c.n.window c.n.pulses c.n.lengths c.n.fractions c.n.pulseTimes c.n.pulseEnergies c.n.sound fu s.1 s.2.1 s.2.2.1 s.2.2.2.1 s.2.2.2.2.1 s.2.2.2.2.2 x) (fun i s => s.2.2.2.2.2 = mxs (fun i => (fv σ.s t0 i).toInt64) i h ∧ CR σ (CK.mk s.1 c.peelingIsFresh c.n c.hcount c.hp c.h0 c.h1 c.h2 c.s_length c.s_command c.s_position c.s_fault c.s_bytes c.s_numbers s.2.1 s.2.2.1 s.2.2.2.1 s.2.2.2.2.1 c.p_result c.p_endTime c.q c.t_near c.t_far c.t_echoes c.t_totals)) (fun s => s.2.2.2.2.2 = mxs (fun i => (fv σ.s t0 i).toInt64) 4 h ∧ CR σ (CK.mk s.1 c.peelingIsFresh c.n c.hcount c.hp c.h0 c.h1 c.h2 c.s_length c.s_command c.s_position c.s_fault c.s_bytes c.s_numbers s.2.1 s.2.2.1 s.2.2.2.1 s.2.2.2.2.1 c.p_result c.p_endTime c.q c.t_near c.t_far c.t_echoes c.t_totals)) 4 (fun fu i s hi hs => ?_) (fun fu s hs => ⟨s, by simp only [Cl_L_digest_102]; simp (disch := omega) only [↓nm_eq, ↓bd_x, bdx_s, ↓bx_x, bxx_r, bxx_l, ↓bn_x, bnx_r, chk_t, ↓reduceIte, q32, q64, kI_lt_t, kI_lt_f, kI_le_t, kI_le_f, kI_eq_t, kI_eq_f, kL_lt_t, kL_lt_f, kL_le_t, kL_le_f, kL_eq_t, kL_eq_f, kI_m1, kI_m1', m1_m1, kI_n1, kI_n1', n1_add', eq_self, inb_t, kI_nat, kI_add, kI_mul, kI_sub, kI_div, kI_mod, kI_long, kL_add, kL_mul, kL_sub, kL_div, kL_mod, kL_int, n1_add, not_false_eq_true, not_true_eq_false, and_true, true_and, and_false, false_and, or_true, true_or, or_false, false_or, Nat.reduceEqDiff, IN, IM], hs⟩) FUEL 0 (c.waveIsFresh, c.w_near, c.w_far, c.w_echoes, c.w_totals, h) (by have : FUEL = 4096 := rfl; omega) (by omega) ⟨rfl, hC⟩
  obtain ⟨s1, s2, s3, s4, s5, s6⟩ := s
  obtain ⟨hs1, hs2⟩ := hs
  (try dsimp only at hs1 hs2)
  subst hs1
  obtain ⟨a, b, e, t, e1, q1⟩ := ev_faultC hs2 hi ht
  (try dsimp only at e1)
  refine Or.inr ⟨(kI 1, a, b, e, t, mxs (fun i => (fv σ.s t0 i).toInt64) (i + 1) h), ?_, rfl, CR_w hC q1⟩
  simp only [Cl_L_digest_102]
  simp (disch := omega) only [↓nm_eq, ↓bd_x, bdx_s, ↓bx_x, bxx_r, bxx_l, ↓bn_x, bnx_r, chk_t, ↓reduceIte, q32, q64, kI_lt_t, kI_lt_f, kI_le_t, kI_le_f, kI_eq_t, kI_eq_f, kL_lt_t, kL_lt_f, kL_le_t, kL_le_f, kL_eq_t, kL_eq_f, kI_m1, kI_m1', m1_m1, kI_n1, kI_n1', n1_add', eq_self, inb_t, kI_nat, kI_add, kI_mul, kI_sub, kI_div, kI_mod, kI_long, kL_add, kL_mul, kL_sub, kL_div, kL_mod, kL_int, n1_add, not_false_eq_true, not_true_eq_false, and_true, true_and, and_false, false_and, or_true, true_or, or_false, false_or, Nat.reduceEqDiff, IN, IM, e1, ev_mixed, mxs_s]
theorem g_seen (hC : CR σ c) (h : Int64) : Cl_L_digest_126 c.n.seen FUEL h (kI 0) = some (mxs (fun i => kL (σ.s.se i)) 201 h) := by
  have n11 := hC.2.1.2.2
  obtain ⟨a, e, q⟩ := loop_gen (L := fun fu (s : Int64) x => Cl_L_digest_126 c.n.seen fu s x) (fun i s => s = mxs (fun i => kL (σ.s.se i)) i h) (fun s => s = mxs (fun i => kL (σ.s.se i)) 201 h) 201 (fun fu i s hi hs => by
      refine Or.inr ⟨_, ?_, rfl⟩
      subst hs
      simp only [Cl_L_digest_126]
      simp (disch := omega) only [↓nm_eq, ↓bd_x, bdx_s, ↓bx_x, bxx_r, bxx_l, ↓bn_x, bnx_r, chk_t, ↓reduceIte, q32, q64, kI_lt_t, kI_lt_f, kI_le_t, kI_le_f, kI_eq_t, kI_eq_f, kL_lt_t, kL_lt_f, kL_le_t, kL_le_f, kL_eq_t, kL_eq_f, kI_m1, kI_m1', m1_m1, kI_n1, kI_n1', n1_add', eq_self, inb_t, kI_nat, kI_add, kI_mul, kI_sub, kI_div, kI_mod, kI_long, kL_add, kL_mul, kL_sub, kL_div, kL_mod, kL_int, n1_add, not_false_eq_true, not_true_eq_false, and_true, true_and, and_false, false_and, or_true, true_or, or_false, false_or, Nat.reduceEqDiff, IN, IM, n11, ev_mixed, mxs_s])
    (fun fu s hs => ⟨s, by simp only [Cl_L_digest_126]; simp (disch := omega) only [↓nm_eq, ↓bd_x, bdx_s, ↓bx_x, bxx_r, bxx_l, ↓bn_x, bnx_r, chk_t, ↓reduceIte, q32, q64, kI_lt_t, kI_lt_f, kI_le_t, kI_le_f, kI_eq_t, kI_eq_f, kL_lt_t, kL_lt_f, kL_le_t, kL_le_f, kL_eq_t, kL_eq_f, kI_m1, kI_m1', m1_m1, kI_n1, kI_n1', n1_add', eq_self, inb_t, kI_nat, kI_add, kI_mul, kI_sub, kI_div, kI_mod, kI_long, kL_add, kL_mul, kL_sub, kL_div, kL_mod, kL_int, n1_add, not_false_eq_true, not_true_eq_false, and_true, true_and, and_false, false_and, or_true, true_or, or_false, false_or, Nat.reduceEqDiff, IN, IM], hs⟩) FUEL 0 h (by have : FUEL = 4096 := rfl; omega) (by omega) rfl
  subst q
  exact e
theorem ev_peelC' (hC : CR σ c) {r : Nat} {tm : Int32} {n : Nat} {ln fr : Nat → Nat} (hPL : PL σ.s 0 (fun _ => 0) (fun _ => 0) r tm n ln fr) {i : Nat} (hi : i < 4) : ∃ (res et : Int32) (q : QC) (a b : Nat → Nat → Int64) (e t : Nat → Int64), Cf_L_peel c.peelingIsFresh c.n.front c.n.least c.n.window c.n.pulseEnergies c.n.seen c.p_result c.p_endTime c.q.count c.q.front c.q.least c.q.window c.q.pulses c.q.lengths c.q.fractions c.q.pulseTimes c.q.pulseEnergies c.t_near c.t_far c.t_echoes c.t_totals (kI i) = some (.inr (kI 1, res, et, q.count, q.front, q.least, q.window, q.pulses, q.lengths, q.fractions, q.pulseTimes, q.pulseEnergies, a, b, e, t, pv r tm n ln i)) ∧ PQ σ.s res et q.count q.lengths q.fractions := by
  obtain ⟨r', tm', n', ln', fr', res, et, q, a, b, e, t, e1, p1, q1⟩ := ev_peelC hC hi
  obtain ⟨z1, z2, z3, z4, z5⟩ := PL_det hPL p1
  subst z1
  subst z2
  subst z3
  subst z4
  exact ⟨res, et, q, a, b, e, t, e1, q1⟩
theorem g_peel (hC : CR σ c) {r : Nat} {tm : Int32} {n : Nat} {ln fr : Nat → Nat} (hPL : PL σ.s 0 (fun _ => 0) (fun _ => 0) r tm n ln fr) : ∀ i fu (c : CK) (h : Int64) (_ : CR σ c), i ≤ 4 → 4 - i < fu → ∃ (pf : Int32) (res et : Int32) (q : QC) (a b : Nat → Nat → Int64) (e t : Nat → Int64), Cl_L_digest_155 c.n.front c.n.least c.n.window c.n.pulseEnergies c.n.seen fu c.peelingIsFresh c.p_result c.p_endTime c.q.count c.q.front c.q.least c.q.window c.q.pulses c.q.lengths c.q.fractions c.q.pulseTimes c.q.pulseEnergies c.t_near c.t_far c.t_echoes c.t_totals (mxs (fun i => (pv r tm n ln i).toInt64) i h) (kI i) = some (pf, res, et, q.count, q.front, q.least, q.window, q.pulses, q.lengths, q.fractions, q.pulseTimes, q.pulseEnergies, a, b, e, t, mxs (fun i => (pv r tm n ln i).toInt64) 4 h) ∧ CR σ (CK.mk c.waveIsFresh pf c.n c.hcount c.hp c.h0 c.h1 c.h2 c.s_length c.s_command c.s_position c.s_fault c.s_bytes c.s_numbers c.w_near c.w_far c.w_echoes c.w_totals res et q a b e t) := by
  intro i fu
  induction fu generalizing i with
  | zero => intro c h hC h1 h2; omega
  | succ fu ih =>
    intro c h hC h1 h2
    simp only [Cl_L_digest_155]
    by_cases w : i = 4
    · subst w
      exact ⟨c.peelingIsFresh, c.p_result, c.p_endTime, c.q, c.t_near, c.t_far, c.t_echoes, c.t_totals, by simp (disch := omega) only [↓nm_eq, ↓bd_x, bdx_s, ↓bx_x, bxx_r, bxx_l, ↓bn_x, bnx_r, chk_t, ↓reduceIte, q32, q64, kI_lt_t, kI_lt_f, kI_le_t, kI_le_f, kI_eq_t, kI_eq_f, kL_lt_t, kL_lt_f, kL_le_t, kL_le_f, kL_eq_t, kL_eq_f, kI_m1, kI_m1', m1_m1, kI_n1, kI_n1', n1_add', eq_self, inb_t, kI_nat, kI_add, kI_mul, kI_sub, kI_div, kI_mod, kI_long, kL_add, kL_mul, kL_sub, kL_div, kL_mod, kL_int, n1_add, not_false_eq_true, not_true_eq_false, and_true, true_and, and_false, false_and, or_true, true_or, or_false, false_or, Nat.reduceEqDiff, IN, IM], hC⟩
    · obtain ⟨res, et, q, a, b, e, t, e1, q1⟩ := ev_peelC' hC hPL (show i < 4 by omega)
      obtain ⟨pf, res', et', q', a', b', e', t', f1, f2⟩ := ih (i + 1) (CK.mk c.waveIsFresh (kI 1) c.n c.hcount c.hp c.h0 c.h1 c.h2 c.s_length c.s_command c.s_position c.s_fault c.s_bytes c.s_numbers c.w_near c.w_far c.w_echoes c.w_totals res et q a b e t) h (CR_p hC q1) (by omega) (by omega)
      refine ⟨pf, res', et', q', a', b', e', t', ?_, f2⟩
      rw [if_neg (by rw [q32_3, kI_lt (by omega) (by omega)]; omega), e1, bn_r]
      (try dsimp only)
      rw [nm_eq, ev_mixed, bd_s, nm_eq, q32_1, kI_add]
      exact f1
section REF
variable {s : Sx} (hs : s.OK) {m : Nat → Int64} (hm : RS s m)
theorem r_bench (hs : s.OK) (hm : RS s m) (h : Int64) : Rl_digest_32 m FUEL h (kI 0) = some (mxs (fun i => kL (bv s.b i)) 6 h) := by
  obtain ⟨a, e, q⟩ := loop_gen (L := fun fu (z : Int64) x => Rl_digest_32 m fu z x) (fun i z => z = mxs (fun i => kL (bv s.b i)) i h) (fun z => z = mxs (fun i => kL (bv s.b i)) 6 h) 6 (fun fu i z hi hz => by
      refine Or.inr ⟨_, ?_, rfl⟩
      subst hz
      have e1 := ev_benchOf hs hm hi
      have b1 := bv_le hs.1 i
      simp only [Rl_digest_32]
      simp (disch := omega) only [↓nm_eq, ↓bd_x, bdx_s, ↓bx_x, bxx_r, bxx_l, ↓bn_x, bnx_r, chk_t, ↓reduceIte, q32, q64, kI_lt_t, kI_lt_f, kI_le_t, kI_le_f, kI_eq_t, kI_eq_f, kL_lt_t, kL_lt_f, kL_le_t, kL_le_f, kL_eq_t, kL_eq_f, kI_m1, kI_m1', m1_m1, kI_n1, kI_n1', n1_add', eq_self, inb_t, kI_nat, kI_add, kI_mul, kI_sub, kI_div, kI_mod, kI_long, kL_add, kL_mul, kL_sub, kL_div, kL_mod, kL_int, n1_add, not_false_eq_true, not_true_eq_false, and_true, true_and, and_false, false_and, or_true, true_or, or_false, false_or, Nat.reduceEqDiff, IN, IM, e1, ev_mix, mxs_s])
    (fun fu z hz => ⟨z, by simp only [Rl_digest_32]; simp (disch := omega) only [↓nm_eq, ↓bd_x, bdx_s, ↓bx_x, bxx_r, bxx_l, ↓bn_x, bnx_r, chk_t, ↓reduceIte, q32, q64, kI_lt_t, kI_lt_f, kI_le_t, kI_le_f, kI_eq_t, kI_eq_f, kL_lt_t, kL_lt_f, kL_le_t, kL_le_f, kL_eq_t, kL_eq_f, kI_m1, kI_m1', m1_m1, kI_n1, kI_n1', n1_add', eq_self, inb_t, kI_nat, kI_add, kI_mul, kI_sub, kI_div, kI_mod, kI_long, kL_add, kL_mul, kL_sub, kL_div, kL_mod, kL_int, n1_add, not_false_eq_true, not_true_eq_false, and_true, true_and, and_false, false_and, or_true, true_or, or_false, false_or, Nat.reduceEqDiff, IN, IM], hz⟩) FUEL 0 h (by have : FUEL = 4096 := rfl; omega) (by omega) rfl
  subst q
  exact e
theorem r_parts (hs : s.OK) (hm : RS s m) (h : Int64) : Rl_digest_56 m FUEL h (kI 0) = some (mx2 (fun k => kL (s.b.ln k)) (fun k => kL (s.b.fr k)) s.b.n h) := by
  have hn := hs.1.1
  obtain ⟨a, e, q⟩ := loop_gen (L := fun fu (z : Int64) x => Rl_digest_56 m fu z x) (fun i z => z = mx2 (fun k => kL (s.b.ln k)) (fun k => kL (s.b.fr k)) i h) (fun z => z = mx2 (fun k => kL (s.b.ln k)) (fun k => kL (s.b.fr k)) s.b.n h) s.b.n (fun fu i z hi hz => by
      refine Or.inr ⟨_, ?_, rfl⟩
      subst hz
      simp only [Rl_digest_56]
      simp (disch := omega) only [↓nm_eq, ↓bd_x, bdx_s, ↓bx_x, bxx_r, bxx_l, ↓bn_x, bnx_r, chk_t, ↓reduceIte, q32, q64, kI_lt_t, kI_lt_f, kI_le_t, kI_le_f, kI_eq_t, kI_eq_f, kL_lt_t, kL_lt_f, kL_le_t, kL_le_f, kL_eq_t, kL_eq_f, kI_m1, kI_m1', m1_m1, kI_n1, kI_n1', n1_add', eq_self, inb_t, kI_nat, kI_add, kI_mul, kI_sub, kI_div, kI_mod, kI_long, kL_add, kL_mul, kL_sub, kL_div, kL_mod, kL_int, n1_add, not_false_eq_true, not_true_eq_false, and_true, true_and, and_false, false_and, or_true, true_or, or_false, false_or, Nat.reduceEqDiff, IN, IM, ev_parts hm.1, hm.2.1, hm.2.2.1, ev_mix, mx2_s])
    (fun fu z hz => ⟨z, by simp only [Rl_digest_56]; simp (disch := omega) only [↓nm_eq, ↓bd_x, bdx_s, ↓bx_x, bxx_r, bxx_l, ↓bn_x, bnx_r, chk_t, ↓reduceIte, q32, q64, kI_lt_t, kI_lt_f, kI_le_t, kI_le_f, kI_eq_t, kI_eq_f, kL_lt_t, kL_lt_f, kL_le_t, kL_le_f, kL_eq_t, kL_eq_f, kI_m1, kI_m1', m1_m1, kI_n1, kI_n1', n1_add', eq_self, inb_t, kI_nat, kI_add, kI_mul, kI_sub, kI_div, kI_mod, kI_long, kL_add, kL_mul, kL_sub, kL_div, kL_mod, kL_int, n1_add, not_false_eq_true, not_true_eq_false, and_true, true_and, and_false, false_and, or_true, true_or, or_false, false_or, Nat.reduceEqDiff, IN, IM, ev_parts hm.1], hz⟩) FUEL 0 h (by have : FUEL = 4096 := rfl; omega) (by omega) rfl
  subst q
  exact e
theorem r_pulses (hs : s.OK) (hm : RS s m) (h : Int64) : Rl_digest_97 m FUEL h (kI 0) = some (mx2 (fun k => kL (s.b.pt k)) (fun k => kL (s.b.pe k)) s.b.np h) := by
  have hnp : s.b.np ≤ 4 := hs.1.2.2.2.2.2.2.1
  obtain ⟨m0, m1, m2, m3, m4, m5, m6, m7, m8, m9, m10⟩ := hm
  rw [← mxs_2]
  obtain ⟨a, e, q⟩ := loop_gen (L := fun fu (z : Int64) x => Rl_digest_97 m fu z x) (fun i z => z = mxs (fun i => if i % 2 = 0 then kL (s.b.pt (i / 2)) else kL (s.b.pe (i / 2))) i h) (fun z => z = mxs (fun i => if i % 2 = 0 then kL (s.b.pt (i / 2)) else kL (s.b.pe (i / 2))) (2 * s.b.np) h) (2 * s.b.np) (fun fu i z hi hz => by
      refine Or.inr ⟨_, ?_, rfl⟩
      subst hz
      have hv : m (21 + i) = if i % 2 = 0 then kL (s.b.pt (i / 2)) else kL (s.b.pe (i / 2)) := by
        by_cases w : i % 2 = 0
        · rw [if_pos w, ← m7 (i / 2) (by omega), show 21 + 2 * (i / 2) = 21 + i from by omega]
        · rw [if_neg w, ← m8 (i / 2) (by omega), show 21 + 2 * (i / 2) + 1 = 21 + i from by omega]
      rw [mxs_s]
      simp only [Rl_digest_97]
      simp (disch := omega) only [↓nm_eq, ↓bd_x, bdx_s, ↓bx_x, bxx_r, bxx_l, ↓bn_x, bnx_r, chk_t, ↓reduceIte, q32, q64, kI_lt_t, kI_lt_f, kI_le_t, kI_le_f, kI_eq_t, kI_eq_f, kL_lt_t, kL_lt_f, kL_le_t, kL_le_f, kL_eq_t, kL_eq_f, kI_m1, kI_m1', m1_m1, kI_n1, kI_n1', n1_add', eq_self, inb_t, kI_nat, kI_add, kI_mul, kI_sub, kI_div, kI_mod, kI_long, kL_add, kL_mul, kL_sub, kL_div, kL_mod, kL_int, n1_add, not_false_eq_true, not_true_eq_false, and_true, true_and, and_false, false_and, or_true, true_or, or_false, false_or, Nat.reduceEqDiff, IN, IM, m6, ev_mix]
      rw [hv])
    (fun fu z hz => ⟨z, by simp only [Rl_digest_97]; simp (disch := omega) only [↓nm_eq, ↓bd_x, bdx_s, ↓bx_x, bxx_r, bxx_l, ↓bn_x, bnx_r, chk_t, ↓reduceIte, q32, q64, kI_lt_t, kI_lt_f, kI_le_t, kI_le_f, kI_eq_t, kI_eq_f, kL_lt_t, kL_lt_f, kL_le_t, kL_le_f, kL_eq_t, kL_eq_f, kI_m1, kI_m1', m1_m1, kI_n1, kI_n1', n1_add', eq_self, inb_t, kI_nat, kI_add, kI_mul, kI_sub, kI_div, kI_mod, kI_long, kL_add, kL_mul, kL_sub, kL_div, kL_mod, kL_int, n1_add, not_false_eq_true, not_true_eq_false, and_true, true_and, and_false, false_and, or_true, true_or, or_false, false_or, Nat.reduceEqDiff, IN, IM, m6], hz⟩) FUEL 0 h (by have : FUEL = 4096 := rfl; omega) (by omega) rfl
  subst q
  exact e
theorem r_seen (hs : s.OK) (hm : RS s m) (h : Int64) : Rl_digest_139 m FUEL h (kI 0) = some (mxs (fun i => kL (s.se i)) 201 h) := by
  have m10 := hm.2.2.2.2.2.2.2.2.2.2
  obtain ⟨a, e, q⟩ := loop_gen (L := fun fu (z : Int64) x => Rl_digest_139 m fu z x) (fun i z => z = mxs (fun i => kL (s.se i)) i h) (fun z => z = mxs (fun i => kL (s.se i)) 201 h) 201 (fun fu i z hi hz => by
      refine Or.inr ⟨_, ?_, rfl⟩
      subst hz
      simp only [Rl_digest_139]
      simp (disch := omega) only [↓nm_eq, ↓bd_x, bdx_s, ↓bx_x, bxx_r, bxx_l, ↓bn_x, bnx_r, chk_t, ↓reduceIte, q32, q64, kI_lt_t, kI_lt_f, kI_le_t, kI_le_f, kI_eq_t, kI_eq_f, kL_lt_t, kL_lt_f, kL_le_t, kL_le_f, kL_eq_t, kL_eq_f, kI_m1, kI_m1', m1_m1, kI_n1, kI_n1', n1_add', eq_self, inb_t, kI_nat, kI_add, kI_mul, kI_sub, kI_div, kI_mod, kI_long, kL_add, kL_mul, kL_sub, kL_div, kL_mod, kL_int, n1_add, not_false_eq_true, not_true_eq_false, and_true, true_and, and_false, false_and, or_true, true_or, or_false, false_or, Nat.reduceEqDiff, IN, IM, m10, ev_mix, mxs_s])
    (fun fu z hz => ⟨z, by simp only [Rl_digest_139]; simp (disch := omega) only [↓nm_eq, ↓bd_x, bdx_s, ↓bx_x, bxx_r, bxx_l, ↓bn_x, bnx_r, chk_t, ↓reduceIte, q32, q64, kI_lt_t, kI_lt_f, kI_le_t, kI_le_f, kI_eq_t, kI_eq_f, kL_lt_t, kL_lt_f, kL_le_t, kL_le_f, kL_eq_t, kL_eq_f, kI_m1, kI_m1', m1_m1, kI_n1, kI_n1', n1_add', eq_self, inb_t, kI_nat, kI_add, kI_mul, kI_sub, kI_div, kI_mod, kI_long, kL_add, kL_mul, kL_sub, kL_div, kL_mod, kL_int, n1_add, not_false_eq_true, not_true_eq_false, and_true, true_and, and_false, false_and, or_true, true_or, or_false, false_or, Nat.reduceEqDiff, IN, IM], hz⟩) FUEL 0 h (by have : FUEL = 4096 := rfl; omega) (by omega) rfl
  subst q
  exact e
end REF
theorem r_peel {s : Sx} {r : Nat} {tq : Int32} {n : Nat} {ln fr : Nat → Nat} {lp pr pt ps : Int32} {ℓ φ : Nat → Int32} (hp : PRE s r tq n ln fr lp ℓ φ pr pt ps) (h : Int64) : Rl_digest_172 lp pr pt ps FUEL h (kI 0) = some (mxs (fun i => (pv r tq n ln i).toInt64) 4 h) := by
  obtain ⟨a, e, q⟩ := loop_gen (L := fun fu (z : Int64) x => Rl_digest_172 lp pr pt ps fu z x) (fun i z => z = mxs (fun i => (pv r tq n ln i).toInt64) i h) (fun z => z = mxs (fun i => (pv r tq n ln i).toInt64) 4 h) 4 (fun fu i z hi hz => by
      refine Or.inr ⟨_, ?_, rfl⟩
      subst hz
      simp only [Rl_digest_172]
      simp (disch := omega) only [↓nm_eq, ↓bd_x, bdx_s, ↓bx_x, bxx_r, bxx_l, ↓bn_x, bnx_r, chk_t, ↓reduceIte, q32, q64, kI_lt_t, kI_lt_f, kI_le_t, kI_le_f, kI_eq_t, kI_eq_f, kL_lt_t, kL_lt_f, kL_le_t, kL_le_f, kL_eq_t, kL_eq_f, kI_m1, kI_m1', m1_m1, kI_n1, kI_n1', n1_add', eq_self, inb_t, kI_nat, kI_add, kI_mul, kI_sub, kI_div, kI_mod, kI_long, kL_add, kL_mul, kL_sub, kL_div, kL_mod, kL_int, n1_add, not_false_eq_true, not_true_eq_false, and_true, true_and, and_false, false_and, or_true, true_or, or_false, false_or, Nat.reduceEqDiff, IN, IM, ev_peelOf hp hi, ev_mix, mxs_s])
    (fun fu z hz => ⟨z, by simp only [Rl_digest_172]; simp (disch := omega) only [↓nm_eq, ↓bd_x, bdx_s, ↓bx_x, bxx_r, bxx_l, ↓bn_x, bnx_r, chk_t, ↓reduceIte, q32, q64, kI_lt_t, kI_lt_f, kI_le_t, kI_le_f, kI_eq_t, kI_eq_f, kL_lt_t, kL_lt_f, kL_le_t, kL_le_f, kL_eq_t, kL_eq_f, kI_m1, kI_m1', m1_m1, kI_n1, kI_n1', n1_add', eq_self, inb_t, kI_nat, kI_add, kI_mul, kI_sub, kI_div, kI_mod, kI_long, kL_add, kL_mul, kL_sub, kL_div, kL_mod, kL_int, n1_add, not_false_eq_true, not_true_eq_false, and_true, true_and, and_false, false_and, or_true, true_or, or_false, false_or, Nat.reduceEqDiff, IN, IM], hz⟩) FUEL 0 h (by have : FUEL = 4096 := rfl; omega) (by omega) rfl
  subst q
  exact e
theorem r_found {n : Nat} {ln fr : Nat → Nat} (hl : LnOK n ln fr) {ℓ φ : Nat → Int32} (hℓ : ∀ k, k < n → ℓ k = kI (ln k)) (hφ : ∀ k, k < n → φ (k + 1) = kI (fr k)) (h : Int64) : Rl_digest_195 (kI n) ℓ φ FUEL h (kI 0) = some (mx2 (fun k => kL (ln k)) (fun k => kL (fr k)) n h) := by
  have hn := hl.1
  obtain ⟨a, e, q⟩ := loop_gen (L := fun fu (z : Int64) x => Rl_digest_195 (kI n) ℓ φ fu z x) (fun i z => z = mx2 (fun k => kL (ln k)) (fun k => kL (fr k)) i h) (fun z => z = mx2 (fun k => kL (ln k)) (fun k => kL (fr k)) n h) n (fun fu i z hi hz => by
      refine Or.inr ⟨_, ?_, rfl⟩
      subst hz
      have b1 := hl.2 i hi
      simp only [Rl_digest_195]
      simp (disch := omega) only [↓nm_eq, ↓bd_x, bdx_s, ↓bx_x, bxx_r, bxx_l, ↓bn_x, bnx_r, chk_t, ↓reduceIte, q32, q64, kI_lt_t, kI_lt_f, kI_le_t, kI_le_f, kI_eq_t, kI_eq_f, kL_lt_t, kL_lt_f, kL_le_t, kL_le_f, kL_eq_t, kL_eq_f, kI_m1, kI_m1', m1_m1, kI_n1, kI_n1', n1_add', eq_self, inb_t, kI_nat, kI_add, kI_mul, kI_sub, kI_div, kI_mod, kI_long, kL_add, kL_mul, kL_sub, kL_div, kL_mod, kL_int, n1_add, not_false_eq_true, not_true_eq_false, and_true, true_and, and_false, false_and, or_true, true_or, or_false, false_or, Nat.reduceEqDiff, IN, IM, hℓ, hφ, ev_mix, mx2_s])
    (fun fu z hz => ⟨z, by simp only [Rl_digest_195]; simp (disch := omega) only [↓nm_eq, ↓bd_x, bdx_s, ↓bx_x, bxx_r, bxx_l, ↓bn_x, bnx_r, chk_t, ↓reduceIte, q32, q64, kI_lt_t, kI_lt_f, kI_le_t, kI_le_f, kI_eq_t, kI_eq_f, kL_lt_t, kL_lt_f, kL_le_t, kL_le_f, kL_eq_t, kL_eq_f, kI_m1, kI_m1', m1_m1, kI_n1, kI_n1', n1_add', eq_self, inb_t, kI_nat, kI_add, kI_mul, kI_sub, kI_div, kI_mod, kI_long, kL_add, kL_mul, kL_sub, kL_div, kL_mod, kL_int, n1_add, not_false_eq_true, not_true_eq_false, and_true, true_and, and_false, false_and, or_true, true_or, or_false, false_or, Nat.reduceEqDiff, IN, IM], hz⟩) FUEL 0 h (by have : FUEL = 4096 := rfl; omega) (by omega) rfl
  subst q
  exact e
theorem r_echoes (hC : CR σ c) (hD : DL σ d) {t0 : Nat} (ht : FU σ.s.b.ewB σ.s.so (σ.s.b.wn + 1) t0) (h : Int64) : ∃ (lp : Int32) (ℓ1 φ1 : Nat → Int32) (pm : Int32) (tm : Nat → Int32) (en far near ech : Nat → Int64) (lf dr : Int64) (mg ds ct : Int32) (pk' : Int64), Rf_mixEchoes d.m d.lineParts d.lengths d.fractions d.pulseMany d.times d.energies d.far d.near d.echoes d.left d.dropped d.merged d.drops d.contributions d.packet h = some (lp, ℓ1, φ1, pm, tm, en, far, near, ech, lf, dr, mg, ds, ct, pk', mxs (fun i => (fv σ.s t0 i).toInt64) 4 (mix (mxs (fun i => kL (σ.s.b.ewB i)) (σ.s.b.wn + 1) (mxs (fun i => kL (σ.s.b.TOTB i)) 9 h)) (kI (sm (fun t => if σ.s.b.ewB t = σ.s.so t then 0 else 1) (σ.s.b.wn + 1))).toInt64)) := by
  have hw : σ.s.b.wn ≤ 200 := hC.1.1.1.2.2.2.2.1.2
  have m5 := hD.1.2.2.2.2.2.1
  obtain ⟨ℓ, φ, tm, en, far, near, ech, lf, dr, mg, ds, e2, q2, q3⟩ := op_run hC hD
  obtain ⟨a1, f1, g1⟩ := loop_gen (L := fun fu (z : Int64) x => Rl_mixEchoes_6 d.m (kI σ.s.b.n) ℓ (kI σ.s.b.np) tm en far near ech lf dr mg ds fu z x) (fun i z => z = mxs (fun i => kL (σ.s.b.TOTB i)) i h) (fun z => z = mxs (fun i => kL (σ.s.b.TOTB i)) 9 h) 9 (fun fu i z hi hz => by
      refine Or.inr ⟨_, ?_, rfl⟩
      subst hz
      simp only [Rl_mixEchoes_6]
      simp (disch := omega) only [↓nm_eq, ↓bd_x, bdx_s, ↓bx_x, bxx_r, bxx_l, ↓bn_x, bnx_r, chk_t, ↓reduceIte, q32, q64, kI_lt_t, kI_lt_f, kI_le_t, kI_le_f, kI_eq_t, kI_eq_f, kL_lt_t, kL_lt_f, kL_le_t, kL_le_f, kL_eq_t, kL_eq_f, kI_m1, kI_m1', m1_m1, kI_n1, kI_n1', n1_add', eq_self, inb_t, kI_nat, kI_add, kI_mul, kI_sub, kI_div, kI_mod, kI_long, kL_add, kL_mul, kL_sub, kL_div, kL_mod, kL_int, n1_add, not_false_eq_true, not_true_eq_false, and_true, true_and, and_false, false_and, or_true, true_or, or_false, false_or, Nat.reduceEqDiff, IN, IM, ev_totalOf hC.1.1.1 m5 q2 q3 hi, ev_mix, mxs_s])
    (fun fu z hz => ⟨z, by simp only [Rl_mixEchoes_6]; simp (disch := omega) only [↓nm_eq, ↓bd_x, bdx_s, ↓bx_x, bxx_r, bxx_l, ↓bn_x, bnx_r, chk_t, ↓reduceIte, q32, q64, kI_lt_t, kI_lt_f, kI_le_t, kI_le_f, kI_eq_t, kI_eq_f, kL_lt_t, kL_lt_f, kL_le_t, kL_le_f, kL_eq_t, kL_eq_f, kI_m1, kI_m1', m1_m1, kI_n1, kI_n1', n1_add', eq_self, inb_t, kI_nat, kI_add, kI_mul, kI_sub, kI_div, kI_mod, kI_long, kL_add, kL_mul, kL_sub, kL_div, kL_mod, kL_int, n1_add, not_false_eq_true, not_true_eq_false, and_true, true_and, and_false, false_and, or_true, true_or, or_false, false_or, Nat.reduceEqDiff, IN, IM], hz⟩) FUEL 0 h (by have : FUEL = 4096 := rfl; omega) (by omega) rfl
  subst g1
  obtain ⟨a2, f2, g2⟩ := loop_gen (L := fun fu (z : Int64) x => Rl_mixEchoes_29 d.m ech fu z x) (fun i z => z = mxs (fun i => kL (σ.s.b.ewB i)) i (mxs (fun i => kL (σ.s.b.TOTB i)) 9 h)) (fun z => z = mxs (fun i => kL (σ.s.b.ewB i)) (σ.s.b.wn + 1) (mxs (fun i => kL (σ.s.b.TOTB i)) 9 h)) (σ.s.b.wn + 1) (fun fu i z hi hz => by
      refine Or.inr ⟨_, ?_, rfl⟩
      subst hz
      simp only [Rl_mixEchoes_29]
      simp (disch := omega) only [↓nm_eq, ↓bd_x, bdx_s, ↓bx_x, bxx_r, bxx_l, ↓bn_x, bnx_r, chk_t, ↓reduceIte, q32, q64, kI_lt_t, kI_lt_f, kI_le_t, kI_le_f, kI_eq_t, kI_eq_f, kL_lt_t, kL_lt_f, kL_le_t, kL_le_f, kL_eq_t, kL_eq_f, kI_m1, kI_m1', m1_m1, kI_n1, kI_n1', n1_add', eq_self, inb_t, kI_nat, kI_add, kI_mul, kI_sub, kI_div, kI_mod, kI_long, kL_add, kL_mul, kL_sub, kL_div, kL_mod, kL_int, n1_add, not_false_eq_true, not_true_eq_false, and_true, true_and, and_false, false_and, or_true, true_or, or_false, false_or, Nat.reduceEqDiff, IN, IM, ev_window m5, q3.2.1, ev_mix, mxs_s])
    (fun fu z hz => ⟨z, by simp only [Rl_mixEchoes_29]; simp (disch := omega) only [↓nm_eq, ↓bd_x, bdx_s, ↓bx_x, bxx_r, bxx_l, ↓bn_x, bnx_r, chk_t, ↓reduceIte, q32, q64, kI_lt_t, kI_lt_f, kI_le_t, kI_le_f, kI_eq_t, kI_eq_f, kL_lt_t, kL_lt_f, kL_le_t, kL_le_f, kL_eq_t, kL_eq_f, kI_m1, kI_m1', m1_m1, kI_n1, kI_n1', n1_add', eq_self, inb_t, kI_nat, kI_add, kI_mul, kI_sub, kI_div, kI_mod, kI_long, kL_add, kL_mul, kL_sub, kL_div, kL_mod, kL_int, n1_add, not_false_eq_true, not_true_eq_false, and_true, true_and, and_false, false_and, or_true, true_or, or_false, false_or, Nat.reduceEqDiff, IN, IM, ev_window m5], hz⟩) FUEL 0 (mxs (fun i => kL (σ.s.b.TOTB i)) 9 h) (by have : FUEL = 4096 := rfl; omega) (by omega) rfl
  subst g2
  have e3 := ev_differencesR q3.2.1 (bew hC) (fun t ht => (hC.1.1.2 t ht).1) hw m5 hD.1.2.2.2.2.2.2.2.2.2.1
  generalize hX : mix (mxs (fun i => kL (σ.s.b.ewB i)) (σ.s.b.wn + 1) (mxs (fun i => kL (σ.s.b.TOTB i)) 9 h)) (kI (sm (fun t => if σ.s.b.ewB t = σ.s.so t then 0 else 1) (σ.s.b.wn + 1))).toInt64 = X
  obtain ⟨a3, f3, g3⟩ := loop_gen (L := fun fu (z : Int64) x => Rl_mixEchoes_64 d.m (kI σ.s.b.np) tm ech fu z x) (fun i z => z = mxs (fun i => (fv σ.s t0 i).toInt64) i X) (fun z => z = mxs (fun i => (fv σ.s t0 i).toInt64) 4 X) 4 (fun fu i z hi hz => by
      refine Or.inr ⟨_, ?_, rfl⟩
      subst hz
      simp only [Rl_mixEchoes_64]
      simp (disch := omega) only [↓nm_eq, ↓bd_x, bdx_s, ↓bx_x, bxx_r, bxx_l, ↓bn_x, bnx_r, chk_t, ↓reduceIte, q32, q64, kI_lt_t, kI_lt_f, kI_le_t, kI_le_f, kI_eq_t, kI_eq_f, kL_lt_t, kL_lt_f, kL_le_t, kL_le_f, kL_eq_t, kL_eq_f, kI_m1, kI_m1', m1_m1, kI_n1, kI_n1', n1_add', eq_self, inb_t, kI_nat, kI_add, kI_mul, kI_sub, kI_div, kI_mod, kI_long, kL_add, kL_mul, kL_sub, kL_div, kL_mod, kL_int, n1_add, not_false_eq_true, not_true_eq_false, and_true, true_and, and_false, false_and, or_true, true_or, or_false, false_or, Nat.reduceEqDiff, IN, IM, ev_faultR hC hD.1 q2.2.2.1 q3.2.1 hi ht, ev_mix, mxs_s])
    (fun fu z hz => ⟨z, by simp only [Rl_mixEchoes_64]; simp (disch := omega) only [↓nm_eq, ↓bd_x, bdx_s, ↓bx_x, bxx_r, bxx_l, ↓bn_x, bnx_r, chk_t, ↓reduceIte, q32, q64, kI_lt_t, kI_lt_f, kI_le_t, kI_le_f, kI_eq_t, kI_eq_f, kL_lt_t, kL_lt_f, kL_le_t, kL_le_f, kL_eq_t, kL_eq_f, kI_m1, kI_m1', m1_m1, kI_n1, kI_n1', n1_add', eq_self, inb_t, kI_nat, kI_add, kI_mul, kI_sub, kI_div, kI_mod, kI_long, kL_add, kL_mul, kL_sub, kL_div, kL_mod, kL_int, n1_add, not_false_eq_true, not_true_eq_false, and_true, true_and, and_false, false_and, or_true, true_or, or_false, false_or, Nat.reduceEqDiff, IN, IM], hz⟩) FUEL 0 X (by have : FUEL = 4096 := rfl; omega) (by omega) rfl
  subst g3
  refine ⟨kI σ.s.b.n, ℓ, φ, kI σ.s.b.np, tm, en, far, near, ech, lf, dr, mg, ds, kI 0, kL 0, ?_⟩
  unfold Rf_mixEchoes
  rw [e2, bd_s]
  (try dsimp only)
  rw [q32_0, f1, bd_s, f2, bd_s, e3, bd_s, nm_eq, ev_mix, bd_s, hX, f3, bd_s]
theorem OP_digest (hC : CR σ c) (hD : DL σ d) : ∃ (x : Int64) (wf pf : Int32) (a0 b0 : Nat → Nat → Int64) (e0 t0' : Nat → Int64) (res et : Int32) (q : QC) (a b : Nat → Nat → Int64) (e t : Nat → Int64) (lp : Int32) (ℓ1 φ1 : Nat → Int32) (pm : Int32) (tm : Nat → Int32) (en far near ech : Nat → Int64) (lf dr : Int64) (mg ds ct : Int32) (pk' : Int64) (pr pt1 ps : Int32), Cf_L_digest c.waveIsFresh c.peelingIsFresh c.n.count c.n.front c.n.least c.n.window c.n.pulses c.n.lengths c.n.fractions c.n.pulseTimes c.n.pulseEnergies c.n.sound c.n.seen c.hcount c.s_length c.w_near c.w_far c.w_echoes c.w_totals c.p_result c.p_endTime c.q.count c.q.front c.q.least c.q.window c.q.pulses c.q.lengths c.q.fractions c.q.pulseTimes c.q.pulseEnergies c.t_near c.t_far c.t_echoes c.t_totals = some (wf, pf, a0, b0, e0, t0', res, et, q.count, q.front, q.least, q.window, q.pulses, q.lengths, q.fractions, q.pulseTimes, q.pulseEnergies, a, b, e, t, x) ∧ Rf_digest d.m d.savedCount d.scriptLength d.code d.lineParts d.lengths d.fractions d.pulseMany d.times d.energies d.far d.near d.echoes d.left d.dropped d.merged d.drops d.contributions d.packet d.peelResult d.peelTime d.peelSum d.hash = some (kI 0, lp, ℓ1, φ1, pm, tm, en, far, near, ech, lf, dr, mg, ds, ct, pk', pr, pt1, ps, x, x) ∧ CR σ (CK.mk wf pf c.n c.hcount c.hp c.h0 c.h1 c.h2 c.s_length c.s_command c.s_position c.s_fault c.s_bytes c.s_numbers a0 b0 e0 t0' res et q a b e t) := by
  obtain ⟨t0, ht⟩ := FU_ex σ.s.b.ewB σ.s.so (σ.s.b.wn + 1)
  obtain ⟨r, tq, n', ln', fr', hPL⟩ := PL_ex hC.1.1 8 0 (fun _ => 0) (fun _ => 0) rfl ⟨by decide, fun k hk => by omega⟩
  have hl := PL_0 hPL
  have hc1 := hC.2.2.1.2.1
  have hc2 := hC.2.2.2.1.1
  obtain ⟨⟨w1, w2, w3, w4, w5, w6⟩, f1, f2, f3⟩ := g_tot hC (hb3 σ.s.b (mix (mix (kL 11908) (kI σ.k).toInt64) (kI σ.L).toInt64))
  (try dsimp only at f2 f3)
  subst f2
  obtain ⟨⟨v1, v2, v3, v4, v5, v6⟩, j1, j2, j3⟩ := g_ech f3 (mxs (fun i => kL (σ.s.b.TOTB i)) 9 (hb3 σ.s.b (mix (mix (kL 11908) (kI σ.k).toInt64) (kI σ.L).toInt64)))
  (try dsimp only at j1 j2 j3)
  subst j2
  obtain ⟨u1, u2, u3, u4, k1, k2⟩ := ev_differencesCC j3
  (try dsimp only at k1)
  have hC3 := CR_w hC k2
  obtain ⟨⟨z1, z2, z3, z4, z5, z6⟩, l1, l2, l3⟩ := g_flt hC3 ht (mix (mxs (fun i => kL (σ.s.b.ewB i)) (σ.s.b.wn + 1) (mxs (fun i => kL (σ.s.b.TOTB i)) 9 (hb3 σ.s.b (mix (mix (kL 11908) (kI σ.k).toInt64) (kI σ.L).toInt64)))) (kI (sm (fun t => if σ.s.b.ewB t = σ.s.so t then 0 else 1) (σ.s.b.wn + 1))).toInt64)
  (try dsimp only at l1 l2 l3)
  subst l2
  generalize hX : mxs (fun i => (fv σ.s t0 i).toInt64) 4 (mix (mxs (fun i => kL (σ.s.b.ewB i)) (σ.s.b.wn + 1) (mxs (fun i => kL (σ.s.b.TOTB i)) 9 (hb3 σ.s.b (mix (mix (kL 11908) (kI σ.k).toInt64) (kI σ.L).toInt64)))) (kI (sm (fun t => if σ.s.b.ewB t = σ.s.so t then 0 else 1) (σ.s.b.wn + 1))).toInt64) = X at l1
  have es := g_seen hC X
  obtain ⟨pf, res, et, q, a, b, e, t, p1, p2⟩ := g_peel hC hPL 0 FUEL (CK.mk z1 c.peelingIsFresh c.n c.hcount c.hp c.h0 c.h1 c.h2 c.s_length c.s_command c.s_position c.s_fault c.s_bytes c.s_numbers z2 z3 z4 z5 c.p_result c.p_endTime c.q c.t_near c.t_far c.t_echoes c.t_totals) (mxs (fun i => kL (σ.s.se i)) 201 X) l3 (by omega) (by have : FUEL = 4096 := rfl; omega)
  (try dsimp only at p1)
  have zz : ∀ (f : Nat → Int64) (h : Int64), mxs f 0 h = h := fun _ _ => rfl
  rw [zz] at p1
  obtain ⟨res2, et2, q2, a2, b2, e2, t2, p3, p4⟩ := op_pp p2
  (try dsimp only at p3)
  have p4' := p4
  obtain ⟨r', tm', m', ln2, fr2, p5, p6, p7, p8, p9, p10⟩ := p4'
  obtain ⟨y1, y2, y3, y4, y5⟩ := PL_det hPL p5
  subst y1
  subst y2
  subst y3
  subst y4
  subst y5
  have ep := g_partsQ hl.1 (fun k hk => by have := hl.2 k hk; omega) p9 p10 (mxs (fun i => (pv r tq n' ln' i).toInt64) 4 (mxs (fun i => kL (σ.s.se i)) 201 X))
  obtain ⟨lp, ℓ1, φ1, pm, tm, en, far, near, ech, lf, dr, mg, ds, ct, pk', r1⟩ := r_echoes hC hD ht (hb3 σ.s.b (mix (mix (kL 11908) (kI σ.k).toInt64) (kI σ.L).toInt64))
  rw [hX] at r1
  obtain ⟨r3, tq2, n3, ln3, fr3, lp2, ℓ2, φ2, tm2, en2, far2, near2, ech2, lf2, dr2, mg2, ds2, ct2, pk2, pr, pt1, ps, r4, r5, r6⟩ := ev_peelAll hC.1.1 hD.1 (lp := lp) (ℓ := ℓ1) (φ := φ1) (pm := pm) (tm := tm) (en := en) (far := far) (near := near) (ech := ech) (lf := lf) (dr := dr) (mg := mg) (ds := ds) (ct := ct) (pk := pk') (pr := d.peelResult) (pt := d.peelTime) (ps := d.peelSum)
  obtain ⟨y1, y2, y3, y4, y5⟩ := PL_det hPL r5
  subst y1
  subst y2
  subst y3
  subst y4
  subst y5
  have rp := r_peel r6 (mxs (fun i => kL (σ.s.se i)) 201 X)
  have rf := r_found hl r6.2.1 (fun k hk => by have := r6.2.2.1 (k + 1) (by omega); rw [pfq_s k hk] at this; exact this) (mxs (fun i => (pv r tq n' ln' i).toInt64) 4 (mxs (fun i => kL (σ.s.se i)) 201 X))
  rw [← r6.1] at rf
  refine ⟨mx2 (fun k => kL (ln' k)) (fun k => kL (fr' k)) n' (mxs (fun i => (pv r tq n' ln' i).toInt64) 4 (mxs (fun i => kL (σ.s.se i)) 201 X)), z1, kI 1, z2, z3, z4, z5, res2, et2, q2, a2, b2, e2, t2, lp2, ℓ2, φ2, kI 1, tm2, en2, far2, near2, ech2, lf2, dr2, mg2, ds2, ct2, pk2, pr, pt1, ps, ?_, ?_, CR_p l3 p4⟩
  · unfold Cf_L_digest
    rw [nm_eq, hc1, q64_11908, ev_mixed, bd_s, nm_eq, hc2, ev_mixed, bd_s, g_mwb hC, bd_s, q32_0, f1, bd_s]
    (try dsimp only)
    rw [j1, bd_s]
    (try dsimp only)
    rw [k1, bd_s]
    (try dsimp only)
    rw [nm_eq, ev_mixed, bd_s, l1, bd_s]
    (try dsimp only)
    rw [es, bd_s, p1, bd_s]
    (try dsimp only)
    rw [p3, bd_s]
    (try dsimp only)
    rw [p8, ep, bd_s]
  · unfold Rf_digest
    have hb3e : hb3 σ.s.b (mix (mix (kL 11908) (kI σ.k).toInt64) (kI σ.L).toInt64) = mx2 (fun k => kL (σ.s.b.pt k)) (fun k => kL (σ.s.b.pe k)) σ.s.b.np (mx2 (fun k => kL (σ.s.b.ln k)) (fun k => kL (σ.s.b.fr k)) σ.s.b.n (mxs (fun i => kL (bv σ.s.b i)) 6 (mix (mix (kL 11908) (kI σ.k).toInt64) (kI σ.L).toInt64))) := rfl
    rw [hb3e] at r1
    rw [nm_eq, hD.2.1.2.1, q64_11908, ev_mix, bd_s, nm_eq, hD.2.2.1, ev_mix, bd_s, q32_0, r_bench hC.1.1 hD.1, bd_s, r_parts hC.1.1 hD.1, bd_s, r_pulses hC.1.1 hD.1, bd_s, r1, bd_s]
    (try dsimp only)
    rw [r_seen hC.1.1 hD.1, bd_s, r4, bd_s]
    (try dsimp only)
    rw [rp, bd_s, rf, bd_s]
end OPS8
