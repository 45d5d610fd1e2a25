section PR
variable {s : Sx} {n : Nat} {ln fr : Nat → Nat}
theorem pE_ew (hl : LnOK n ln fr) {len p : Nat} (h1 : 1 ≤ len) (hw : 2 * (sm ln n + len) ≤ s.b.wn) : (pB s (n + 1) (upN ln n len) (upN fr n p)).ewB (2 * (sm ln n + len)) = pE s n ln fr len p := by
  show (if 2 * (sm ln n + len) ≤ s.b.wn then EC (n + 1) (upN ln n len) (pB s (n + 1) (upN ln n len) (upN fr n p)).fq s.b.ls (puP 1 (fun _ => 0) fun _ => s.b.pe 0) (2 * (sm ln n + len)) else 0) = _
  rw [if_pos hw, eN_eq (ln := ln) (fq := (pB s n ln fr).fq) (len := len) (fun j hj => (hl.2 j hj).1) h1 (fun j hj => upN_ne (by omega)) upN_at (fun j hj => fq_same s n ln fr (upN ln n len) (upN fr n p) (n + 1) (by omega) (fun k hk => upN_ne (by omega)) j hj), pfq_s n (by omega), upN_at]
  rfl
def RP (s : Sx) (m : Nat → Int64) (tm : Nat → Int32) (en : Nat → Int64) : Prop := m 18 = kL s.b.ls ∧ m 19 = kL s.b.wn ∧ (∀ t, t < 201 → m (230 + t) = kL (s.se t)) ∧ tm 0 = kI 0 ∧ en 0 = kL (s.b.pe 0)
theorem ev_runP (hs : s.OK) (hl : LnOK n ln fr) {m : Nat → Int64} {tm : Nat → Int32} {en : Nat → Int64} (hm : RP s m tm en) {ℓ φ : Nat → Int32} (hℓ : ∀ k, k < n → ℓ k = kI (ln k)) (hφ : ∀ k, k ≤ n → φ k = kI ((pB s n ln fr).fq k)) {far near ech : Nat → Int64} {lf dr : Int64} {mg ds ct : Int32} {pk : Int64} :
    ∃ far' near' ech' lf' dr' mg' ds', Rf_runLine m (kI n) ℓ φ (kI 1) tm en far near ech lf dr mg ds ct pk = some (far', near', ech', lf', dr', mg', ds', kI 0, kL 0) ∧ ∀ t, t < 201 → ech' t = kL ((pB s n ln fr).ewB t) := by
  obtain ⟨m1, m2, m3, m4, m5⟩ := hm
  have hw : s.b.wn ≤ 200 := hs.1.2.2.2.2.1.2
  obtain ⟨a, b, c, d, e, f, g, e1, e2⟩ := ev_runLine (Bn.LOK (pB_OK hs hl)) (pB_OK hs hl).2.2.2.2.2.2 (show (pB s n ln fr).wn ≤ 200 from hw) (m := m) m1 m2 hℓ hφ (tm := tm) (en := en) (fun i hi => by rw [show i = 0 from by have : i < 1 := hi; omega]; exact m4) (fun i hi => by rw [show i = 0 from by have : i < 1 := hi; omega]; exact m5) (far := far) (near := near) (ech := ech) (lf := lf) (dr := dr) (mg := mg) (ds := ds) (ct := ct) (pk := pk)
  exact ⟨a, b, c, d, e, f, g, e1, e2.2.1⟩
theorem fq_put {len p : Nat} {φ : Nat → Int32} (hφ : ∀ k, k ≤ n → φ k = kI ((pB s n ln fr).fq k)) : ∀ k, k ≤ n + 1 → upd φ (n + 1) (kI p) k = kI ((pB s (n + 1) (upN ln n len) (upN fr n p)).fq k) := fun k hk => by
  by_cases e : k = n + 1
  · subst e
    rw [up32_at, pfq_s n (by omega), upN_at]
  · rw [up32_ne e, hφ k (by omega), fq_same s n ln fr (upN ln n len) (upN fr n p) (n + 1) (by omega) (fun k hk => upN_ne (by omega)) k (by omega)]
theorem ev_putsLoop (hs : s.OK) (hl : LnOK n ln fr) (hn : n < 8) {m : Nat → Int64} {tm : Nat → Int32} {en : Nat → Int64} (hm : RP s m tm en) {ℓ : Nat → Int32} {len : Nat} (hl1 : 1 ≤ len) (hl2 : len ≤ 20) (hw : 2 * (sm ln n + len) ≤ s.b.wn) (hℓ : ∀ k, k < n + 1 → ℓ k = kI (upN ln n len k)) {f : Nat} (hf : FF s n ln fr len (s.se (2 * (sm ln n + len))) f) {x2 : Int32} : ∀ (fu low high : Nat) (_ : 1 ≤ low) (_ : low ≤ min f 1000) (_ : min f 1000 ≤ high) (_ : high ≤ 1000) (_ : high - low < fu) (φ : Nat → Int32) (_ : ∀ k, k ≤ n → φ k = kI ((pB s n ln fr).fq k)) (far near ech : Nat → Int64) (lf dr : Int64) (mg ds ct : Int32) (pk : Int64),
    ∃ φ' far' near' ech' lf' dr' mg' ds' ct' pk', Rl_puts_36 m (kI (n + 1)) ℓ (kI 1) tm en (kI (2 * (sm ln n + len))) x2 fu φ far near ech lf dr mg ds ct pk (kI low) (kI high) = some (φ', far', near', ech', lf', dr', mg', ds', ct', pk', kI (min f 1000)) ∧ ∀ k, k ≤ n → φ' k = kI ((pB s n ln fr).fq k) := by
  have hww : s.b.wn ≤ 200 := hs.1.2.2.2.2.1.2
  have b1 := (hs.2 (2 * (sm ln n + len)) (by omega)).2
  obtain ⟨f1, f2, f3, f4⟩ := hf
  intro fu
  induction fu with
  | zero => intro low high _ _ _ _ h; omega
  | succ fu ih =>
    intro low high h1 h2 h3 h4 h5 φ hφ far near ech lf dr mg ds ct pk
    simp only [Rl_puts_36, Rf_puts_93, Rf_puts_121]
    by_cases c1 : high ≤ low
    · refine ⟨φ, far, near, ech, lf, dr, mg, ds, ct, pk, ?_, hφ⟩
      rw [show min f 1000 = low from by omega]
      simp (disch := omega) only [↓nm_eq, ↓bd_x, bdx_s, ↓bx_x, bxx_r, bxx_l, ↓bn_x, bnx_r, chk_t, ↓reduceIte, q32, q64, kI_lt_t, kI_lt_f, kI_le_t, kI_le_f, kI_eq_t, kI_eq_f, kL_lt_t, kL_lt_f, kL_le_t, kL_le_f, kL_eq_t, kL_eq_f, kI_m1, kI_m1', m1_m1, kI_n1, kI_n1', n1_add', eq_self, inb_t, kI_nat, kI_add, kI_mul, kI_sub, kI_div, kI_mod, kI_long, kL_add, kL_mul, kL_sub, kL_div, kL_mod, kL_int, n1_add, not_false_eq_true, not_true_eq_false, and_true, true_and, and_false, false_and, or_true, true_or, or_false, false_or, Nat.reduceEqDiff]
    · have hmid : (low + high) / 2 < high := by omega
      have hmid2 : low ≤ (low + high) / 2 := by omega
      have hok := LnOK_step hl hn hl1 hl2 (show (low + high) / 2 ≤ 1000 by omega)
      obtain ⟨a, b, c, d, e, g, i, e1, e2⟩ := ev_runP hs hok hm hℓ (fq_put hφ) (far := far) (near := near) (ech := ech) (lf := lf) (dr := dr) (mg := mg) (ds := ds) (ct := ct) (pk := pk)
      have e3 := e2 (2 * (sm ln n + len)) (by omega)
      rw [pE_ew hl hl1 hw] at e3
      have b2 := pE_b hs hl (len := len) (show (low + high) / 2 ≤ 1000 by omega)
      by_cases c2 : s.se (2 * (sm ln n + len)) ≤ pE s n ln fr len ((low + high) / 2)
      · have q : f ≤ (low + high) / 2 := by
          by_cases q : (low + high) / 2 < f
          · have := f3 _ (by omega) q
            omega
          · omega
        obtain ⟨a1, a2, a3, a4, a5, a6, a7, a8, a9, a10, i1, i2⟩ := ih low ((low + high) / 2) h1 h2 (by omega) (by omega) (by omega) (upd φ (n + 1) (kI ((low + high) / 2))) (fun k hk => by rw [up32_ne (by omega)]; exact hφ k hk) a b c d e g i (kI 0) (kL 0)
        refine ⟨a1, a2, a3, a4, a5, a6, a7, a8, a9, a10, ?_, i2⟩
        simp (disch := omega) only [↓nm_eq, ↓bd_x, bdx_s, ↓bx_x, bxx_r, bxx_l, ↓bn_x, bnx_r, chk_t, ↓reduceIte, q32, q64, kI_lt_t, kI_lt_f, kI_le_t, kI_le_f, kI_eq_t, kI_eq_f, kL_lt_t, kL_lt_f, kL_le_t, kL_le_f, kL_eq_t, kL_eq_f, kI_m1, kI_m1', m1_m1, kI_n1, kI_n1', n1_add', eq_self, inb_t, kI_nat, kI_add, kI_mul, kI_sub, kI_div, kI_mod, kI_long, kL_add, kL_mul, kL_sub, kL_div, kL_mod, kL_int, n1_add, not_false_eq_true, not_true_eq_false, and_true, true_and, and_false, false_and, or_true, true_or, or_false, false_or, Nat.reduceEqDiff, two_ne, e1, e3, hm.2.2.1, c2, i1]
      · have q : (low + high) / 2 < f := by
          by_cases q : f ≤ (low + high) / 2
          · have h6 := f4 (by omega)
            have h7 := pE_mono hs hl (len := len) q
            omega
          · omega
        obtain ⟨a1, a2, a3, a4, a5, a6, a7, a8, a9, a10, i1, i2⟩ := ih ((low + high) / 2 + 1) high (by omega) (by omega) h3 h4 (by omega) (upd φ (n + 1) (kI ((low + high) / 2))) (fun k hk => by rw [up32_ne (by omega)]; exact hφ k hk) a b c d e g i (kI 0) (kL 0)
        refine ⟨a1, a2, a3, a4, a5, a6, a7, a8, a9, a10, ?_, i2⟩
        simp (disch := omega) only [↓nm_eq, ↓bd_x, bdx_s, ↓bx_x, bxx_r, bxx_l, ↓bn_x, bnx_r, chk_t, ↓reduceIte, q32, q64, kI_lt_t, kI_lt_f, kI_le_t, kI_le_f, kI_eq_t, kI_eq_f, kL_lt_t, kL_lt_f, kL_le_t, kL_le_f, kL_eq_t, kL_eq_f, kI_m1, kI_m1', m1_m1, kI_n1, kI_n1', n1_add', eq_self, inb_t, kI_nat, kI_add, kI_mul, kI_sub, kI_div, kI_mod, kI_long, kL_add, kL_mul, kL_sub, kL_div, kL_mod, kL_int, n1_add, not_false_eq_true, not_true_eq_false, and_true, true_and, and_false, false_and, or_true, true_or, or_false, false_or, Nat.reduceEqDiff, two_ne, e1, e3, hm.2.2.1, c2, i1]
theorem ev_puts (hs : s.OK) (hl : LnOK n ln fr) (hn : n < 8) {m : Nat → Int64} {tm : Nat → Int32} {en : Nat → Int64} (hm : RP s m tm en) {ℓ φ : Nat → Int32} {len : Nat} (hl1 : 1 ≤ len) (hl2 : len ≤ 20) (hw : 2 * (sm ln n + len) ≤ s.b.wn) (hℓ : ∀ k, k < n → ℓ k = kI (ln k)) (hφ : ∀ k, k ≤ n → φ k = kI ((pB s n ln fr).fq k)) {f : Nat} (hf : FF s n ln fr len (s.se (2 * (sm ln n + len))) f) (far near ech : Nat → Int64) (lf dr : Int64) (mg ds ct : Int32) (pk : Int64) :
    ∃ n' ℓ' φ' far' near' ech' lf' dr' mg' ds' ct' pk' ps' r, Rf_puts m (kI n) ℓ φ (kI 1) tm en far near ech lf dr mg ds ct pk (kI (sm ln n)) (kI (2 * (sm ln n + len))) = some (n', ℓ', φ', far', near', ech', lf', dr', mg', ds', ct', pk', ps', r) ∧ (f ≤ 1000 ∧ pE s n ln fr len f = s.se (2 * (sm ln n + len)) → n' = kI (n + 1) ∧ r = kI 1 ∧ ps' = kI (sm ln n + len) ∧ (∀ k, k < n + 1 → ℓ' k = kI (upN ln n len k)) ∧ (∀ k, k ≤ n + 1 → φ' k = kI ((pB s (n + 1) (upN ln n len) (upN fr n f)).fq k)) ∧ ∀ t, t < 201 → ech' t = kL ((pB s (n + 1) (upN ln n len) (upN fr n f)).ewB t)) ∧ (¬ (f ≤ 1000 ∧ pE s n ln fr len f = s.se (2 * (sm ln n + len))) → n' = kI n ∧ r = kI 0 ∧ ps' = kI (sm ln n) ∧ (∀ k, k < n → ℓ' k = kI (ln k)) ∧ ∀ k, k ≤ n → φ' k = kI ((pB s n ln fr).fq k)) := by
  have hww : s.b.wn ≤ 200 := hs.1.2.2.2.2.1.2
  have b1 := (hs.2 (2 * (sm ln n + len)) (by omega)).2
  have hf0 := hf
  obtain ⟨f1, f2, f3, f4⟩ := hf0
  have hℓ' : ∀ k, k < n + 1 → upd ℓ n (kI len) k = kI (upN ln n len k) := fun k hk => by
    by_cases e : k = n
    · subst e; rw [up32_at, upN_at]
    · rw [up32_ne e, upN_ne e]; exact hℓ k (by omega)
  obtain ⟨a1, a2, a3, a4, a5, a6, a7, a8, a9, a10, i1, i2⟩ := ev_putsLoop hs hl hn hm hl1 hl2 hw hℓ' hf (x2 := kI len) FUEL 1 1000 (by omega) (by omega) (by omega) (by omega) (by have : FUEL = 4096 := rfl; omega) φ hφ far near ech lf dr mg ds ct pk
  have hok := LnOK_step hl hn hl1 hl2 (show min f 1000 ≤ 1000 by omega)
  obtain ⟨a, b, c, d, e, g, i, e1, e2⟩ := ev_runP hs hok hm hℓ' (fq_put i2) (far := a2) (near := a3) (ech := a4) (lf := a5) (dr := a6) (mg := a7) (ds := a8) (ct := a9) (pk := a10)
  have e3 := e2 (2 * (sm ln n + len)) (by omega)
  rw [pE_ew hl hl1 hw] at e3
  have b2 := pE_b hs hl (len := len) (show min f 1000 ≤ 1000 by omega)
  have d1 : 2 * (sm ln n + len) / 2 = sm ln n + len := by omega
  have d2 : sm ln n + len - sm ln n = len := by omega
  have d3 : n + 1 - 1 = n := by omega
  have d4 : n + 1 - 0 = n + 1 := by omega
  have d5 : sm ln n + 0 = sm ln n := by omega
  unfold Rf_puts
  simp only [Rf_puts_165, Rf_puts_182, Rf_puts_201]
  by_cases c2 : pE s n ln fr len (min f 1000) = s.se (2 * (sm ln n + len))
  · have c3 : f ≤ 1000 := by
      by_cases q : f ≤ 1000
      · exact q
      · have := f3 1000 (by omega) (by omega)
        rw [show min f 1000 = 1000 from by omega] at c2
        omega
    rw [show min f 1000 = f from by omega] at i1 e1 e2 e3 c2 b2
    refine ⟨kI (n + 1), upd ℓ n (kI len), upd a1 (n + 1) (kI f), a, b, c, d, e, g, i, kI 0, kL 0, kI (sm ln n + len), kI 1, ?_, fun _ => ⟨rfl, rfl, rfl, hℓ', fq_put i2, e2⟩, fun q => absurd ⟨c3, c2⟩ q⟩
    rw [c2] at e3
    simp (disch := omega) only [↓nm_eq, ↓bd_x, bdx_s, ↓bx_x, bxx_r, bxx_l, ↓bn_x, bnx_r, chk_t, ↓reduceIte, q32, q64, kI_lt_t, kI_lt_f, kI_le_t, kI_le_f, kI_eq_t, kI_eq_f, kL_lt_t, kL_lt_f, kL_le_t, kL_le_f, kL_eq_t, kL_eq_f, kI_m1, kI_m1', m1_m1, kI_n1, kI_n1', n1_add', eq_self, inb_t, kI_nat, kI_add, kI_mul, kI_sub, kI_div, kI_mod, kI_long, kL_add, kL_mul, kL_sub, kL_div, kL_mod, kL_int, n1_add, not_false_eq_true, not_true_eq_false, and_true, true_and, and_false, false_and, or_true, true_or, or_false, false_or, Nat.reduceEqDiff, two_ne, d1, d2, i1, e1, e3, hm.2.2.1, or_true, d4]
  · refine ⟨kI n, upd ℓ n (kI len), upd a1 (n + 1) (kI (min f 1000)), a, b, c, d, e, g, i, kI 0, kL 0, kI (sm ln n), kI 0, ?_, fun q => ?_, fun _ => ⟨rfl, rfl, rfl, fun k hk => by rw [up32_ne (by omega)]; exact hℓ k hk, fun k hk => by rw [up32_ne (by omega)]; exact i2 k hk⟩⟩
    · simp (disch := omega) only [↓nm_eq, ↓bd_x, bdx_s, ↓bx_x, bxx_r, bxx_l, ↓bn_x, bnx_r, chk_t, ↓reduceIte, q32, q64, kI_lt_t, kI_lt_f, kI_le_t, kI_le_f, kI_eq_t, kI_eq_f, kL_lt_t, kL_lt_f, kL_le_t, kL_le_f, kL_eq_t, kL_eq_f, kI_m1, kI_m1', m1_m1, kI_n1, kI_n1', n1_add', eq_self, inb_t, kI_nat, kI_add, kI_mul, kI_sub, kI_div, kI_mod, kI_long, kL_add, kL_mul, kL_sub, kL_div, kL_mod, kL_int, n1_add, not_false_eq_true, not_true_eq_false, and_true, true_and, and_false, false_and, or_true, true_or, or_false, false_or, Nat.reduceEqDiff, two_ne, d1, d2, i1, e1, e3, hm.2.2.1, c2, true_or, d3, d5]
    · rw [show min f 1000 = f from by omega] at c2
      exact absurd q.2 c2
end PR
