abbrev Bn : Type := Nat × (Nat → Nat) × (Nat → Nat) × Nat × Nat × Nat × Nat × (Nat → Nat) × (Nat → Nat)
abbrev Bn.n (x : Bn) : Nat := x.1
abbrev Bn.ln (x : Bn) : Nat → Nat := x.2.1
abbrev Bn.fr (x : Bn) : Nat → Nat := x.2.2.1
abbrev Bn.ft (x : Bn) : Nat := x.2.2.2.1
abbrev Bn.ls (x : Bn) : Nat := x.2.2.2.2.1
abbrev Bn.wn (x : Bn) : Nat := x.2.2.2.2.2.1
abbrev Bn.np (x : Bn) : Nat := x.2.2.2.2.2.2.1
abbrev Bn.pt (x : Bn) : Nat → Nat := x.2.2.2.2.2.2.2.1
abbrev Bn.pe (x : Bn) : Nat → Nat := x.2.2.2.2.2.2.2.2
abbrev Bn.mk (a0 : Nat) (a1 : Nat → Nat) (a2 : Nat → Nat) (a3 : Nat) (a4 : Nat) (a5 : Nat) (a6 : Nat) (a7 : Nat → Nat) (a8 : Nat → Nat) : Bn := (a0, a1, a2, a3, a4, a5, a6, a7, a8)
abbrev Sx : Type := Bn × (Nat → Nat) × (Nat → Nat)
abbrev Sx.b (x : Sx) : Bn := x.1
abbrev Sx.so (x : Sx) : Nat → Nat := x.2.1
abbrev Sx.se (x : Sx) : Nat → Nat := x.2.2
abbrev Sx.mk (a0 : Bn) (a1 : Nat → Nat) (a2 : Nat → Nat) : Sx := (a0, a1, a2)
def Bn.fq (b : Bn) (j : Nat) : Nat := if j = 0 then b.ft else if j ≤ b.n then b.fr (j - 1) else 0
def Bn.OK (b : Bn) : Prop := b.n ≤ 8 ∧ (∀ k, k < b.n → 1 ≤ b.ln k ∧ b.ln k ≤ 20 ∧ b.fr k ≤ 1000) ∧ b.ft ≤ 999 ∧ b.ls ≤ 1000 ∧ (1 ≤ b.wn ∧ b.wn ≤ 200) ∧ 1 ≤ b.np ∧ POK b.np b.pt b.pe
def Sx.OK (s : Sx) : Prop := s.b.OK ∧ ∀ t, t < 201 → s.so t ≤ 4000000 ∧ s.se t ≤ 4000000
def CB (b : Bn) (cn ft ls wn np : Int32) (ℓ φ pt pe : Nat → Int32) : Prop := cn = kI b.n ∧ ft = kI b.ft ∧ ls = kI b.ls ∧ wn = kI b.wn ∧ np = kI b.np ∧ (∀ k, k < b.n → ℓ k = kI (b.ln k)) ∧ (∀ k, k < b.n → φ k = kI (b.fr k)) ∧ (∀ i, i < b.np → pt i = kI (b.pt i)) ∧ ∀ i, i < b.np → pe i = kI (b.pe i)
def CS (s : Sx) (cn ft ls wn np : Int32) (ℓ φ pt pe : Nat → Int32) (so se : Nat → Int64) : Prop := CB s.b cn ft ls wn np ℓ φ pt pe ∧ (∀ t, t < 201 → so t = kL (s.so t)) ∧ ∀ t, t < 201 → se t = kL (s.se t)
def RS (s : Sx) (m : Nat → Int64) : Prop := m 0 = kL s.b.n ∧ (∀ k, k < s.b.n → m (1 + k) = kL (s.b.ln k)) ∧ (∀ k, k < s.b.n → m (9 + k) = kL (s.b.fr k)) ∧ m 17 = kL s.b.ft ∧ m 18 = kL s.b.ls ∧ m 19 = kL s.b.wn ∧ m 20 = kL s.b.np ∧ (∀ i, i < s.b.np → m (21 + 2 * i) = kL (s.b.pt i)) ∧ (∀ i, i < s.b.np → m (21 + 2 * i + 1) = kL (s.b.pe i)) ∧ (∀ t, t < 201 → m (29 + t) = kL (s.so t)) ∧ ∀ t, t < 201 → m (230 + t) = kL (s.se t)
theorem Bn.fq_le {b : Bn} (h : b.OK) (j : Nat) : b.fq j ≤ 1000 := by
  obtain ⟨h1, h2, h3, h4⟩ := h
  unfold Bn.fq
  split
  · omega
  · split
    · exact (h2 _ (by omega)).2.2
    · omega
theorem Bn.LOK {b : Bn} (h : b.OK) : LOK b.n b.ln b.fq b.ls (puP b.np b.pt b.pe) := by
  have h0 := h
  obtain ⟨h1, h2, h3, h4, h5, h6, h7⟩ := h
  exact ⟨h1, fun j hj => ⟨(h2 j hj).1, (h2 j hj).2.1⟩, Bn.fq_le h0, h4, puP_sum h7⟩
abbrev Bn.ewB (b : Bn) (t : Nat) : Nat := ew b.n b.ln b.fq b.ls b.np b.pt b.pe b.wn t
abbrev Bn.TOTB (b : Bn) (i : Nat) : Nat := TOT b.n b.ln b.fq b.ls b.np b.pt b.pe b.wn i
abbrev Bn.WRB (b : Bn) (cN cF : Nat → Nat → Int64) (ech tot : Nat → Int64) : Prop := WR b.n b.ln b.fq b.ls b.np b.pt b.pe b.wn cN cF ech tot
abbrev Bn.RRB (b : Bn) (far near ech : Nat → Int64) (lf dr : Int64) (mg ds : Int32) : Prop := RR b.n b.ln b.fq b.ls b.np b.pt b.pe b.wn far near ech lf dr mg ds
theorem ev_parts {m : Nat → Int64} {n : Nat} (h : m 0 = kL n) : Rf_parts m = some (kI n) := by
  unfold Rf_parts
  simp (disch := omega) only [↓nm_eq, ↓bd_x, bdx_s, ↓bx_x, bxx_r, bxx_l, ↓bn_x, bnx_r, chk_t, ↓reduceIte, q32, q64, kI_lt_t, kI_lt_f, kI_le_t, kI_le_f, kI_eq_t, kI_eq_f, kL_lt_t, kL_lt_f, kL_le_t, kL_le_f, kL_eq_t, kL_eq_f, kI_m1, kI_m1', m1_m1, kI_n1, kI_n1', n1_add', eq_self, inb_t, kI_nat, kI_add, kI_mul, kI_sub, kI_div, kI_mod, kI_long, kL_add, kL_mul, kL_sub, kL_div, kL_mod, kL_int, n1_add, not_false_eq_true, not_true_eq_false, and_true, true_and, and_false, false_and, or_true, true_or, or_false, false_or, Nat.reduceEqDiff, t32_0, h]
theorem ev_rpParts {b : Bn} (hb : b.OK) {m : Nat → Int64} (h1 : ∀ k, k < b.n → m (1 + k) = kL (b.ln k)) (h2 : ∀ k, k < b.n → m (9 + k) = kL (b.fr k)) {ℓ φ : Nat → Int32} (h0 : φ 0 = kI b.ft) :
    ∃ ℓ' φ', Rl_runPresent_24 m (kI b.n) FUEL ℓ φ (kI 0) = some (ℓ', φ') ∧ (∀ k, k < b.n → ℓ' k = kI (b.ln k)) ∧ ∀ k, k ≤ b.n → φ' k = kI (b.fq k) := by
  have hn := hb.1
  obtain ⟨⟨a1, a2⟩, e, q⟩ := loop_gen (L := fun fu (s : (Nat → Int32) × (Nat → Int32)) x => Rl_runPresent_24 m (kI b.n) fu s.1 s.2 x) (fun i s => (∀ k, k < i → s.1 k = kI (b.ln k)) ∧ ∀ k, k ≤ i → s.2 k = kI (b.fq k)) (fun s => (∀ k, k < b.n → s.1 k = kI (b.ln k)) ∧ ∀ k, k ≤ b.n → s.2 k = kI (b.fq k)) b.n (fun fu i s hi hs => by
      refine Or.inr ⟨(upd s.1 i (kI (b.ln i)), upd s.2 (i + 1) (kI (b.fr i))), ?_, fun k hk => ?_, fun k hk => ?_⟩
      · simp only [Rl_runPresent_24]
        simp (disch := omega) only [↓nm_eq, ↓bd_x, bdx_s, ↓bx_x, bxx_r, bxx_l, ↓bn_x, bnx_r, chk_t, ↓reduceIte, q32, q64, kI_lt_t, kI_lt_f, kI_le_t, kI_le_f, kI_eq_t, kI_eq_f, kL_lt_t, kL_lt_f, kL_le_t, kL_le_f, kL_eq_t, kL_eq_f, kI_m1, kI_m1', m1_m1, kI_n1, kI_n1', n1_add', eq_self, inb_t, kI_nat, kI_add, kI_mul, kI_sub, kI_div, kI_mod, kI_long, kL_add, kL_mul, kL_sub, kL_div, kL_mod, kL_int, n1_add, not_false_eq_true, not_true_eq_false, and_true, true_and, and_false, false_and, or_true, true_or, or_false, false_or, Nat.reduceEqDiff, h1, h2]
      · by_cases e : k = i
        · subst e; exact up32_at
        · exact (up32_ne e).trans (hs.1 k (by omega))
      · by_cases e : k = i + 1
        · subst e
          refine up32_at.trans ?_
          unfold Bn.fq
          rw [if_neg (by omega), if_pos (by omega), Nat.add_sub_cancel]
        · exact (up32_ne e).trans (hs.2 k (by omega)))
    (fun fu s hs => ⟨s, by simp only [Rl_runPresent_24]; simp (disch := omega) only [↓nm_eq, ↓bd_x, bdx_s, ↓bx_x, bxx_r, bxx_l, ↓bn_x, bnx_r, chk_t, ↓reduceIte, q32, q64, kI_lt_t, kI_lt_f, kI_le_t, kI_le_f, kI_eq_t, kI_eq_f, kL_lt_t, kL_lt_f, kL_le_t, kL_le_f, kL_eq_t, kL_eq_f, kI_m1, kI_m1', m1_m1, kI_n1, kI_n1', n1_add', eq_self, inb_t, kI_nat, kI_add, kI_mul, kI_sub, kI_div, kI_mod, kI_long, kL_add, kL_mul, kL_sub, kL_div, kL_mod, kL_int, n1_add, not_false_eq_true, not_true_eq_false, and_true, true_and, and_false, false_and, or_true, true_or, or_false, false_or, Nat.reduceEqDiff], hs⟩) FUEL 0 (ℓ, φ) (by have : FUEL = 4096 := rfl; omega) (by omega) ⟨fun k hk => by omega, fun k hk => by
      rw [show k = 0 from by omega]
      exact h0⟩
  exact ⟨a1, a2, e, q.1, q.2⟩
theorem ev_rpPulses {b : Bn} (hb : b.OK) {m : Nat → Int64} (h1 : ∀ i, i < b.np → m (21 + 2 * i) = kL (b.pt i)) (h2 : ∀ i, i < b.np → m (21 + 2 * i + 1) = kL (b.pe i)) {tm : Nat → Int32} {en : Nat → Int64} :
    ∃ tm' en', Rl_runPresent_85 m (kI b.np) FUEL tm en (kI 0) = some (tm', en') ∧ (∀ k, k < b.np → tm' k = kI (b.pt k)) ∧ ∀ k, k < b.np → en' k = kL (b.pe k) := by
  have hn : b.np ≤ 4 := hb.2.2.2.2.2.2.1
  obtain ⟨⟨a1, a2⟩, e, q⟩ := loop_gen (L := fun fu (s : (Nat → Int32) × (Nat → Int64)) x => Rl_runPresent_85 m (kI b.np) fu s.1 s.2 x) (fun i s => (∀ k, k < i → s.1 k = kI (b.pt k)) ∧ ∀ k, k < i → s.2 k = kL (b.pe k)) (fun s => (∀ k, k < b.np → s.1 k = kI (b.pt k)) ∧ ∀ k, k < b.np → s.2 k = kL (b.pe k)) b.np (fun fu i s hi hs => by
      refine Or.inr ⟨(upd s.1 i (kI (b.pt i)), vp_updL s.2 i (kL (b.pe i))), ?_, fun k hk => ?_, fun k hk => ?_⟩
      · simp only [Rl_runPresent_85]
        simp (disch := omega) only [↓nm_eq, ↓bd_x, bdx_s, ↓bx_x, bxx_r, bxx_l, ↓bn_x, bnx_r, chk_t, ↓reduceIte, q32, q64, kI_lt_t, kI_lt_f, kI_le_t, kI_le_f, kI_eq_t, kI_eq_f, kL_lt_t, kL_lt_f, kL_le_t, kL_le_f, kL_eq_t, kL_eq_f, kI_m1, kI_m1', m1_m1, kI_n1, kI_n1', n1_add', eq_self, inb_t, kI_nat, kI_add, kI_mul, kI_sub, kI_div, kI_mod, kI_long, kL_add, kL_mul, kL_sub, kL_div, kL_mod, kL_int, n1_add, not_false_eq_true, not_true_eq_false, and_true, true_and, and_false, false_and, or_true, true_or, or_false, false_or, Nat.reduceEqDiff, h1, h2]
      · by_cases e : k = i
        · subst e; exact up32_at
        · exact (up32_ne e).trans (hs.1 k (by omega))
      · by_cases e : k = i
        · subst e; exact up_at
        · exact (up_ne e).trans (hs.2 k (by omega)))
    (fun fu s hs => ⟨s, by simp only [Rl_runPresent_85]; simp (disch := omega) only [↓nm_eq, ↓bd_x, bdx_s, ↓bx_x, bxx_r, bxx_l, ↓bn_x, bnx_r, chk_t, ↓reduceIte, q32, q64, kI_lt_t, kI_lt_f, kI_le_t, kI_le_f, kI_eq_t, kI_eq_f, kL_lt_t, kL_lt_f, kL_le_t, kL_le_f, kL_eq_t, kL_eq_f, kI_m1, kI_m1', m1_m1, kI_n1, kI_n1', n1_add', eq_self, inb_t, kI_nat, kI_add, kI_mul, kI_sub, kI_div, kI_mod, kI_long, kL_add, kL_mul, kL_sub, kL_div, kL_mod, kL_int, n1_add, not_false_eq_true, not_true_eq_false, and_true, true_and, and_false, false_and, or_true, true_or, or_false, false_or, Nat.reduceEqDiff], hs⟩) FUEL 0 (tm, en) (by have : FUEL = 4096 := rfl; omega) (by omega) ⟨fun k hk => by omega, fun k hk => by omega⟩
  exact ⟨a1, a2, e, q.1, q.2⟩
def LD (b : Bn) (ℓ φ tm : Nat → Int32) (en : Nat → Int64) : Prop := (∀ k, k < b.n → ℓ k = kI (b.ln k)) ∧ (∀ k, k ≤ b.n → φ k = kI (b.fq k)) ∧ (∀ k, k < b.np → tm k = kI (b.pt k)) ∧ ∀ k, k < b.np → en k = kL (b.pe k)
theorem ev_runPresent {s : Sx} (hs : s.OK) {m : Nat → Int64} (hm : RS s m) {lp : Int32} {ℓ φ : Nat → Int32} {pm : Int32} {tm : Nat → Int32} {en far near ech : Nat → Int64} {lf dr : Int64} {mg ds ct : Int32} {pk : Int64} :
    ∃ ℓ' φ' tm' en' far' near' ech' lf' dr' mg' ds', Rf_runPresent m lp ℓ φ pm tm en far near ech lf dr mg ds ct pk = some (kI s.b.n, ℓ', φ', kI s.b.np, tm', en', far', near', ech', lf', dr', mg', ds', kI 0, kL 0) ∧ LD s.b ℓ' φ' tm' en' ∧ s.b.RRB far' near' ech' lf' dr' mg' ds' := by
  have hb := hs.1
  obtain ⟨m0, m1, m2, m3, m4, m5, m6, m7, m8, m9, m10⟩ := hm
  have hw : s.b.wn ≤ 200 := hb.2.2.2.2.1.2
  unfold Rf_runPresent
  obtain ⟨ℓ1, φ1, e1, q1, q2⟩ := ev_rpParts hb m1 m2 (ℓ := ℓ) (φ := upd φ 0 (kI s.b.ft)) up32_at
  obtain ⟨tm1, en1, e2, q3, q4⟩ := ev_rpPulses hb m7 m8 (tm := tm) (en := en)
  obtain ⟨far', near', ech', lf', dr', mg', ds', e3, q5⟩ := ev_runLine (Bn.LOK hb) hb.2.2.2.2.2.2 hw m4 m5 q1 q2 q3 q4 (far := far) (near := near) (ech := ech) (lf := lf) (dr := dr) (mg := mg) (ds := ds) (ct := ct) (pk := pk)
  refine ⟨ℓ1, φ1, tm1, en1, far', near', ech', lf', dr', mg', ds', ?_, ⟨q1, q2, q3, q4⟩, q5⟩
  simp (disch := omega) only [↓nm_eq, ↓bd_x, bdx_s, ↓bx_x, bxx_r, bxx_l, ↓bn_x, bnx_r, chk_t, ↓reduceIte, q32, q64, kI_lt_t, kI_lt_f, kI_le_t, kI_le_f, kI_eq_t, kI_eq_f, kL_lt_t, kL_lt_f, kL_le_t, kL_le_f, kL_eq_t, kL_eq_f, kI_m1, kI_m1', m1_m1, kI_n1, kI_n1', n1_add', eq_self, inb_t, kI_nat, kI_add, kI_mul, kI_sub, kI_div, kI_mod, kI_long, kL_add, kL_mul, kL_sub, kL_div, kL_mod, kL_int, n1_add, not_false_eq_true, not_true_eq_false, and_true, true_and, and_false, false_and, or_true, true_or, or_false, false_or, Nat.reduceEqDiff, ev_parts m0, m3, m6, e1, e2, e3]
