theorem ite01 (c : Prop) [Decidable c] : (if c then 1 else 0) ≤ 1 := by split <;> omega
section TOT
variable {n : Nat} {ln fq : Nat → Nat} {ls np : Nat} {pt pe : Nat → Nat} {win : Nat}
theorem TOT4 (hL : LOK n ln fq ls (puP np pt pe)) : TOT n ln fq ls np pt pe win 4 = sm (fun j => sm (fun t => if win < t + ln j then Fa n ln fq ls (puP np pt pe) j t + Nw n ln fq ls (puP np pt pe) (j + 1) t else 0) (win + 1)) n := by
  by_cases h0 : n = 0
  · rw [TOT_n0 h0 (by omega), h0]
    rfl
  · unfold TOT
    rw [if_neg (by omega), if_neg (by omega), if_neg (by omega), if_neg (by omega), if_neg (by omega)]
    refine Eq.trans (sm_congr fun t _ => ?_) (sm_swap (fun t j => if win < t + ln j then Fa n ln fq ls (puP np pt pe) j t + Nw n ln fq ls (puP np pt pe) (j + 1) t else 0) (win + 1) n)
    have hl := hL.l1
    have e1 : sm (fun j => dJ n ln fq ls (puP np pt pe) (pcP np pt) win j t 4) (n + 1) = sm (fun j => dN n ln fq ls (puP np pt pe) win j t 4) (n + 1) + sm (fun j => dF n ln fq ls (puP np pt pe) (pcP np pt) win j t 4) (n + 1) := by
      rw [← sm_add]
      refine sm_congr fun j _ => ?_
      unfold dJ dL
      rw [if_neg (by omega)]
      rfl
    rw [e1, sm_shift, sm_s]
    have e2 : dN n ln fq ls (puP np pt pe) win 0 t 4 = 0 := by unfold dN; rw [if_neg (by omega)]
    have e3 : dF n ln fq ls (puP np pt pe) (pcP np pt) win n t 4 = 0 := by unfold dF; rw [if_neg (by omega)]
    rw [e2, e3, Nat.zero_add, Nat.add_zero, ← sm_add]
    refine sm_congr fun j hj => ?_
    have a1 : dN n ln fq ls (puP np pt pe) win (j + 1) t 4 = if win < t + ln j then Nw n ln fq ls (puP np pt pe) (j + 1) t else 0 := by
      unfold dN dSet
      rw [if_pos (by omega), if_neg (by omega), if_neg (by omega), if_neg (show ¬ (4 = 5) by decide), Nat.add_sub_cancel, Ne_eq hl, if_pos (show 1 ≤ j + 1 ∧ j + 1 ≤ n from ⟨by omega, by omega⟩)]
      by_cases q : win < t + ln j
      · rw [if_pos ⟨rfl, q⟩, if_pos q]; omega
      · rw [if_neg (fun w => q w.2), if_neg q]
    have a2 : dF n ln fq ls (puP np pt pe) (pcP np pt) win j t 4 = if win < t + ln j then Fa n ln fq ls (puP np pt pe) j t else 0 := by
      unfold dF dSet
      rw [if_pos hj, if_neg (by omega), if_neg (by omega), if_neg (show ¬ (4 = 5) by decide), Fa_eq hl, if_pos hj]
      by_cases q : win < t + ln j
      · rw [if_pos ⟨rfl, q⟩, if_pos q]; omega
      · rw [if_neg (fun w => q w.2), if_neg q]
    rw [a1, a2]
    by_cases q : win < t + ln j
    · rw [if_pos q, if_pos q, if_pos q]; omega
    · rw [if_neg q, if_neg q, if_neg q]
theorem dJ_small {j t i : Nat} (hi : i = 5 ∨ i = 6) : dJ n ln fq ls (puP np pt pe) (pcP np pt) win j t i ≤ 2 := by
  have m1 : ∀ j, mF n ln fq ls (puP np pt pe) (pcP np pt) j t ≤ 1 := fun j => by
    unfold mF
    split
    · exact ite01 _
    · exact ite01 _
  have m2 : ∀ j, mN n ln fq ls (puP np pt pe) j t ≤ 1 := fun j => by
    unfold mN
    exact ite01 _
  have m3 := m1 j
  have m4 := m2 j
  rcases hi with rfl | rfl
  · unfold dJ dN dF dL dSet
    rw [if_neg (show ¬ (5 = 2 ∧ j = n) by omega)]
    simp only [show ¬ ((5 : Nat) = 3) by decide, show ¬ ((5 : Nat) = 6) by decide, show ¬ ((5 : Nat) = 4) by decide, false_and, if_false, if_true]
    split <;> split <;> omega
  · unfold dJ dN dF dL dSet
    rw [if_neg (show ¬ (6 = 2 ∧ j = n) by omega)]
    simp only [show ¬ ((6 : Nat) = 3) by decide, show ¬ ((6 : Nat) = 5) by decide, show ¬ ((6 : Nat) = 4) by decide, false_and, true_and, if_false, if_true]
    have a1 := ite01 (0 < GN n ln fq ls (puP np pt pe) j t ∧ GN n ln fq ls (puP np pt pe) j t < ls)
    have a2 := ite01 (0 < GF n ln fq ls (puP np pt pe) j t ∧ GF n ln fq ls (puP np pt pe) j t < ls)
    by_cases c1 : 1 ≤ j <;> by_cases c2 : j < n <;> simp only [c1, c2, if_true, if_false] <;> omega
theorem TOT_small (hn : n ≤ 8) (hw : win ≤ 200) {i : Nat} (hi : i = 5 ∨ i = 6) : TOT n ln fq ls np pt pe win i ≤ 4000 := by
  unfold TOT
  rw [if_neg (by omega), if_neg (by omega), if_neg (by omega), if_neg (by omega), if_neg (by omega)]
  have h1 : sm (fun t => sm (fun j => dJ n ln fq ls (puP np pt pe) (pcP np pt) win j t i) (n + 1)) (win + 1) ≤ (win + 1) * 18 := sm_bound fun t _ => by
    have := sm_bound (f := fun j => dJ n ln fq ls (puP np pt pe) (pcP np pt) win j t i) (k := n + 1) (c := 2) fun j _ => dJ_small hi
    omega
  omega
end TOT
theorem ev_uwIn {b : Bn} (hb : b.OK) {m : Nat → Int64} (hm : m 19 = kL b.wn) {ℓ : Nat → Int32} (hℓ : ∀ k, k < b.n → ℓ k = kI (b.ln k)) {far near : Nat → Int64} (h : RTb b.n b.ln b.fq b.ls b.np b.pt b.pe (b.wn + 1) 0 far near) {j : Nat} (hj : j < b.n) (x : Nat) :
    Rl_underWay_15 m ℓ far near (kI j) FUEL (kL x) (kI 0) = some (kL (x + sm (fun t => if b.wn < t + b.ln j then Fa b.n b.ln b.fq b.ls (puP b.np b.pt b.pe) j t + Nw b.n b.ln b.fq b.ls (puP b.np b.pt b.pe) (j + 1) t else 0) (b.wn + 1))) := by
  have hn := hb.1
  have hw : b.wn ≤ 200 := hb.2.2.2.2.1.2
  have hl := hb.2.1 j hj
  obtain ⟨a, e, q⟩ := loop_gen (L := fun fu (s : Int64) x => Rl_underWay_15 m ℓ far near (kI j) fu s x) (fun i s => s = kL (x + sm (fun t => if b.wn < t + b.ln j then Fa b.n b.ln b.fq b.ls (puP b.np b.pt b.pe) j t + Nw b.n b.ln b.fq b.ls (puP b.np b.pt b.pe) (j + 1) t else 0) i)) (fun s => s = kL (x + sm (fun t => if b.wn < t + b.ln j then Fa b.n b.ln b.fq b.ls (puP b.np b.pt b.pe) j t + Nw b.n b.ln b.fq b.ls (puP b.np b.pt b.pe) (j + 1) t else 0) (b.wn + 1))) (b.wn + 1) (fun fu i s hi hs => by
      refine Or.inr ⟨_, ?_, rfl⟩
      have r1 := h.1 j i hj (by omega) (by omega)
      have r2 := h.2 (j + 1) i (by omega) (by omega) (by omega) (by omega)
      subst hs
      simp only [Rl_underWay_15, Rf_underWay_45, Rf_underWay_86]
      by_cases q : b.wn < i + b.ln j
      · simp (disch := omega) only [↓nm_eq, ↓bd_x, bdx_s, ↓bx_x, bxx_r, bxx_l, ↓bn_x, bnx_r, chk_t, ↓reduceIte, q32, q64, kI_lt_t, kI_lt_f, kI_le_t, kI_le_f, kI_eq_t, kI_eq_f, kL_lt_t, kL_lt_f, kL_le_t, kL_le_f, kL_eq_t, kL_eq_f, kI_m1, kI_m1', m1_m1, kI_n1, kI_n1', n1_add', eq_self, inb_t, kI_nat, kI_add, kI_mul, kI_sub, kI_div, kI_mod, kI_long, kL_add, kL_mul, kL_sub, kL_div, kL_mod, kL_int, n1_add, not_false_eq_true, not_true_eq_false, and_true, true_and, and_false, false_and, or_true, true_or, or_false, false_or, Nat.reduceEqDiff, ev_window hm, hℓ, r1, r2, sm_s, q]
        rw [Nat.add_assoc]
      · simp (disch := omega) only [↓nm_eq, ↓bd_x, bdx_s, ↓bx_x, bxx_r, bxx_l, ↓bn_x, bnx_r, chk_t, ↓reduceIte, q32, q64, kI_lt_t, kI_lt_f, kI_le_t, kI_le_f, kI_eq_t, kI_eq_f, kL_lt_t, kL_lt_f, kL_le_t, kL_le_f, kL_eq_t, kL_eq_f, kI_m1, kI_m1', m1_m1, kI_n1, kI_n1', n1_add', eq_self, inb_t, kI_nat, kI_add, kI_mul, kI_sub, kI_div, kI_mod, kI_long, kL_add, kL_mul, kL_sub, kL_div, kL_mod, kL_int, n1_add, not_false_eq_true, not_true_eq_false, and_true, true_and, and_false, false_and, or_true, true_or, or_false, false_or, Nat.reduceEqDiff, ev_window hm, hℓ, sm_s, q]
        rfl)
    (fun fu s hs => ⟨s, by simp only [Rl_underWay_15]; simp (disch := omega) only [↓nm_eq, ↓bd_x, bdx_s, ↓bx_x, bxx_r, bxx_l, ↓bn_x, bnx_r, chk_t, ↓reduceIte, q32, q64, kI_lt_t, kI_lt_f, kI_le_t, kI_le_f, kI_eq_t, kI_eq_f, kL_lt_t, kL_lt_f, kL_le_t, kL_le_f, kL_eq_t, kL_eq_f, kI_m1, kI_m1', m1_m1, kI_n1, kI_n1', n1_add', eq_self, inb_t, kI_nat, kI_add, kI_mul, kI_sub, kI_div, kI_mod, kI_long, kL_add, kL_mul, kL_sub, kL_div, kL_mod, kL_int, n1_add, not_false_eq_true, not_true_eq_false, and_true, true_and, and_false, false_and, or_true, true_or, or_false, false_or, Nat.reduceEqDiff, ev_window hm], hs⟩) FUEL 0 (kL x) (by have : FUEL = 4096 := rfl; omega) (by omega) rfl
  rw [← q]
  exact e
theorem ev_underWay {b : Bn} (hb : b.OK) {m : Nat → Int64} (hm : m 19 = kL b.wn) {ℓ : Nat → Int32} (hℓ : ∀ k, k < b.n → ℓ k = kI (b.ln k)) {far near : Nat → Int64} (h : RTb b.n b.ln b.fq b.ls b.np b.pt b.pe (b.wn + 1) 0 far near) :
    Rf_underWay m (kI b.n) ℓ far near = some (kL (b.TOTB 4)) := by
  have hn := hb.1
  unfold Rf_underWay
  rw [show b.TOTB 4 = _ from TOT4 (Bn.LOK hb)]
  obtain ⟨a, e, q⟩ := loop_gen (L := fun fu (s : Int64) x => Rl_underWay_4 m (kI b.n) ℓ far near fu s x) (fun i s => s = kL (sm (fun j => sm (fun t => if b.wn < t + b.ln j then Fa b.n b.ln b.fq b.ls (puP b.np b.pt b.pe) j t + Nw b.n b.ln b.fq b.ls (puP b.np b.pt b.pe) (j + 1) t else 0) (b.wn + 1)) i)) (fun s => s = kL (sm (fun j => sm (fun t => if b.wn < t + b.ln j then Fa b.n b.ln b.fq b.ls (puP b.np b.pt b.pe) j t + Nw b.n b.ln b.fq b.ls (puP b.np b.pt b.pe) (j + 1) t else 0) (b.wn + 1)) b.n)) b.n (fun fu i s hi hs => by
      refine Or.inr ⟨_, ?_, rfl⟩
      subst hs
      simp only [Rl_underWay_4]
      simp (disch := omega) only [↓nm_eq, ↓bd_x, bdx_s, ↓bx_x, bxx_r, bxx_l, ↓bn_x, bnx_r, chk_t, ↓reduceIte, q32, q64, kI_lt_t, kI_lt_f, kI_le_t, kI_le_f, kI_eq_t, kI_eq_f, kL_lt_t, kL_lt_f, kL_le_t, kL_le_f, kL_eq_t, kL_eq_f, kI_m1, kI_m1', m1_m1, kI_n1, kI_n1', n1_add', eq_self, inb_t, kI_nat, kI_add, kI_mul, kI_sub, kI_div, kI_mod, kI_long, kL_add, kL_mul, kL_sub, kL_div, kL_mod, kL_int, n1_add, not_false_eq_true, not_true_eq_false, and_true, true_and, and_false, false_and, or_true, true_or, or_false, false_or, Nat.reduceEqDiff, ev_uwIn hb hm hℓ h hi]
      rfl)
    (fun fu s hs => ⟨s, by simp only [Rl_underWay_4]; simp (disch := omega) only [↓nm_eq, ↓bd_x, bdx_s, ↓bx_x, bxx_r, bxx_l, ↓bn_x, bnx_r, chk_t, ↓reduceIte, q32, q64, kI_lt_t, kI_lt_f, kI_le_t, kI_le_f, kI_eq_t, kI_eq_f, kL_lt_t, kL_lt_f, kL_le_t, kL_le_f, kL_eq_t, kL_eq_f, kI_m1, kI_m1', m1_m1, kI_n1, kI_n1', n1_add', eq_self, inb_t, kI_nat, kI_add, kI_mul, kI_sub, kI_div, kI_mod, kI_long, kL_add, kL_mul, kL_sub, kL_div, kL_mod, kL_int, n1_add, not_false_eq_true, not_true_eq_false, and_true, true_and, and_false, false_and, or_true, true_or, or_false, false_or, Nat.reduceEqDiff], hs⟩) FUEL 0 (kL 0) (by have : FUEL = 4096 := rfl; omega) (by omega) rfl
  subst q
  rw [q64, q32, bd_e e]
theorem ev_totLoop {b : Bn} (hb : b.OK) {ech : Nat → Int64} (he : ∀ t, t < 201 → ech t = kL (b.ewB t)) {x1 : Int32} : Rl_totalOf_11 ech x1 FUEL (kL 0) (kL 0) (kI 0) (kI 0) = some (kL (sm b.ewB 201), kL (mx b.ewB 201), kI (sm (fun t => if 0 < b.ewB t then 1 else 0) 201)) := by
  have hle : ∀ t, b.ewB t ≤ 4000000 := fun t => ew_le (Bn.LOK hb) t
  obtain ⟨a, e, q⟩ := loop_gen (L := fun fu (s : Int64 × Int64 × Int32) x => Rl_totalOf_11 ech x1 fu s.1 s.2.1 s.2.2 x) (fun i s => s = (kL (sm b.ewB i), kL (mx b.ewB i), kI (sm (fun t => if 0 < b.ewB t then 1 else 0) i))) (fun s => s = (kL (sm b.ewB 201), kL (mx b.ewB 201), kI (sm (fun t => if 0 < b.ewB t then 1 else 0) 201))) 201 (fun fu i s hi hs => by
      refine Or.inr ⟨_, ?_, rfl⟩
      subst hs
      have h1 := hle i
      have h2 : mx b.ewB i ≤ 4000000 := mx_le fun t _ => hle t
      have h3 : mx b.ewB (i + 1) = if mx b.ewB i < b.ewB i then b.ewB i else mx b.ewB i := rfl
      simp only [Rl_totalOf_11, Rf_totalOf_54, Rf_totalOf_75]
      by_cases q : mx b.ewB i < b.ewB i
      · have p : 0 < b.ewB i := by omega
        simp (disch := omega) only [↓nm_eq, ↓bd_x, bdx_s, ↓bx_x, bxx_r, bxx_l, ↓bn_x, bnx_r, chk_t, ↓reduceIte, q32, q64, kI_lt_t, kI_lt_f, kI_le_t, kI_le_f, kI_eq_t, kI_eq_f, kL_lt_t, kL_lt_f, kL_le_t, kL_le_f, kL_eq_t, kL_eq_f, kI_m1, kI_m1', m1_m1, kI_n1, kI_n1', n1_add', eq_self, inb_t, kI_nat, kI_add, kI_mul, kI_sub, kI_div, kI_mod, kI_long, kL_add, kL_mul, kL_sub, kL_div, kL_mod, kL_int, n1_add, not_false_eq_true, not_true_eq_false, and_true, true_and, and_false, false_and, or_true, true_or, or_false, false_or, Nat.reduceEqDiff, he, sm_s, h3, q, p]
      · by_cases p : 0 < b.ewB i
        · simp (disch := omega) only [↓nm_eq, ↓bd_x, bdx_s, ↓bx_x, bxx_r, bxx_l, ↓bn_x, bnx_r, chk_t, ↓reduceIte, q32, q64, kI_lt_t, kI_lt_f, kI_le_t, kI_le_f, kI_eq_t, kI_eq_f, kL_lt_t, kL_lt_f, kL_le_t, kL_le_f, kL_eq_t, kL_eq_f, kI_m1, kI_m1', m1_m1, kI_n1, kI_n1', n1_add', eq_self, inb_t, kI_nat, kI_add, kI_mul, kI_sub, kI_div, kI_mod, kI_long, kL_add, kL_mul, kL_sub, kL_div, kL_mod, kL_int, n1_add, not_false_eq_true, not_true_eq_false, and_true, true_and, and_false, false_and, or_true, true_or, or_false, false_or, Nat.reduceEqDiff, he, sm_s, h3, q, p]
        · simp (disch := omega) only [↓nm_eq, ↓bd_x, bdx_s, ↓bx_x, bxx_r, bxx_l, ↓bn_x, bnx_r, chk_t, ↓reduceIte, q32, q64, kI_lt_t, kI_lt_f, kI_le_t, kI_le_f, kI_eq_t, kI_eq_f, kL_lt_t, kL_lt_f, kL_le_t, kL_le_f, kL_eq_t, kL_eq_f, kI_m1, kI_m1', m1_m1, kI_n1, kI_n1', n1_add', eq_self, inb_t, kI_nat, kI_add, kI_mul, kI_sub, kI_div, kI_mod, kI_long, kL_add, kL_mul, kL_sub, kL_div, kL_mod, kL_int, n1_add, not_false_eq_true, not_true_eq_false, and_true, true_and, and_false, false_and, or_true, true_or, or_false, false_or, Nat.reduceEqDiff, he, sm_s, h3, q, p])
    (fun fu s hs => ⟨s, by simp only [Rl_totalOf_11]; simp (disch := omega) only [↓nm_eq, ↓bd_x, bdx_s, ↓bx_x, bxx_r, bxx_l, ↓bn_x, bnx_r, chk_t, ↓reduceIte, q32, q64, kI_lt_t, kI_lt_f, kI_le_t, kI_le_f, kI_eq_t, kI_eq_f, kL_lt_t, kL_lt_f, kL_le_t, kL_le_f, kL_eq_t, kL_eq_f, kI_m1, kI_m1', m1_m1, kI_n1, kI_n1', n1_add', eq_self, inb_t, kI_nat, kI_add, kI_mul, kI_sub, kI_div, kI_mod, kI_long, kL_add, kL_mul, kL_sub, kL_div, kL_mod, kL_int, n1_add, not_false_eq_true, not_true_eq_false, and_true, true_and, and_false, false_and, or_true, true_or, or_false, false_or, Nat.reduceEqDiff], hs⟩) FUEL 0 (kL 0, kL 0, kI 0) (by have : FUEL = 4096 := rfl; omega) (by omega) rfl
  rw [← q]
  exact e
theorem ev_totPulses {b : Bn} (hb : b.OK) {m : Nat → Int64} (hm : m 19 = kL b.wn) {tm : Nat → Int32} {en : Nat → Int64} (h1 : ∀ k, k < b.np → tm k = kI (b.pt k)) (h2 : ∀ k, k < b.np → en k = kL (b.pe k)) {x1 x6 : Int32} {x2 x4 : Int64} : Rl_totalOf_90 m (kI b.np) tm en x1 x2 x4 x6 FUEL (kL 0) (kI 0) = some (kL (seP b.np b.pt b.pe b.wn)) := by
  have hn : b.np ≤ 4 := hb.2.2.2.2.2.2.1
  have hw : b.wn ≤ 200 := hb.2.2.2.2.1.2
  have hp := hb.2.2.2.2.2.2.2
  obtain ⟨a, e, q⟩ := loop_gen (L := fun fu (s : Int64) x => Rl_totalOf_90 m (kI b.np) tm en x1 x2 x4 x6 fu s x) (fun i s => s = kL (sm (fun i => if b.pt i ≤ b.wn then b.pe i else 0) i)) (fun s => s = kL (seP b.np b.pt b.pe b.wn)) b.np (fun fu i s hi hs => by
      refine Or.inr ⟨_, ?_, rfl⟩
      subst hs
      have h3 := (hp i hi).1
      simp only [Rl_totalOf_90, Rf_totalOf_126]
      by_cases q : b.pt i ≤ b.wn
      · simp (disch := omega) only [↓nm_eq, ↓bd_x, bdx_s, ↓bx_x, bxx_r, bxx_l, ↓bn_x, bnx_r, chk_t, ↓reduceIte, q32, q64, kI_lt_t, kI_lt_f, kI_le_t, kI_le_f, kI_eq_t, kI_eq_f, kL_lt_t, kL_lt_f, kL_le_t, kL_le_f, kL_eq_t, kL_eq_f, kI_m1, kI_m1', m1_m1, kI_n1, kI_n1', n1_add', eq_self, inb_t, kI_nat, kI_add, kI_mul, kI_sub, kI_div, kI_mod, kI_long, kL_add, kL_mul, kL_sub, kL_div, kL_mod, kL_int, n1_add, not_false_eq_true, not_true_eq_false, and_true, true_and, and_false, false_and, or_true, true_or, or_false, false_or, Nat.reduceEqDiff, ev_window hm, h1, h2, sm_s, q]
      · simp (disch := omega) only [↓nm_eq, ↓bd_x, bdx_s, ↓bx_x, bxx_r, bxx_l, ↓bn_x, bnx_r, chk_t, ↓reduceIte, q32, q64, kI_lt_t, kI_lt_f, kI_le_t, kI_le_f, kI_eq_t, kI_eq_f, kL_lt_t, kL_lt_f, kL_le_t, kL_le_f, kL_eq_t, kL_eq_f, kI_m1, kI_m1', m1_m1, kI_n1, kI_n1', n1_add', eq_self, inb_t, kI_nat, kI_add, kI_mul, kI_sub, kI_div, kI_mod, kI_long, kL_add, kL_mul, kL_sub, kL_div, kL_mod, kL_int, n1_add, not_false_eq_true, not_true_eq_false, and_true, true_and, and_false, false_and, or_true, true_or, or_false, false_or, Nat.reduceEqDiff, ev_window hm, h1, h2, sm_s, q])
    (fun fu s hs => ⟨s, by simp only [Rl_totalOf_90]; simp (disch := omega) only [↓nm_eq, ↓bd_x, bdx_s, ↓bx_x, bxx_r, bxx_l, ↓bn_x, bnx_r, chk_t, ↓reduceIte, q32, q64, kI_lt_t, kI_lt_f, kI_le_t, kI_le_f, kI_eq_t, kI_eq_f, kL_lt_t, kL_lt_f, kL_le_t, kL_le_f, kL_eq_t, kL_eq_f, kI_m1, kI_m1', m1_m1, kI_n1, kI_n1', n1_add', eq_self, inb_t, kI_nat, kI_add, kI_mul, kI_sub, kI_div, kI_mod, kI_long, kL_add, kL_mul, kL_sub, kL_div, kL_mod, kL_int, n1_add, not_false_eq_true, not_true_eq_false, and_true, true_and, and_false, false_and, or_true, true_or, or_false, false_or, Nat.reduceEqDiff], hs⟩) FUEL 0 (kL 0) (by have : FUEL = 4096 := rfl; omega) (by omega) rfl
  rw [← q]
  exact e
theorem cnt_le (f : Nat → Nat) (k : Nat) : sm (fun t => if 0 < f t then 1 else 0) k ≤ k := by
  have := sm_bound (f := fun t => if 0 < f t then 1 else 0) (k := k) (c := 1) fun t _ => by split <;> omega
  omega
theorem ev_totalOf {b : Bn} (hb : b.OK) {m : Nat → Int64} (hm : m 19 = kL b.wn) {ℓ φ tm : Nat → Int32} {en : Nat → Int64} (hl : LD b ℓ φ tm en) {far near ech : Nat → Int64} {lf dr : Int64} {mg ds : Int32} (hr : b.RRB far near ech lf dr mg ds) {i : Nat} (hi : i < 9) : Rf_totalOf m (kI b.n) ℓ (kI b.np) tm en far near ech lf dr mg ds (kI i) = some (kL (b.TOTB i)) := by
  have hw : b.wn ≤ 200 := hb.2.2.2.2.1.2
  obtain ⟨l1, l2, l3, l4⟩ := hl
  obtain ⟨r1, r2, r3, r4, r5, r6⟩ := hr
  have t5 : TOT b.n b.ln b.fq b.ls b.np b.pt b.pe b.wn 5 ≤ 4000 := TOT_small hb.1 hw (by omega)
  have t6 : TOT b.n b.ln b.fq b.ls b.np b.pt b.pe b.wn 6 ≤ 4000 := TOT_small hb.1 hw (by omega)
  have t7 := cnt_le b.ewB 201
  unfold Rf_totalOf
  rw [q64, q32, ev_totLoop hb r2, bd_s]
  (try dsimp only)
  rw [ev_totPulses hb hm l3 l4, bd_s]
  obtain rfl | rfl | rfl | rfl | rfl | rfl | rfl | rfl | rfl : i = 0 ∨ i = 1 ∨ i = 2 ∨ i = 3 ∨ i = 4 ∨ i = 5 ∨ i = 6 ∨ i = 7 ∨ i = 8 := by omega
  · simp (disch := omega) only [↓nm_eq, ↓bd_x, bdx_s, ↓bx_x, bxx_r, bxx_l, ↓bn_x, bnx_r, chk_t, ↓reduceIte, q32, q64, kI_lt_t, kI_lt_f, kI_le_t, kI_le_f, kI_eq_t, kI_eq_f, kL_lt_t, kL_lt_f, kL_le_t, kL_le_f, kL_eq_t, kL_eq_f, kI_m1, kI_m1', m1_m1, kI_n1, kI_n1', n1_add', eq_self, inb_t, kI_nat, kI_add, kI_mul, kI_sub, kI_div, kI_mod, kI_long, kL_add, kL_mul, kL_sub, kL_div, kL_mod, kL_int, n1_add, not_false_eq_true, not_true_eq_false, and_true, true_and, and_false, false_and, or_true, true_or, or_false, false_or, Nat.reduceEqDiff]
    rfl
  · simp (disch := omega) only [↓nm_eq, ↓bd_x, bdx_s, ↓bx_x, bxx_r, bxx_l, ↓bn_x, bnx_r, chk_t, ↓reduceIte, q32, q64, kI_lt_t, kI_lt_f, kI_le_t, kI_le_f, kI_eq_t, kI_eq_f, kL_lt_t, kL_lt_f, kL_le_t, kL_le_f, kL_eq_t, kL_eq_f, kI_m1, kI_m1', m1_m1, kI_n1, kI_n1', n1_add', eq_self, inb_t, kI_nat, kI_add, kI_mul, kI_sub, kI_div, kI_mod, kI_long, kL_add, kL_mul, kL_sub, kL_div, kL_mod, kL_int, n1_add, not_false_eq_true, not_true_eq_false, and_true, true_and, and_false, false_and, or_true, true_or, or_false, false_or, Nat.reduceEqDiff]
    rfl
  · simp (disch := omega) only [↓nm_eq, ↓bd_x, bdx_s, ↓bx_x, bxx_r, bxx_l, ↓bn_x, bnx_r, chk_t, ↓reduceIte, q32, q64, kI_lt_t, kI_lt_f, kI_le_t, kI_le_f, kI_eq_t, kI_eq_f, kL_lt_t, kL_lt_f, kL_le_t, kL_le_f, kL_eq_t, kL_eq_f, kI_m1, kI_m1', m1_m1, kI_n1, kI_n1', n1_add', eq_self, inb_t, kI_nat, kI_add, kI_mul, kI_sub, kI_div, kI_mod, kI_long, kL_add, kL_mul, kL_sub, kL_div, kL_mod, kL_int, n1_add, not_false_eq_true, not_true_eq_false, and_true, true_and, and_false, false_and, or_true, true_or, or_false, false_or, Nat.reduceEqDiff, r3]
  · simp (disch := omega) only [↓nm_eq, ↓bd_x, bdx_s, ↓bx_x, bxx_r, bxx_l, ↓bn_x, bnx_r, chk_t, ↓reduceIte, q32, q64, kI_lt_t, kI_lt_f, kI_le_t, kI_le_f, kI_eq_t, kI_eq_f, kL_lt_t, kL_lt_f, kL_le_t, kL_le_f, kL_eq_t, kL_eq_f, kI_m1, kI_m1', m1_m1, kI_n1, kI_n1', n1_add', eq_self, inb_t, kI_nat, kI_add, kI_mul, kI_sub, kI_div, kI_mod, kI_long, kL_add, kL_mul, kL_sub, kL_div, kL_mod, kL_int, n1_add, not_false_eq_true, not_true_eq_false, and_true, true_and, and_false, false_and, or_true, true_or, or_false, false_or, Nat.reduceEqDiff, r4]
  · simp (disch := omega) only [↓nm_eq, ↓bd_x, bdx_s, ↓bx_x, bxx_r, bxx_l, ↓bn_x, bnx_r, chk_t, ↓reduceIte, q32, q64, kI_lt_t, kI_lt_f, kI_le_t, kI_le_f, kI_eq_t, kI_eq_f, kL_lt_t, kL_lt_f, kL_le_t, kL_le_f, kL_eq_t, kL_eq_f, kI_m1, kI_m1', m1_m1, kI_n1, kI_n1', n1_add', eq_self, inb_t, kI_nat, kI_add, kI_mul, kI_sub, kI_div, kI_mod, kI_long, kL_add, kL_mul, kL_sub, kL_div, kL_mod, kL_int, n1_add, not_false_eq_true, not_true_eq_false, and_true, true_and, and_false, false_and, or_true, true_or, or_false, false_or, Nat.reduceEqDiff, ev_underWay hb hm l1 r1]
  · simp (disch := omega) only [↓nm_eq, ↓bd_x, bdx_s, ↓bx_x, bxx_r, bxx_l, ↓bn_x, bnx_r, chk_t, ↓reduceIte, q32, q64, kI_lt_t, kI_lt_f, kI_le_t, kI_le_f, kI_eq_t, kI_eq_f, kL_lt_t, kL_lt_f, kL_le_t, kL_le_f, kL_eq_t, kL_eq_f, kI_m1, kI_m1', m1_m1, kI_n1, kI_n1', n1_add', eq_self, inb_t, kI_nat, kI_add, kI_mul, kI_sub, kI_div, kI_mod, kI_long, kL_add, kL_mul, kL_sub, kL_div, kL_mod, kL_int, n1_add, not_false_eq_true, not_true_eq_false, and_true, true_and, and_false, false_and, or_true, true_or, or_false, false_or, Nat.reduceEqDiff, r5]
  · simp (disch := omega) only [↓nm_eq, ↓bd_x, bdx_s, ↓bx_x, bxx_r, bxx_l, ↓bn_x, bnx_r, chk_t, ↓reduceIte, q32, q64, kI_lt_t, kI_lt_f, kI_le_t, kI_le_f, kI_eq_t, kI_eq_f, kL_lt_t, kL_lt_f, kL_le_t, kL_le_f, kL_eq_t, kL_eq_f, kI_m1, kI_m1', m1_m1, kI_n1, kI_n1', n1_add', eq_self, inb_t, kI_nat, kI_add, kI_mul, kI_sub, kI_div, kI_mod, kI_long, kL_add, kL_mul, kL_sub, kL_div, kL_mod, kL_int, n1_add, not_false_eq_true, not_true_eq_false, and_true, true_and, and_false, false_and, or_true, true_or, or_false, false_or, Nat.reduceEqDiff, r6]
  · simp (disch := omega) only [↓nm_eq, ↓bd_x, bdx_s, ↓bx_x, bxx_r, bxx_l, ↓bn_x, bnx_r, chk_t, ↓reduceIte, q32, q64, kI_lt_t, kI_lt_f, kI_le_t, kI_le_f, kI_eq_t, kI_eq_f, kL_lt_t, kL_lt_f, kL_le_t, kL_le_f, kL_eq_t, kL_eq_f, kI_m1, kI_m1', m1_m1, kI_n1, kI_n1', n1_add', eq_self, inb_t, kI_nat, kI_add, kI_mul, kI_sub, kI_div, kI_mod, kI_long, kL_add, kL_mul, kL_sub, kL_div, kL_mod, kL_int, n1_add, not_false_eq_true, not_true_eq_false, and_true, true_and, and_false, false_and, or_true, true_or, or_false, false_or, Nat.reduceEqDiff]
    rfl
  · simp (disch := omega) only [↓nm_eq, ↓bd_x, bdx_s, ↓bx_x, bxx_r, bxx_l, ↓bn_x, bnx_r, chk_t, ↓reduceIte, q32, q64, kI_lt_t, kI_lt_f, kI_le_t, kI_le_f, kI_eq_t, kI_eq_f, kL_lt_t, kL_lt_f, kL_le_t, kL_le_f, kL_eq_t, kL_eq_f, kI_m1, kI_m1', m1_m1, kI_n1, kI_n1', n1_add', eq_self, inb_t, kI_nat, kI_add, kI_mul, kI_sub, kI_div, kI_mod, kI_long, kL_add, kL_mul, kL_sub, kL_div, kL_mod, kL_int, n1_add, not_false_eq_true, not_true_eq_false, and_true, true_and, and_false, false_and, or_true, true_or, or_false, false_or, Nat.reduceEqDiff]
    rfl
