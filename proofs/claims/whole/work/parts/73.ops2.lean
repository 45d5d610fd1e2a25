theorem nI_k (n : Nat) : nI n = kI n := Eq.symm (Eq.symm rfl)
def vd (κ : Nat) (b : Bn) (x1 x2 x3 : Int32) : Nat := if κ = 0 then vAdd b x1 x2 else if κ = 1 then vSet b x1 x2 x3 else if κ = 2 then vCut b x1 else if κ = 3 then vSpl b x1 x2 x3 else if κ = 4 then vPul b x1 x2 else 0
def eb (κ : Nat) (b : Bn) (x1 x2 x3 : Int32) : Bn := if κ = 0 then addB b x1.toNatClampNeg x2.toNatClampNeg else if κ = 1 then setB b x1.toNatClampNeg x2.toNatClampNeg x3.toNatClampNeg else if κ = 2 then cutB b x1.toNatClampNeg else if κ = 3 then splB b x1.toNatClampNeg x2.toNatClampNeg x3.toNatClampNeg else apB b x1.toNatClampNeg x2.toNatClampNeg
def an (κ : Nat) (b : Bn) (x1 : Int32) : Int32 := if κ = 0 then kI (b.n + 1) else if κ = 1 then kI (b.fr x1.toNatClampNeg) else if κ = 2 then kI (b.n - 1) else if κ = 3 then kI (b.n + 1) else kI (b.np + 1)
theorem vd_3 (κ : Nat) (b : Bn) (x1 x2 x3 : Int32) : vd κ b x1 x2 x3 ≤ 3 := by
  unfold vd vAdd vSet vCut vSpl vPul
  repeat' split
  all_goals omega
section OPS2
variable {σ : SS} {c : CK} {d : RK} {κ : Nat} {x1 x2 x3 : Int32}
theorem op_verdict (hC : CR σ c) (hκ : κ < 8) : Cf_L_verdictOn c.n.count c.n.pulses c.n.lengths κ x1 x2 x3 = some (vd κ σ.s.b x1 x2 x3) := by
  obtain ⟨hO, hn, hh, hsc, hw, hp⟩ := hC
  obtain ⟨⟨n1, n2, n3, n4, n5, n6, n7, n8, n9⟩, n10, n11⟩ := hn
  have hb := hO.1.1
  have e8 : (κ < 8) = True := eq_true hκ
  unfold Cf_L_verdictOn vd
  rw [n1, n5]
  obtain rfl | rfl | rfl | rfl | rfl | h5 : κ = 0 ∨ κ = 1 ∨ κ = 2 ∨ κ = 3 ∨ κ = 4 ∨ 5 ≤ κ := by omega
  · simp (disch := omega) only [↓nm_eq, ↓bd_x, bdx_s, ↓bx_x, bxx_r, bxx_l, ↓bn_x, bnx_r, chk_t, ↓reduceIte, q32, q64, kI_lt_t, kI_lt_f, kI_le_t, kI_le_f, kI_eq_t, kI_eq_f, kL_lt_t, kL_lt_f, kL_le_t, kL_le_f, kL_eq_t, kL_eq_f, kI_m1, kI_m1', m1_m1, kI_n1, kI_n1', n1_add', eq_self, inb_t, kI_nat, kI_add, kI_mul, kI_sub, kI_div, kI_mod, kI_long, kL_add, kL_mul, kL_sub, kL_div, kL_mod, kL_int, n1_add, not_false_eq_true, not_true_eq_false, and_true, true_and, and_false, false_and, or_true, true_or, or_false, false_or, Nat.reduceEqDiff, IN, IM, e8, nI_k, ev_vAdd hb]
  · simp (disch := omega) only [↓nm_eq, ↓bd_x, bdx_s, ↓bx_x, bxx_r, bxx_l, ↓bn_x, bnx_r, chk_t, ↓reduceIte, q32, q64, kI_lt_t, kI_lt_f, kI_le_t, kI_le_f, kI_eq_t, kI_eq_f, kL_lt_t, kL_lt_f, kL_le_t, kL_le_f, kL_eq_t, kL_eq_f, kI_m1, kI_m1', m1_m1, kI_n1, kI_n1', n1_add', eq_self, inb_t, kI_nat, kI_add, kI_mul, kI_sub, kI_div, kI_mod, kI_long, kL_add, kL_mul, kL_sub, kL_div, kL_mod, kL_int, n1_add, not_false_eq_true, not_true_eq_false, and_true, true_and, and_false, false_and, or_true, true_or, or_false, false_or, Nat.reduceEqDiff, IN, IM, e8, nI_k, ev_vSet hb]
  · simp (disch := omega) only [↓nm_eq, ↓bd_x, bdx_s, ↓bx_x, bxx_r, bxx_l, ↓bn_x, bnx_r, chk_t, ↓reduceIte, q32, q64, kI_lt_t, kI_lt_f, kI_le_t, kI_le_f, kI_eq_t, kI_eq_f, kL_lt_t, kL_lt_f, kL_le_t, kL_le_f, kL_eq_t, kL_eq_f, kI_m1, kI_m1', m1_m1, kI_n1, kI_n1', n1_add', eq_self, inb_t, kI_nat, kI_add, kI_mul, kI_sub, kI_div, kI_mod, kI_long, kL_add, kL_mul, kL_sub, kL_div, kL_mod, kL_int, n1_add, not_false_eq_true, not_true_eq_false, and_true, true_and, and_false, false_and, or_true, true_or, or_false, false_or, Nat.reduceEqDiff, IN, IM, e8, nI_k, ev_vCut hb]
  · simp (disch := omega) only [↓nm_eq, ↓bd_x, bdx_s, ↓bx_x, bxx_r, bxx_l, ↓bn_x, bnx_r, chk_t, ↓reduceIte, q32, q64, kI_lt_t, kI_lt_f, kI_le_t, kI_le_f, kI_eq_t, kI_eq_f, kL_lt_t, kL_lt_f, kL_le_t, kL_le_f, kL_eq_t, kL_eq_f, kI_m1, kI_m1', m1_m1, kI_n1, kI_n1', n1_add', eq_self, inb_t, kI_nat, kI_add, kI_mul, kI_sub, kI_div, kI_mod, kI_long, kL_add, kL_mul, kL_sub, kL_div, kL_mod, kL_int, n1_add, not_false_eq_true, not_true_eq_false, and_true, true_and, and_false, false_and, or_true, true_or, or_false, false_or, Nat.reduceEqDiff, IN, IM, e8, nI_k, ev_vSpl hb n6]
  · simp (disch := omega) only [↓nm_eq, ↓bd_x, bdx_s, ↓bx_x, bxx_r, bxx_l, ↓bn_x, bnx_r, chk_t, ↓reduceIte, q32, q64, kI_lt_t, kI_lt_f, kI_le_t, kI_le_f, kI_eq_t, kI_eq_f, kL_lt_t, kL_lt_f, kL_le_t, kL_le_f, kL_eq_t, kL_eq_f, kI_m1, kI_m1', m1_m1, kI_n1, kI_n1', n1_add', eq_self, inb_t, kI_nat, kI_add, kI_mul, kI_sub, kI_div, kI_mod, kI_long, kL_add, kL_mul, kL_sub, kL_div, kL_mod, kL_int, n1_add, not_false_eq_true, not_true_eq_false, and_true, true_and, and_false, false_and, or_true, true_or, or_false, false_or, Nat.reduceEqDiff, IN, IM, e8, nI_k, ev_vPul hb]
  · rw [if_neg (by omega), if_neg (by omega), if_neg (by omega), if_neg (by omega), if_neg (by omega)]
    simp (disch := omega) only [↓nm_eq, ↓bd_x, bdx_s, ↓bx_x, bxx_r, bxx_l, ↓bn_x, bnx_r, chk_t, ↓reduceIte, q32, q64, kI_lt_t, kI_lt_f, kI_le_t, kI_le_f, kI_eq_t, kI_eq_f, kL_lt_t, kL_lt_f, kL_le_t, kL_le_f, kL_eq_t, kL_eq_f, kI_m1, kI_m1', m1_m1, kI_n1, kI_n1', n1_add', eq_self, inb_t, kI_nat, kI_add, kI_mul, kI_sub, kI_div, kI_mod, kI_long, kL_add, kL_mul, kL_sub, kL_div, kL_mod, kL_int, n1_add, not_false_eq_true, not_true_eq_false, and_true, true_and, and_false, false_and, or_true, true_or, or_false, false_or, Nat.reduceEqDiff, IN, IM, e8, nI_k]
theorem op_edit (hC : CR σ c) (hκ : κ < 5) (hv : vd κ σ.s.b x1 x2 x3 = 0) {wf pf : Int32} : ∃ (cn np : Int32) (ℓ φ pt pe : Nat → Int32), Cf_L_changeBench wf pf c.n.count c.n.pulses c.n.lengths c.n.fractions c.n.pulseTimes c.n.pulseEnergies κ x1 x2 x3 = some (kI 0, kI 0, cn, np, ℓ, φ, pt, pe, an κ σ.s.b x1) ∧ (eb κ σ.s.b x1 x2 x3).OK ∧ SC.R (SC.mk cn c.n.front c.n.least c.n.window np ℓ φ pt pe c.n.sound c.n.seen) (σ.s.wb (eb κ σ.s.b x1 x2 x3)) := by
  obtain ⟨hO, hn, hh, hsc, hw, hp⟩ := hC
  obtain ⟨⟨n1, n2, n3, n4, n5, n6, n7, n8, n9⟩, n10, n11⟩ := hn
  have hb := hO.1.1
  have hnn := hb.1
  have hnp : σ.s.b.np ≤ 4 := hb.2.2.2.2.2.2.1
  have e8 : (κ < 8) = True := eq_true (by omega)
  unfold Cf_L_changeBench Cf_L_forgetResults
  rw [n1, n5]
  unfold vd at hv
  unfold eb an
  obtain rfl | rfl | rfl | rfl | rfl : κ = 0 ∨ κ = 1 ∨ κ = 2 ∨ κ = 3 ∨ κ = 4 := by omega
  · rw [if_pos rfl] at hv
    rw [if_pos rfl, if_pos rfl]
    unfold vAdd at hv
    by_cases w : IN x1 1 20 ∧ IN x2 0 1000
    · rw [if_pos w] at hv
      by_cases w2 : σ.s.b.n = 8
      · rw [if_pos w2] at hv; omega
      · obtain ⟨a, a1, a2, a3, a4⟩ := IN_nat w.1
        obtain ⟨b, b1, b2, b3, b4⟩ := IN_nat w.2
        subst a2
        subst b2
        rw [kI_nat a1, kI_nat b1]
        refine ⟨kI (σ.s.b.n + 1), kI σ.s.b.np, upd c.n.lengths σ.s.b.n (kI a), upd c.n.fractions σ.s.b.n (kI b), c.n.pulseTimes, c.n.pulseEnergies, ?_, addB_OK hb (by omega) a3 a4 b4, ⟨⟨rfl, n2, n3, n4, rfl, fun k hk => ?_, fun k hk => ?_, n8, n9⟩, n10, n11⟩⟩
        · simp (disch := omega) only [↓nm_eq, ↓bd_x, bdx_s, ↓bx_x, bxx_r, bxx_l, ↓bn_x, bnx_r, chk_t, ↓reduceIte, q32, q64, kI_lt_t, kI_lt_f, kI_le_t, kI_le_f, kI_eq_t, kI_eq_f, kL_lt_t, kL_lt_f, kL_le_t, kL_le_f, kL_eq_t, kL_eq_f, kI_m1, kI_m1', m1_m1, kI_n1, kI_n1', n1_add', eq_self, inb_t, kI_nat, kI_add, kI_mul, kI_sub, kI_div, kI_mod, kI_long, kL_add, kL_mul, kL_sub, kL_div, kL_mod, kL_int, n1_add, not_false_eq_true, not_true_eq_false, and_true, true_and, and_false, false_and, or_true, true_or, or_false, false_or, Nat.reduceEqDiff, IN, IM, e8, nI_k, ev_appendN (show σ.s.b.n < 8 by omega)]
        · have hk' : k < σ.s.b.n + 1 := hk
          show _ = kI (upN σ.s.b.ln σ.s.b.n a k)
          by_cases e : k = σ.s.b.n
          · rw [e, upN_at]; exact up32_at
          · rw [upN_ne e]; exact (up32_ne e).trans (n6 k (by omega))
        · have hk' : k < σ.s.b.n + 1 := hk
          show _ = kI (upN σ.s.b.fr σ.s.b.n b k)
          by_cases e : k = σ.s.b.n
          · rw [e, upN_at]; exact up32_at
          · rw [upN_ne e]; exact (up32_ne e).trans (n7 k (by omega))
    · rw [if_neg w] at hv; omega
  · rw [if_neg (by omega), if_pos rfl] at hv
    rw [if_neg (by omega), if_pos rfl, if_neg (by omega), if_pos rfl]
    unfold vSet at hv
    by_cases w0 : IM x1 0 σ.s.b.n
    · rw [if_pos w0] at hv
      by_cases w : IN x2 1 20 ∧ IN x3 0 1000
      · obtain ⟨k0, k1, k2, k3, k4⟩ := IM_nat w0
        obtain ⟨a, a1, a2, a3, a4⟩ := IN_nat w.1
        obtain ⟨b, b1, b2, b3, b4⟩ := IN_nat w.2
        subst k2
        subst a2
        subst b2
        rw [kI_nat a1, kI_nat b1, kI_nat k1]
        refine ⟨kI σ.s.b.n, kI σ.s.b.np, upd c.n.lengths k0 (kI a), upd c.n.fractions k0 (kI b), c.n.pulseTimes, c.n.pulseEnergies, ?_, setB_OK hb k4 a3 a4 b4, ⟨⟨rfl, n2, n3, n4, rfl, fun k hk => ?_, fun k hk => ?_, n8, n9⟩, n10, n11⟩⟩
        · simp (disch := omega) only [↓nm_eq, ↓bd_x, bdx_s, ↓bx_x, bxx_r, bxx_l, ↓bn_x, bnx_r, chk_t, ↓reduceIte, q32, q64, kI_lt_t, kI_lt_f, kI_le_t, kI_le_f, kI_eq_t, kI_eq_f, kL_lt_t, kL_lt_f, kL_le_t, kL_le_f, kL_eq_t, kL_eq_f, kI_m1, kI_m1', m1_m1, kI_n1, kI_n1', n1_add', eq_self, inb_t, kI_nat, kI_add, kI_mul, kI_sub, kI_div, kI_mod, kI_long, kL_add, kL_mul, kL_sub, kL_div, kL_mod, kL_int, n1_add, not_false_eq_true, not_true_eq_false, and_true, true_and, and_false, false_and, or_true, true_or, or_false, false_or, Nat.reduceEqDiff, IN, IM, e8, nI_k, ev_replaceN (show k0 < 8 by omega), n7]
        · have hk' : k < σ.s.b.n := hk
          show _ = kI (upN σ.s.b.ln k0 a k)
          by_cases e : k = k0
          · rw [e, upN_at]; exact up32_at
          · rw [upN_ne e]; exact (up32_ne e).trans (n6 k (by omega))
        · have hk' : k < σ.s.b.n := hk
          show _ = kI (upN σ.s.b.fr k0 b k)
          by_cases e : k = k0
          · rw [e, upN_at]; exact up32_at
          · rw [upN_ne e]; exact (up32_ne e).trans (n7 k (by omega))
      · rw [if_neg w] at hv; omega
    · rw [if_neg w0] at hv; omega
  · rw [if_neg (by omega), if_neg (by omega), if_pos rfl] at hv
    rw [if_neg (by omega), if_neg (by omega), if_pos rfl, if_neg (by omega), if_neg (by omega), if_pos rfl]
    unfold vCut at hv
    by_cases w0 : IM x1 0 σ.s.b.n
    · obtain ⟨k0, k1, k2, k3, k4⟩ := IM_nat w0
      subst k2
      rw [kI_nat k1]
      refine ⟨kI (σ.s.b.n - 1), kI σ.s.b.np, (fun j => if k0 ≤ j ∧ j < σ.s.b.n - 1 then c.n.lengths (j + 1) else c.n.lengths j), (fun j => if k0 ≤ j ∧ j < σ.s.b.n - 1 then c.n.fractions (j + 1) else c.n.fractions j), c.n.pulseTimes, c.n.pulseEnergies, by simp (disch := omega) only [↓nm_eq, ↓bd_x, bdx_s, ↓bx_x, bxx_r, bxx_l, ↓bn_x, bnx_r, chk_t, ↓reduceIte, q32, q64, kI_lt_t, kI_lt_f, kI_le_t, kI_le_f, kI_eq_t, kI_eq_f, kL_lt_t, kL_lt_f, kL_le_t, kL_le_f, kL_eq_t, kL_eq_f, kI_m1, kI_m1', m1_m1, kI_n1, kI_n1', n1_add', eq_self, inb_t, kI_nat, kI_add, kI_mul, kI_sub, kI_div, kI_mod, kI_long, kL_add, kL_mul, kL_sub, kL_div, kL_mod, kL_int, n1_add, not_false_eq_true, not_true_eq_false, and_true, true_and, and_false, false_and, or_true, true_or, or_false, false_or, Nat.reduceEqDiff, IN, IM, e8, nI_k, ev_cutN k4 hnn], cutB_OK hb k4, ⟨⟨rfl, n2, n3, n4, rfl, fun k hk => ?_, fun k hk => ?_, n8, n9⟩, n10, n11⟩⟩
      · have hk' : k < σ.s.b.n - 1 := hk
        show (if k0 ≤ k ∧ k < σ.s.b.n - 1 then c.n.lengths (k + 1) else c.n.lengths k) = kI (if k0 ≤ k ∧ k < σ.s.b.n - 1 then σ.s.b.ln (k + 1) else σ.s.b.ln k)
        by_cases e : k0 ≤ k ∧ k < σ.s.b.n - 1
        · rw [if_pos e, if_pos e]; exact n6 _ (by omega)
        · rw [if_neg e, if_neg e]; exact n6 _ (by omega)
      · have hk' : k < σ.s.b.n - 1 := hk
        show (if k0 ≤ k ∧ k < σ.s.b.n - 1 then c.n.fractions (k + 1) else c.n.fractions k) = kI (if k0 ≤ k ∧ k < σ.s.b.n - 1 then σ.s.b.fr (k + 1) else σ.s.b.fr k)
        by_cases e : k0 ≤ k ∧ k < σ.s.b.n - 1
        · rw [if_pos e, if_pos e]; exact n7 _ (by omega)
        · rw [if_neg e, if_neg e]; exact n7 _ (by omega)
    · rw [if_neg w0] at hv; omega
  · rw [if_neg (by omega), if_neg (by omega), if_neg (by omega), if_pos rfl] at hv
    rw [if_neg (by omega), if_neg (by omega), if_neg (by omega), if_pos rfl, if_neg (by omega), if_neg (by omega), if_neg (by omega), if_pos rfl]
    unfold vSpl at hv
    by_cases w0 : IM x1 0 σ.s.b.n
    · rw [if_pos w0] at hv
      by_cases w : IM x2 1 (σ.s.b.ln x1.toNatClampNeg) ∧ IN x3 0 1000
      · rw [if_pos w] at hv
        by_cases w2 : σ.s.b.n = 8
        · rw [if_pos w2] at hv; omega
        · obtain ⟨k0, k1, k2, k3, k4⟩ := IM_nat w0
          obtain ⟨a, a1, a2, a3, a4⟩ := IM_nat w.1
          obtain ⟨b, b1, b2, b3, b4⟩ := IN_nat w.2
          subst k2
          subst a2
          subst b2
          rw [kI_nat k1] at a4
          rw [kI_nat a1, kI_nat b1, kI_nat k1]
          have hl := hb.2.1 k0 k4
          refine ⟨kI (σ.s.b.n + 1), kI σ.s.b.np, upd (upd (fun j => if k0 < j ∧ j ≤ σ.s.b.n then c.n.lengths (j - 1) else c.n.lengths j) k0 (kI a)) (k0 + 1) (c.n.lengths k0 - kI a), upd (fun j => if k0 < j ∧ j ≤ σ.s.b.n then c.n.fractions (j - 1) else c.n.fractions j) k0 (kI b), c.n.pulseTimes, c.n.pulseEnergies, by simp (disch := omega) only [↓nm_eq, ↓bd_x, bdx_s, ↓bx_x, bxx_r, bxx_l, ↓bn_x, bnx_r, chk_t, ↓reduceIte, q32, q64, kI_lt_t, kI_lt_f, kI_le_t, kI_le_f, kI_eq_t, kI_eq_f, kL_lt_t, kL_lt_f, kL_le_t, kL_le_f, kL_eq_t, kL_eq_f, kI_m1, kI_m1', m1_m1, kI_n1, kI_n1', n1_add', eq_self, inb_t, kI_nat, kI_add, kI_mul, kI_sub, kI_div, kI_mod, kI_long, kL_add, kL_mul, kL_sub, kL_div, kL_mod, kL_int, n1_add, not_false_eq_true, not_true_eq_false, and_true, true_and, and_false, false_and, or_true, true_or, or_false, false_or, Nat.reduceEqDiff, IN, IM, e8, nI_k, ev_divideN k4 (show σ.s.b.n < 8 by omega)], splB_OK hb k4 (by omega) a3 a4 b4, ⟨⟨rfl, n2, n3, n4, rfl, fun k hk => ?_, fun k hk => ?_, n8, n9⟩, n10, n11⟩⟩
          · have hk' : k < σ.s.b.n + 1 := hk
            show upd (upd (fun j => if k0 < j ∧ j ≤ σ.s.b.n then c.n.lengths (j - 1) else c.n.lengths j) k0 (kI a)) (k0 + 1) (c.n.lengths k0 - kI a) k = kI (if k = k0 then a else if k = k0 + 1 then σ.s.b.ln k0 - a else if k0 < k ∧ k ≤ σ.s.b.n then σ.s.b.ln (k - 1) else σ.s.b.ln k)
            by_cases e : k = k0
            · rw [if_pos e, e, up32_ne (by omega), up32_at]
            · rw [if_neg e]
              by_cases e1 : k = k0 + 1
              · rw [if_pos e1, e1, up32_at, n6 k0 k4, kI_sub (by omega)]
              · rw [if_neg e1, up32_ne e1, up32_ne e]
                by_cases e2 : k0 < k ∧ k ≤ σ.s.b.n
                · rw [if_pos e2, if_pos e2]; exact n6 _ (by omega)
                · rw [if_neg e2, if_neg e2]; exact n6 _ (by omega)
          · have hk' : k < σ.s.b.n + 1 := hk
            show upd (fun j => if k0 < j ∧ j ≤ σ.s.b.n then c.n.fractions (j - 1) else c.n.fractions j) k0 (kI b) k = kI (if k = k0 then b else if k0 < k ∧ k ≤ σ.s.b.n then σ.s.b.fr (k - 1) else σ.s.b.fr k)
            by_cases e : k = k0
            · rw [if_pos e, e, up32_at]
            · rw [if_neg e, up32_ne e]
              by_cases e2 : k0 < k ∧ k ≤ σ.s.b.n
              · rw [if_pos e2, if_pos e2]; exact n7 _ (by omega)
              · rw [if_neg e2, if_neg e2]; exact n7 _ (by omega)
      · rw [if_neg w] at hv; omega
    · rw [if_neg w0] at hv; omega
  · rw [if_neg (by omega), if_neg (by omega), if_neg (by omega), if_neg (by omega), if_pos rfl] at hv
    rw [if_neg (by omega), if_neg (by omega), if_neg (by omega), if_neg (by omega), if_neg (by omega), if_neg (by omega), if_neg (by omega), if_neg (by omega)]
    unfold vPul at hv
    by_cases w : IN x1 0 100 ∧ IN x2 1 1000000
    · rw [if_pos w] at hv
      by_cases w2 : σ.s.b.np = 4
      · rw [if_pos w2] at hv; omega
      · obtain ⟨a, a1, a2, a3, a4⟩ := IN_nat w.1
        obtain ⟨b, b1, b2, b3, b4⟩ := IN_nat w.2
        subst a2
        subst b2
        rw [kI_nat a1, kI_nat b1]
        refine ⟨kI σ.s.b.n, kI (σ.s.b.np + 1), c.n.lengths, c.n.fractions, upd c.n.pulseTimes σ.s.b.np (kI a), upd c.n.pulseEnergies σ.s.b.np (kI b), ?_, apB_OK hb (by omega) a4 b3 b4, ⟨⟨rfl, n2, n3, n4, rfl, n6, n7, fun k hk => ?_, fun k hk => ?_⟩, n10, n11⟩⟩
        · simp (disch := omega) only [↓nm_eq, ↓bd_x, bdx_s, ↓bx_x, bxx_r, bxx_l, ↓bn_x, bnx_r, chk_t, ↓reduceIte, q32, q64, kI_lt_t, kI_lt_f, kI_le_t, kI_le_f, kI_eq_t, kI_eq_f, kL_lt_t, kL_lt_f, kL_le_t, kL_le_f, kL_eq_t, kL_eq_f, kI_m1, kI_m1', m1_m1, kI_n1, kI_n1', n1_add', eq_self, inb_t, kI_nat, kI_add, kI_mul, kI_sub, kI_div, kI_mod, kI_long, kL_add, kL_mul, kL_sub, kL_div, kL_mod, kL_int, n1_add, not_false_eq_true, not_true_eq_false, and_true, true_and, and_false, false_and, or_true, true_or, or_false, false_or, Nat.reduceEqDiff, IN, IM, e8, nI_k, ev_appendPulseN (show σ.s.b.np < 4 by omega)]
        · have hk' : k < σ.s.b.np + 1 := hk
          show _ = kI (upN σ.s.b.pt σ.s.b.np a k)
          by_cases e : k = σ.s.b.np
          · rw [e, upN_at]; exact up32_at
          · rw [upN_ne e]; exact (up32_ne e).trans (n8 k (by omega))
        · have hk' : k < σ.s.b.np + 1 := hk
          show _ = kI (upN σ.s.b.pe σ.s.b.np b k)
          by_cases e : k = σ.s.b.np
          · rw [e, upN_at]; exact up32_at
          · rw [upN_ne e]; exact (up32_ne e).trans (n9 k (by omega))
    · rw [if_neg w] at hv; omega
theorem op_changeX (hC : CR σ c) (hκ : κ < 5) {v : Nat} (hv : vd κ σ.s.b x1 x2 x3 = v + 1) : Cf_L_change c.waveIsFresh c.peelingIsFresh c.n.count c.n.front c.n.least c.n.window c.n.pulses c.n.lengths c.n.fractions c.n.pulseTimes c.n.pulseEnergies c.n.sound c.n.seen c.hcount c.hp c.h0.count c.h0.front c.h0.least c.h0.window c.h0.pulses c.h0.lengths c.h0.fractions c.h0.pulseTimes c.h0.pulseEnergies c.h0.sound c.h0.seen c.h1.count c.h1.front c.h1.least c.h1.window c.h1.pulses c.h1.lengths c.h1.fractions c.h1.pulseTimes c.h1.pulseEnergies c.h1.sound c.h1.seen c.h2.count c.h2.front c.h2.least c.h2.window c.h2.pulses c.h2.lengths c.h2.fractions c.h2.pulseTimes c.h2.pulseEnergies c.h2.sound c.h2.seen κ x1 x2 x3 = some (.inl v) := by
  have h3 := vd_3 κ σ.s.b x1 x2 x3
  unfold Cf_L_change Cf_L_refuseUnlessFine
  rw [op_verdict hC (by omega), bd_s, hv]
  obtain rfl | rfl | rfl : v = 0 ∨ v = 1 ∨ v = 2 := by omega
  · rfl
  · rfl
  · rfl
theorem op_change (hC : CR σ c) (hκ : κ < 5) (hv : vd κ σ.s.b x1 x2 x3 = 0) : ∃ (cn np : Int32) (ℓ φ pt pe : Nat → Int32) (hp' : Nat → Nat) (g0 g1 g2 : SC), Cf_L_change c.waveIsFresh c.peelingIsFresh c.n.count c.n.front c.n.least c.n.window c.n.pulses c.n.lengths c.n.fractions c.n.pulseTimes c.n.pulseEnergies c.n.sound c.n.seen c.hcount c.hp c.h0.count c.h0.front c.h0.least c.h0.window c.h0.pulses c.h0.lengths c.h0.fractions c.h0.pulseTimes c.h0.pulseEnergies c.h0.sound c.h0.seen c.h1.count c.h1.front c.h1.least c.h1.window c.h1.pulses c.h1.lengths c.h1.fractions c.h1.pulseTimes c.h1.pulseEnergies c.h1.sound c.h1.seen c.h2.count c.h2.front c.h2.least c.h2.window c.h2.pulses c.h2.lengths c.h2.fractions c.h2.pulseTimes c.h2.pulseEnergies c.h2.sound c.h2.seen κ x1 x2 x3 = some (.inr (kI 0, kI 0, cn, np, ℓ, φ, pt, pe, kI (pk σ.k), hp', g0.count, g0.front, g0.least, g0.window, g0.pulses, g0.lengths, g0.fractions, g0.pulseTimes, g0.pulseEnergies, g0.sound, g0.seen, g1.count, g1.front, g1.least, g1.window, g1.pulses, g1.lengths, g1.fractions, g1.pulseTimes, g1.pulseEnergies, g1.sound, g1.seen, g2.count, g2.front, g2.least, g2.window, g2.pulses, g2.lengths, g2.fractions, g2.pulseTimes, g2.pulseEnergies, g2.sound, g2.seen, an κ σ.s.b x1)) ∧ (σ.s.wb (eb κ σ.s.b x1 x2 x3)).OK ∧ CR (σ.ch (σ.s.wb (eb κ σ.s.b x1 x2 x3))) (CK.mk (kI 0) (kI 0) (SC.mk cn c.n.front c.n.least c.n.window np ℓ φ pt pe c.n.sound c.n.seen) (kI (pk σ.k)) hp' g0 g1 g2 c.s_length c.s_command c.s_position c.s_fault c.s_bytes c.s_numbers c.w_near c.w_far c.w_echoes c.w_totals c.p_result c.p_endTime c.q c.t_near c.t_far c.t_echoes c.t_totals) := by
  obtain ⟨cn, np, ℓ, φ, pt, pe, e1, q1, q2⟩ := op_edit hC hκ hv (wf := c.waveIsFresh) (pf := c.peelingIsFresh)
  obtain ⟨hp', g0, g1, g2, e2, q3⟩ := op_keep hC
  have hs : (σ.s.wb (eb κ σ.s.b x1 x2 x3)).OK := ⟨q1, hC.1.1.2⟩
  refine ⟨cn, np, ℓ, φ, pt, pe, hp', g0, g1, g2, ?_, hs, CR_ch hC hs q2 q3⟩
  unfold Cf_L_change Cf_L_refuseUnlessFine
  rw [op_verdict hC (by omega), bd_s, hv]
  have e0 : (chk (0 < 4 ∧ 1 < 4) <| if 0 = 1 then some (.inl 0) else chk (0 < 4 ∧ 2 < 4) <| if 0 = 2 then some (.inl 1) else chk (0 < 4 ∧ 3 < 4) <| if 0 = 3 then some (.inl 2) else some (.inr ())) = (some (.inr ()) : Option (Nat ⊕ Unit)) := rfl
  rw [e0, bx_r, e2, bd_s]
  (try dsimp only)
  rw [e1, bd_s]
end OPS2
