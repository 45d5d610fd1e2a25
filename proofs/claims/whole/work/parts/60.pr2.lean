theorem ev_firstUnlike {f g : Nat → Nat} {m G : Nat → Int64} {w t : Nat} (hm : m 19 = kL w) (hF : ∀ t, t < 201 → m (230 + t) = kL (f t)) (hG : ∀ t, t < 201 → G t = kL (g t)) (bf : ∀ t, t < 201 → f t ≤ 4000000) (bg : ∀ t, t < 201 → g t ≤ 4000000) (hw : w ≤ 200) (ht : FU f g (w + 1) t) : Rf_firstUnlike m G = some (if t ≤ w then kI t else -1) := by
  obtain ⟨t1, t2, t3⟩ := ht
  obtain ⟨a, e, q⟩ := loop_gen (L := fun fu (_ : Unit) x => Rl_firstUnlike_2 m G fu x) (fun i _ => i ≤ t) (fun a => a = if t ≤ w then Sum.inl (kI t) else Sum.inr ()) (w + 1) (fun fu i u hi hs => by
      have b1 := bf i (by omega)
      have b2 := bg i (by omega)
      simp only [Rl_firstUnlike_2]
      by_cases c : i = t
      · subst c
        have c2 := t3 (by omega)
        refine Or.inl ⟨_, ?_, rfl⟩
        rw [if_pos (show i ≤ w by omega)]
        simp (disch := omega) only [↓nm_eq, ↓bd_x, bdx_s, ↓bx_x, bxx_r, bxx_l, ↓bn_x, bnx_r, chk_t, ↓reduceIte, q32, q64, kI_lt_t, kI_lt_f, kI_le_t, kI_le_f, kI_eq_t, kI_eq_f, kL_lt_t, kL_lt_f, kL_le_t, kL_le_f, kL_eq_t, kL_eq_f, kI_m1, kI_m1', m1_m1, kI_n1, kI_n1', n1_add', eq_self, inb_t, kI_nat, kI_add, kI_mul, kI_sub, kI_div, kI_mod, kI_long, kL_add, kL_mul, kL_sub, kL_div, kL_mod, kL_int, n1_add, not_false_eq_true, not_true_eq_false, and_true, true_and, and_false, false_and, or_true, true_or, or_false, false_or, Nat.reduceEqDiff, ev_window hm, hF, hG]
      · have c2 := t2 i (by omega)
        refine Or.inr ⟨(), ?_, by omega⟩
        simp (disch := omega) only [↓nm_eq, ↓bd_x, bdx_s, ↓bx_x, bxx_r, bxx_l, ↓bn_x, bnx_r, chk_t, ↓reduceIte, q32, q64, kI_lt_t, kI_lt_f, kI_le_t, kI_le_f, kI_eq_t, kI_eq_f, kL_lt_t, kL_lt_f, kL_le_t, kL_le_f, kL_eq_t, kL_eq_f, kI_m1, kI_m1', m1_m1, kI_n1, kI_n1', n1_add', eq_self, inb_t, kI_nat, kI_add, kI_mul, kI_sub, kI_div, kI_mod, kI_long, kL_add, kL_mul, kL_sub, kL_div, kL_mod, kL_int, n1_add, not_false_eq_true, not_true_eq_false, and_true, true_and, and_false, false_and, or_true, true_or, or_false, false_or, Nat.reduceEqDiff, ev_window hm, hF, hG, c2])
    (fun fu u hs => ⟨Sum.inr (), by simp only [Rl_firstUnlike_2]; simp (disch := omega) only [↓nm_eq, ↓bd_x, bdx_s, ↓bx_x, bxx_r, bxx_l, ↓bn_x, bnx_r, chk_t, ↓reduceIte, q32, q64, kI_lt_t, kI_lt_f, kI_le_t, kI_le_f, kI_eq_t, kI_eq_f, kL_lt_t, kL_lt_f, kL_le_t, kL_le_f, kL_eq_t, kL_eq_f, kI_m1, kI_m1', m1_m1, kI_n1, kI_n1', n1_add', eq_self, inb_t, kI_nat, kI_add, kI_mul, kI_sub, kI_div, kI_mod, kI_long, kL_add, kL_mul, kL_sub, kL_div, kL_mod, kL_int, n1_add, not_false_eq_true, not_true_eq_false, and_true, true_and, and_false, false_and, or_true, true_or, or_false, false_or, Nat.reduceEqDiff, ev_window hm], by rw [if_neg (by omega)]⟩) FUEL 0 () (by have : FUEL = 4096 := rfl; omega) (by omega) (Nat.zero_le _)
  subst q
  unfold Rf_firstUnlike
  rw [q32, bd_e e]
  by_cases c : t ≤ w
  · rw [if_pos c, if_pos c]
  · rw [if_neg c, if_neg c]
section PR2
variable {s : Sx} {n : Nat} {ln fr : Nat → Nat}
def PRE (s : Sx) (r : Nat) (tm : Int32) (n' : Nat) (ln' fr' : Nat → Nat) (lp : Int32) (ℓ φ : Nat → Int32) (pr pt ps : Int32) : Prop := lp = kI n' ∧ (∀ k, k < n' → ℓ k = kI (ln' k)) ∧ (∀ k, k ≤ n' → φ k = kI ((pB s n' ln' fr').fq k)) ∧ pr = kI r ∧ pt = tm ∧ ps = kI (sm ln' n')
theorem ev_peelLoop (hs : s.OK) {m : Nat → Int64} {tmc : Nat → Int32} {en : Nat → Int64} (hm : RP s m tmc en) {r : Nat} {tm : Int32} {n' : Nat} {ln' fr' : Nat → Nat} (h : PL s n ln fr r tm n' ln' fr') : ∀ (_ : LnOK n ln fr) (fu : Nat) (_ : 10 - n < fu) (ℓ φ : Nat → Int32) (_ : ∀ i, i < n → ℓ i = kI (ln i)) (_ : ∀ k, k ≤ n → φ k = kI ((pB s n ln fr).fq k)) (far near ech : Nat → Int64) (_ : ∀ t, t < 201 → ech t = kL ((pB s n ln fr).ewB t)) (lf dr : Int64) (mg ds ct : Int32) (pk : Int64) (pr pt : Int32), ∃ lp' ℓ' φ' far' near' ech' lf' dr' mg' ds' ct' pk' pr' pt' ps', Rl_peelAll_55 m (kI 1) tmc en fu (kI n) ℓ φ far near ech lf dr mg ds ct pk pr pt (kI (sm ln n)) (kI 1) = some (lp', ℓ', φ', far', near', ech', lf', dr', mg', ds', ct', pk', pr', pt', ps') ∧ PRE s r tm n' ln' fr' lp' ℓ' φ' pr' pt' ps' := by
  have hw : s.b.wn ≤ 200 := hs.1.2.2.2.2.1.2
  refine PL_ind (fun n ln fr r tm n' ln' fr' => ∀ (_ : LnOK n ln fr) (fu : Nat) (_ : 10 - n < fu) (ℓ φ : Nat → Int32) (_ : ∀ i, i < n → ℓ i = kI (ln i)) (_ : ∀ k, k ≤ n → φ k = kI ((pB s n ln fr).fq k)) (far near ech : Nat → Int64) (_ : ∀ t, t < 201 → ech t = kL ((pB s n ln fr).ewB t)) (lf dr : Int64) (mg ds ct : Int32) (pk : Int64) (pr pt : Int32), ∃ lp' ℓ' φ' far' near' ech' lf' dr' mg' ds' ct' pk' pr' pt' ps', Rl_peelAll_55 m (kI 1) tmc en fu (kI n) ℓ φ far near ech lf dr mg ds ct pk pr pt (kI (sm ln n)) (kI 1) = some (lp', ℓ', φ', far', near', ech', lf', dr', mg', ds', ct', pk', pr', pt', ps') ∧ PRE s r tm n' ln' fr' lp' ℓ' φ' pr' pt' ps') ?_ ?_ h
  · intro n ln fr r tm h
    intro hl fu hfu ℓ φ hℓ hφ far near ech he lf dr mg ds ct pk pr pt
    have hn := hl.1
    have hsm := sm_ln_le hl n (Nat.le_refl n)
    obtain ⟨g, rfl⟩ : ∃ g, fu = g + 2 := ⟨fu - 2, by omega⟩
    obtain ⟨t, ht, hc⟩ := h
    have e0 := ev_firstUnlike hm.2.1 hm.2.2.1 he (fun t ht => (hs.2 t ht).2) (fun t _ => pew_le hs hl t) hw ht
    have hse := hm.2.2.1
    have b2 := pew_le hs hl t
    simp only [Rl_peelAll_55, Rf_peels, Rf_peels_59, Rf_peels_88]
    rcases hc with ⟨c1, c2, c3⟩ | ⟨c1, c2, c3⟩
    · rw [if_neg (by omega)] at e0
      exact ⟨_, _, _, _, _, _, _, _, _, _, _, _, _, _, _, by simp (disch := omega) only [↓nm_eq, ↓bd_x, bdx_s, ↓bx_x, bxx_r, bxx_l, ↓bn_x, bnx_r, chk_t, ↓reduceIte, q32, q64, kI_lt_t, kI_lt_f, kI_le_t, kI_le_f, kI_eq_t, kI_eq_f, kL_lt_t, kL_lt_f, kL_le_t, kL_le_f, kL_eq_t, kL_eq_f, kI_m1, kI_m1', m1_m1, kI_n1, kI_n1', n1_add', eq_self, inb_t, kI_nat, kI_add, kI_mul, kI_sub, kI_div, kI_mod, kI_long, kL_add, kL_mul, kL_sub, kL_div, kL_mod, kL_int, n1_add, not_false_eq_true, not_true_eq_false, and_true, true_and, and_false, false_and, or_true, true_or, or_false, false_or, Nat.reduceEqDiff, e0, true_or]; rfl, rfl, hℓ, hφ, by rw [c2], by rw [c3]; rfl, rfl⟩
    · rw [if_pos c1] at e0
      have b1 := (hs.2 t (by omega)).2
      rcases c3 with ⟨c3, c4⟩ | ⟨c3, c4, c5⟩ | ⟨⟨g1, g2, g3, g4, g5, g6, g7⟩, c4, c5⟩
      · refine ⟨kI n, ℓ, φ, far, near, ech, lf, dr, mg, ds, ct, pk, kI 1, kI t, kI (sm ln n), ?_, rfl, hℓ, hφ, congrArg kI c4.symm, c2.symm, rfl⟩
        · by_cases d1 : s.se t < (pB s n ln fr).ewB t
          · simp (disch := omega) only [↓nm_eq, ↓bd_x, bdx_s, ↓bx_x, bxx_r, bxx_l, ↓bn_x, bnx_r, chk_t, ↓reduceIte, q32, q64, kI_lt_t, kI_lt_f, kI_le_t, kI_le_f, kI_eq_t, kI_eq_f, kL_lt_t, kL_lt_f, kL_le_t, kL_le_f, kL_eq_t, kL_eq_f, kI_m1, kI_m1', m1_m1, kI_n1, kI_n1', n1_add', eq_self, inb_t, kI_nat, kI_add, kI_mul, kI_sub, kI_div, kI_mod, kI_long, kL_add, kL_mul, kL_sub, kL_div, kL_mod, kL_int, n1_add, not_false_eq_true, not_true_eq_false, and_true, true_and, and_false, false_and, or_true, true_or, or_false, false_or, Nat.reduceEqDiff, e0, hse, he, d1, true_or]
          · by_cases d2 : t % 2 = 1
            · simp (disch := omega) only [↓nm_eq, ↓bd_x, bdx_s, ↓bx_x, bxx_r, bxx_l, ↓bn_x, bnx_r, chk_t, ↓reduceIte, q32, q64, kI_lt_t, kI_lt_f, kI_le_t, kI_le_f, kI_eq_t, kI_eq_f, kL_lt_t, kL_lt_f, kL_le_t, kL_le_f, kL_eq_t, kL_eq_f, kI_m1, kI_m1', m1_m1, kI_n1, kI_n1', n1_add', eq_self, inb_t, kI_nat, kI_add, kI_mul, kI_sub, kI_div, kI_mod, kI_long, kL_add, kL_mul, kL_sub, kL_div, kL_mod, kL_int, n1_add, not_false_eq_true, not_true_eq_false, and_true, true_and, and_false, false_and, or_true, true_or, or_false, false_or, Nat.reduceEqDiff, e0, hse, he, d1, true_or]
            · have d3 : t ≤ 2 * sm ln n := by omega
              simp (disch := omega) only [↓nm_eq, ↓bd_x, bdx_s, ↓bx_x, bxx_r, bxx_l, ↓bn_x, bnx_r, chk_t, ↓reduceIte, q32, q64, kI_lt_t, kI_lt_f, kI_le_t, kI_le_f, kI_eq_t, kI_eq_f, kL_lt_t, kL_lt_f, kL_le_t, kL_le_f, kL_eq_t, kL_eq_f, kI_m1, kI_m1', m1_m1, kI_n1, kI_n1', n1_add', eq_self, inb_t, kI_nat, kI_add, kI_mul, kI_sub, kI_div, kI_mod, kI_long, kL_add, kL_mul, kL_sub, kL_div, kL_mod, kL_int, n1_add, not_false_eq_true, not_true_eq_false, and_true, true_and, and_false, false_and, or_true, true_or, or_false, false_or, Nat.reduceEqDiff, e0, hse, he, d1, true_or]
      · refine ⟨kI n, ℓ, φ, far, near, ech, lf, dr, mg, ds, ct, pk, kI 2, kI t, kI (sm ln n), ?_, rfl, hℓ, hφ, congrArg kI c5.symm, c2.symm, rfl⟩
        · have d1 : ¬ s.se t < (pB s n ln fr).ewB t := fun q => c3 (Or.inl q)
          by_cases d2 : 20 < t / 2 - sm ln n
          · simp (disch := omega) only [↓nm_eq, ↓bd_x, bdx_s, ↓bx_x, bxx_r, bxx_l, ↓bn_x, bnx_r, chk_t, ↓reduceIte, q32, q64, kI_lt_t, kI_lt_f, kI_le_t, kI_le_f, kI_eq_t, kI_eq_f, kL_lt_t, kL_lt_f, kL_le_t, kL_le_f, kL_eq_t, kL_eq_f, kI_m1, kI_m1', m1_m1, kI_n1, kI_n1', n1_add', eq_self, inb_t, kI_nat, kI_add, kI_mul, kI_sub, kI_div, kI_mod, kI_long, kL_add, kL_mul, kL_sub, kL_div, kL_mod, kL_int, n1_add, not_false_eq_true, not_true_eq_false, and_true, true_and, and_false, false_and, or_true, true_or, or_false, false_or, Nat.reduceEqDiff, e0, hse, he, d1, true_or]
          · have d3 : n = 8 := by omega
            simp (disch := omega) only [↓nm_eq, ↓bd_x, bdx_s, ↓bx_x, bxx_r, bxx_l, ↓bn_x, bnx_r, chk_t, ↓reduceIte, q32, q64, kI_lt_t, kI_lt_f, kI_le_t, kI_le_f, kI_eq_t, kI_eq_f, kL_lt_t, kL_lt_f, kL_le_t, kL_le_f, kL_eq_t, kL_eq_f, kI_m1, kI_m1', m1_m1, kI_n1, kI_n1', n1_add', eq_self, inb_t, kI_nat, kI_add, kI_mul, kI_sub, kI_div, kI_mod, kI_long, kL_add, kL_mul, kL_sub, kL_div, kL_mod, kL_int, n1_add, not_false_eq_true, not_true_eq_false, and_true, true_and, and_false, false_and, or_true, true_or, or_false, false_or, Nat.reduceEqDiff, e0, hse, he, d1, true_or]
      · obtain ⟨f, hf⟩ := FF_ex s n ln fr (t / 2 - sm ln n) (s.se (2 * (sm ln n + (t / 2 - sm ln n))))
        obtain ⟨a1, a2, a3, a4, a5, a6, a7, a8, a9, a10, a11, a12, a13, a14, i1, i2, i3⟩ := ev_puts hs hl g7 hm (by omega) g6 (by omega) hℓ hφ hf far near ech lf dr mg ds ct pk
        rw [show 2 * (sm ln n + (t / 2 - sm ln n)) = t from by omega] at i1 i2 i3
        obtain ⟨j1, j2, j3, j4, j5⟩ := i3 (fun q => c4 f hf.1 q.1 q.2)
        subst j1
        subst j2
        subst j3
        refine ⟨kI n, a2, a3, a4, a5, a6, a7, a8, a9, a10, a11, a12, kI 1, kI t, kI (sm ln n), ?_, rfl, j4, j5, congrArg kI c5.symm, c2.symm, rfl⟩
        · simp (disch := omega) only [↓nm_eq, ↓bd_x, bdx_s, ↓bx_x, bxx_r, bxx_l, ↓bn_x, bnx_r, chk_t, ↓reduceIte, q32, q64, kI_lt_t, kI_lt_f, kI_le_t, kI_le_f, kI_eq_t, kI_eq_f, kL_lt_t, kL_lt_f, kL_le_t, kL_le_f, kL_eq_t, kL_eq_f, kI_m1, kI_m1', m1_m1, kI_n1, kI_n1', n1_add', eq_self, inb_t, kI_nat, kI_add, kI_mul, kI_sub, kI_div, kI_mod, kI_long, kL_add, kL_mul, kL_sub, kL_div, kL_mod, kL_int, n1_add, not_false_eq_true, not_true_eq_false, and_true, true_and, and_false, false_and, or_true, true_or, or_false, false_or, Nat.reduceEqDiff, e0, hse, he, g3, i1, true_or]
  · intro n ln fr len p r tm n' ln' fr' h h2 ih
    intro hl fu hfu ℓ φ hℓ hφ far near ech he lf dr mg ds ct pk pr pt
    have hn := hl.1
    have hsm := sm_ln_le hl n (Nat.le_refl n)
    obtain ⟨g, rfl⟩ : ∃ g, fu = g + 1 := ⟨fu - 1, by omega⟩
    have hok := h.ok hl
    obtain ⟨t, ⟨g1, g2, g3, g4, g5, g6, g7⟩, c1, c2, c3, c4, c5⟩ := h
    have e0 := ev_firstUnlike hm.2.1 hm.2.2.1 he (fun t ht => (hs.2 t ht).2) (fun t _ => pew_le hs hl t) hw g1
    have hse := hm.2.2.1
    have b2 := pew_le hs hl t
    have b1 := (hs.2 t (by omega)).2
    rw [if_pos g2] at e0
    have et : 2 * (sm ln n + len) = t := by omega
    obtain ⟨a1, a2, a3, a4, a5, a6, a7, a8, a9, a10, a11, a12, a13, a14, i1, i2, i3⟩ := ev_puts hs hl g7 hm (len := len) (by omega) (by omega) (by omega) hℓ hφ (f := p) (by rw [et]; exact ⟨c2, by omega, c5, fun _ => by omega⟩) far near ech lf dr mg ds ct pk
    rw [et] at i1 i2 i3
    obtain ⟨j1, j2, j3, j4, j5, j6⟩ := i2 ⟨c3, c4⟩
    subst j1
    subst j2
    have e5 : sm (upN ln n len) (n + 1) = sm ln n + len := by
      rw [sm_s, upN_at, sm_congr (g := ln) fun i hi => upN_ne (by omega)]
    rw [← e5] at j3
    subst j3
    obtain ⟨o1, o2, o3, o4, o5, o6, o7, o8, o9, o10, o11, o12, o13, o14, o15, k1, k2⟩ := ih hok g (by omega) a2 a3 j4 j5 a4 a5 a6 j6 a7 a8 a9 a10 a11 a12 (kI 1) (kI t)
    refine ⟨o1, o2, o3, o4, o5, o6, o7, o8, o9, o10, o11, o12, o13, o14, o15, ?_, k2⟩
    simp only [Rl_peelAll_55, Rf_peels, Rf_peels_59, Rf_peels_88]
    simp (disch := omega) only [↓nm_eq, ↓bd_x, bdx_s, ↓bx_x, bxx_r, bxx_l, ↓bn_x, bnx_r, chk_t, ↓reduceIte, q32, q64, kI_lt_t, kI_lt_f, kI_le_t, kI_le_f, kI_eq_t, kI_eq_f, kL_lt_t, kL_lt_f, kL_le_t, kL_le_f, kL_eq_t, kL_eq_f, kI_m1, kI_m1', m1_m1, kI_n1, kI_n1', n1_add', eq_self, inb_t, kI_nat, kI_add, kI_mul, kI_sub, kI_div, kI_mod, kI_long, kL_add, kL_mul, kL_sub, kL_div, kL_mod, kL_int, n1_add, not_false_eq_true, not_true_eq_false, and_true, true_and, and_false, false_and, or_true, true_or, or_false, false_or, Nat.reduceEqDiff, e0, hse, he, g3, i1, or_true, k1]
end PR2
theorem ev_peelAll {s : Sx} (hs : s.OK) {m : Nat → Int64} (hm : RS s m) {lp : Int32} {ℓ φ : Nat → Int32} {pm : Int32} {tm : Nat → Int32} {en far near ech : Nat → Int64} {lf dr : Int64} {mg ds ct : Int32} {pk : Int64} {pr pt ps : Int32} : ∃ r tq n' ln' fr' lp' ℓ' φ' tm' en' far' near' ech' lf' dr' mg' ds' ct' pk' pr' pt' ps', Rf_peelAll m lp ℓ φ pm tm en far near ech lf dr mg ds ct pk pr pt ps = some (lp', ℓ', φ', kI 1, tm', en', far', near', ech', lf', dr', mg', ds', ct', pk', pr', pt', ps') ∧ PL s 0 (fun _ => 0) (fun _ => 0) r tq n' ln' fr' ∧ PRE s r tq n' ln' fr' lp' ℓ' φ' pr' pt' ps' := by
  have h0 : LnOK 0 (fun _ => 0) (fun _ => 0) := ⟨by decide, fun k hk => by omega⟩
  obtain ⟨r, tq, n', ln', fr', h⟩ := PL_ex hs 8 0 _ _ rfl h0
  obtain ⟨m0, m1, m2, m3, m4, m5, m6, m7, m8, m9, m10⟩ := hm
  have hp : RP s m (upd tm 0 (kI 0)) (vp_updL en 0 (kL (s.b.pe 0))) := ⟨m4, m5, m10, up32_at, up_at⟩
  have hφ : ∀ k, k ≤ 0 → upd φ 0 (kI s.b.ft) k = kI ((pB s 0 (fun _ => 0) (fun _ => 0)).fq k) := fun k hk => by
    rw [show k = 0 from by omega, pfq_0, up32_at]
  have m8' := m8 0 (by have := hs.1.2.2.2.2.2.1; omega)
  obtain ⟨a1, a2, a3, a4, a5, a6, a7, e1, e2⟩ := ev_runP hs h0 hp (ℓ := ℓ) (fun k hk => by omega) hφ (far := far) (near := near) (ech := ech) (lf := lf) (dr := dr) (mg := mg) (ds := ds) (ct := ct) (pk := pk)
  obtain ⟨o1, o2, o3, o4, o5, o6, o7, o8, o9, o10, o11, o12, o13, o14, o15, k1, k2⟩ := ev_peelLoop hs hp h h0 FUEL (by have : FUEL = 4096 := rfl; omega) ℓ (upd φ 0 (kI s.b.ft)) (fun k hk => by omega) hφ a1 a2 a3 e2 a4 a5 a6 a7 (kI 0) (kL 0) pr pt
  have k3 : sm (fun _ : Nat => 0) 0 = 0 := rfl
  rw [k3] at k1
  refine ⟨r, tq, n', ln', fr', o1, o2, o3, upd tm 0 (kI 0), vp_updL en 0 (kL (s.b.pe 0)), o4, o5, o6, o7, o8, o9, o10, o11, o12, o13, o14, o15, ?_, h, k2⟩
  unfold Rf_peelAll
  simp only [Nat.mul_zero, Nat.add_zero] at m8'
  simp (disch := omega) only [↓nm_eq, ↓bd_x, bdx_s, ↓bx_x, bxx_r, bxx_l, ↓bn_x, bnx_r, chk_t, ↓reduceIte, q32, q64, kI_lt_t, kI_lt_f, kI_le_t, kI_le_f, kI_eq_t, kI_eq_f, kL_lt_t, kL_lt_f, kL_le_t, kL_le_f, kL_eq_t, kL_eq_f, kI_m1, kI_m1', m1_m1, kI_n1, kI_n1', n1_add', eq_self, inb_t, kI_nat, kI_add, kI_mul, kI_sub, kI_div, kI_mod, kI_long, kL_add, kL_mul, kL_sub, kL_div, kL_mod, kL_int, n1_add, not_false_eq_true, not_true_eq_false, and_true, true_and, and_false, false_and, or_true, true_or, or_false, false_or, Nat.reduceEqDiff, m3, m8', e1, k1]
