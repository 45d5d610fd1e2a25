theorem sm_shift (f : Nat → Nat) (k : Nat) : sm f (k + 1) = f 0 + sm (fun i => f (i + 1)) k := by
  induction k with
  | zero => simp [sm]
  | succ k ih => rw [sm, ih]; simp only [sm]; omega
theorem puP_upto (np : Nat) (pt pe : Nat → Nat) (w : Nat) : sm (puP np pt pe) (w + 1) = seP np pt pe w := by
  have e : sm (puP np pt pe) (w + 1) = sm (fun i => sm (fun t => if pt i = t then pe i else 0) (w + 1)) np := sm_swap (fun t i => if pt i = t then pe i else 0) (w + 1) np
  rw [e]
  unfold seP
  refine sm_congr fun i _ => ?_
  have : ∀ T, sm (fun t => if pt i = t then pe i else 0) T = if pt i < T then pe i else 0 := fun T => by
    induction T with
    | zero => rfl
    | succ T ih =>
      simp only [sm]
      rw [ih]
      by_cases c : pt i = T
      · rw [if_neg (by omega), if_pos c, if_pos (by omega)]; omega
      · rw [if_neg c]
        by_cases c2 : pt i < T
        · rw [if_pos c2, if_pos (by omega)]; omega
        · rw [if_neg c2, if_neg (by omega)]
  rw [this]
  by_cases c : pt i ≤ w
  · rw [if_pos (by omega), if_pos c]
  · rw [if_neg (by omega), if_neg c]
theorem ev_window {m : Nat → Int64} {win : Nat} (h : m 19 = kL win) : Rf_window m = some (kI win) := by
  unfold Rf_window
  rw [chk_true (by decide), nm_eq, nm_eq, t32_19, h, kL_int]
section RW2
variable (n : Nat) (ln fq : Nat → Nat) (ls : Nat) (np : Nat) (pt pe : Nat → Nat) (win : Nat)
def RR (far near ech : Nat → Int64) (lf dr : Int64) (mg ds : Int32) : Prop := RTb n ln fq ls np pt pe (win + 1) 0 far near ∧ (∀ t, t < 201 → ech t = kL (ew n ln fq ls np pt pe win t)) ∧ lf = kL (TOT n ln fq ls np pt pe win 2) ∧ dr = kL (TOT n ln fq ls np pt pe win 3) ∧ mg = kI (TOT n ln fq ls np pt pe win 5) ∧ ds = kI (TOT n ln fq ls np pt pe win 6)
variable {n ln fq ls np pt pe win}
theorem RWI.next {T : Nat} {far near ech : Nat → Int64} {lf dr : Int64} {mg ds : Int32} (h : RWI n ln fq ls np pt pe win T (n + 1) far near ech lf dr mg ds) : RWI n ln fq ls np pt pe win (T + 1) 0 far near ech lf dr mg ds := by
  obtain ⟨⟨h1, h1'⟩, h2, h3, h4, h5, h6⟩ := h
  refine ⟨⟨fun j t q1 q2 q3 => h1 j t q1 (by omega) q3, fun j t q0 q1 q2 q3 => h1' j t q0 q1 (by omega) q3⟩, fun t ht => ?_, ?_, ?_, ?_, ?_⟩
  · rw [h2 t ht]
    by_cases e : t < T + 1
    · rw [if_pos (by omega), if_pos (by omega)]
    · rw [if_neg (by omega), if_neg (by omega)]
  · rw [h3, tt_next]
  · rw [h4, tt_next]
  · rw [h5, tt_next]
  · rw [h6, tt_next]
theorem TOT_tt (h0 : n ≠ 0) {i : Nat} (hi : i = 2 ∨ i = 3 ∨ i = 4 ∨ i = 5 ∨ i = 6) : TOT n ln fq ls np pt pe win i = tt n ln fq ls (puP np pt pe) (pcP np pt) win (fun _ => 0) (win + 1) 0 i := by
  rw [tt_in _ _ _ _ _ rfl]
  unfold TOT
  rw [if_neg (by omega), if_neg (by omega), if_neg (by omega), if_neg (by omega), if_neg (by omega)]
theorem TOT_n0 (h0 : n = 0) {i : Nat} (hi : i = 3 ∨ i = 4 ∨ i = 5 ∨ i = 6) : TOT n ln fq ls np pt pe win i = 0 := by
  unfold TOT
  rw [if_neg (by omega), if_neg (by omega), if_neg (by omega), if_neg (by omega), if_neg (by omega)]
  refine sm_zero fun t _ => sm_zero fun j hj => ?_
  have : j = 0 := by omega
  subst this
  exact dJ_n0 h0 _ _ t i
theorem ev_runLine (hL : LOK n ln fq ls (puP np pt pe)) (hP : POK np pt pe) (hw : win ≤ 200) {m : Nat → Int64} (hm : m 18 = kL ls) (hm2 : m 19 = kL win) {ℓ φ tm : Nat → Int32} {en : Nat → Int64} (hℓ : ∀ k, k < n → ℓ k = kI (ln k)) (hφ : ∀ k, k ≤ n → φ k = kI (fq k)) (h1 : ∀ i, i < np → tm i = kI (pt i)) (h2 : ∀ i, i < np → en i = kL (pe i)) {far near ech : Nat → Int64} {lf dr : Int64} {mg ds ct : Int32} {pk : Int64} :
    ∃ far' near' ech' lf' dr' mg' ds', Rf_runLine m (kI n) ℓ φ (kI np) tm en far near ech lf dr mg ds ct pk = some (far', near', ech', lf', dr', mg', ds', kI 0, kL 0) ∧ RR n ln fq ls np pt pe win far' near' ech' lf' dr' mg' ds' := by
  have hn := hL.1
  unfold Rf_runLine
  obtain ⟨e0, z1, z2⟩ := loop_gen (L := fun fu (s : Nat → Int64) x => Rl_runLine_32 fu s x) (fun i s => ∀ t, t < i → s t = kL 0) (fun a => ∀ t, t < 201 → a t = kL 0) 201 (fun fu i s hi hP => Or.inr ⟨vp_updL s i (kL 0), by
      simp only [Rl_runLine_32, nm_eq]
      rw [if_neg (by rw [q32_201, kI_le (by omega) (by omega)]; omega), chk_true ((inb_kI (by omega)).mpr hi), kI_nat (by omega), q32_1, kI_add]
      rfl, fun t ht => by
        by_cases e : t = i
        · subst e; exact up_at
        · rw [up_ne e]; exact hP t (by omega)⟩)
    (fun fu s hP => ⟨s, by simp only [Rl_runLine_32]; rw [if_pos (by rw [q32_201, kI_le (by omega) (by omega)]; omega)], hP⟩) FUEL 0 ech (by decide) (by omega) (fun t ht => absurd ht (by omega))
  rw [q32_0, bd_e z1]
  by_cases h0 : n = 0
  · obtain ⟨⟨a1, a2, a3, a4, a5, a6, a7, a8, a9⟩, g1, g2⟩ := loop_gen (L := fun fu (s : (Nat → Int64) × (Nat → Int64) × (Nat → Int64) × Int64 × Int64 × Int32 × Int32 × Int32 × Int64) x => Rl_runLine_54 m (kI n) ℓ φ (kI np) tm en fu s.1 s.2.1 s.2.2.1 s.2.2.2.1 s.2.2.2.2.1 s.2.2.2.2.2.1 s.2.2.2.2.2.2.1 s.2.2.2.2.2.2.2.1 s.2.2.2.2.2.2.2.2 x) (fun T s => s = (far, near, e0, kL (sm (puP np pt pe) T), kL 0, kI 0, kI 0, kI 0, kL 0)) (fun s => s = (far, near, e0, kL (sm (puP np pt pe) (win + 1)), kL 0, kI 0, kI 0, kI 0, kL 0)) (win + 1) (fun fu T s hT hs => by
        subst hs
        refine Or.inr ⟨_, ?_, rfl⟩
        simp only [Rl_runLine_54]
        rw [ev_window hm2, bd_s, if_neg (by rw [kI_lt (by omega) (by omega)]; omega), if_pos (by rw [h0]; rfl), ev_passPulses hP (by omega) h1 h2, bd_s]
        dsimp only
        rw [nm_eq, kL_add, Nat.zero_add]
        unfold Rf_runLine_97 Rf_runLine_126
        have e99 : ∀ (f : Nat) (x : Int64), Rl_runLine_99 m (kI n) ℓ φ (kI np) tm en (kI T) (f + 1) far near e0 x (kL 0) (kI 0) (kI 0) 0 0 0 = some (far, near, e0, x, kL 0, kI 0, kI 0, 0, 0) := fun f x => by
          simp only [Rl_runLine_99]
          rw [if_neg (by rw [h0]; decide), if_pos (by rw [h0]; decide)]
        rw [show FUEL = 4095 + 1 from rfl, e99, bd_s]
        dsimp only
        rw [nm_eq, q32_1, kI_add]
        rfl)
      (fun fu s hs => ⟨s, by simp only [Rl_runLine_54]; rw [ev_window hm2, bd_s, if_pos (by rw [kI_lt (by omega) (by omega)]; omega)], hs⟩) FUEL 0 (far, near, e0, kL 0, kL 0, kI 0, kI 0, kI 0, kL 0) (by have : FUEL = 4096 := rfl; omega) (by omega) rfl
    rw [show (0 : Int64) = kL 0 from rfl, bd_e g1, g2]
    refine ⟨_, _, _, _, _, _, _, rfl, ⟨fun j t q1 => by omega, fun j t q0 q1 => by omega⟩, fun t ht => ?_, ?_, ?_, ?_, ?_⟩
    · rw [z2 t ht, ew_n0 h0]
    · rw [puP_upto]
      unfold TOT
      rw [if_neg (by decide), if_neg (by decide), if_pos ⟨rfl, h0⟩]
    · rw [TOT_n0 h0 (by omega)]
    · rw [TOT_n0 h0 (by omega)]
    · rw [TOT_n0 h0 (by omega)]
  · have hI : RWI n ln fq ls np pt pe win 0 0 far near e0 (kL 0) (kL 0) (kI 0) (kI 0) := by
      refine ⟨⟨fun j t q1 q2 => by omega, fun j t q0 q1 q2 => by omega⟩, fun t ht => ?_, rfl, rfl, rfl, rfl⟩
      rw [z2 t ht, if_neg (by omega)]
    obtain ⟨⟨a1, a2, a3, a4, a5, a6, a7, a8, a9⟩, g1, g2, g3, g4⟩ := loop_gen (L := fun fu (s : (Nat → Int64) × (Nat → Int64) × (Nat → Int64) × Int64 × Int64 × Int32 × Int32 × Int32 × Int64) x => Rl_runLine_54 m (kI n) ℓ φ (kI np) tm en fu s.1 s.2.1 s.2.2.1 s.2.2.2.1 s.2.2.2.2.1 s.2.2.2.2.2.1 s.2.2.2.2.2.2.1 s.2.2.2.2.2.2.2.1 s.2.2.2.2.2.2.2.2 x) (fun T s => RWI n ln fq ls np pt pe win T 0 s.1 s.2.1 s.2.2.1 s.2.2.2.1 s.2.2.2.2.1 s.2.2.2.2.2.1 s.2.2.2.2.2.2.1 ∧ s.2.2.2.2.2.2.2.1 = kI 0 ∧ s.2.2.2.2.2.2.2.2 = kL 0) (fun s => RWI n ln fq ls np pt pe win (win + 1) 0 s.1 s.2.1 s.2.2.1 s.2.2.2.1 s.2.2.2.2.1 s.2.2.2.2.2.1 s.2.2.2.2.2.2.1 ∧ s.2.2.2.2.2.2.2.1 = kI 0 ∧ s.2.2.2.2.2.2.2.2 = kL 0) (win + 1) (fun fu T s hT hs => by
        obtain ⟨s1, s2, s3, s4, s5, s6, s7, s8, s9⟩ := s
        obtain ⟨hs, e8, e9⟩ := hs
        dsimp only at hs e8 e9
        subst e8
        subst e9
        obtain ⟨⟨b1, b2, b3, b4, b5, b6, b7, b8, b9⟩, k1, k2, k3, k4⟩ := loop_gen (L := fun fu (s : (Nat → Int64) × (Nat → Int64) × (Nat → Int64) × Int64 × Int64 × Int32 × Int32 × Int32 × Int64) x => Rl_runLine_99 m (kI n) ℓ φ (kI np) tm en (kI T) fu s.1 s.2.1 s.2.2.1 s.2.2.2.1 s.2.2.2.2.1 s.2.2.2.2.2.1 s.2.2.2.2.2.2.1 s.2.2.2.2.2.2.2.1 s.2.2.2.2.2.2.2.2 x) (fun j s => RWI n ln fq ls np pt pe win T j s.1 s.2.1 s.2.2.1 s.2.2.2.1 s.2.2.2.2.1 s.2.2.2.2.2.1 s.2.2.2.2.2.2.1 ∧ s.2.2.2.2.2.2.2.1 = kI 0 ∧ s.2.2.2.2.2.2.2.2 = kL 0) (fun s => RWI n ln fq ls np pt pe win T (n + 1) s.1 s.2.1 s.2.2.1 s.2.2.2.1 s.2.2.2.2.1 s.2.2.2.2.2.1 s.2.2.2.2.2.2.1 ∧ s.2.2.2.2.2.2.2.1 = kI 0 ∧ s.2.2.2.2.2.2.2.2 = kL 0) (n + 1) (fun fu j s hj hs => by
            obtain ⟨s1, s2, s3, s4, s5, s6, s7, s8, s9⟩ := s
            obtain ⟨hs, e8, e9⟩ := hs
            dsimp only at hs e8 e9
            subst e8
            subst e9
            obtain ⟨c1, c2, c3, c4, c5, c6, c7, f1, f2⟩ := ev_runAt hL hP hw (show T ≤ win by omega) (by omega) (show j ≤ n by omega) hm hℓ hφ h1 h2 hs
            refine Or.inr ⟨(c1, c2, c3, c4, c5, c6, c7, kI 0, kL 0), ?_, f2, rfl, rfl⟩
            simp only [Rl_runLine_99]
            rw [if_neg (by rw [kI_lt (by omega) (by omega)]; omega), if_neg (by rw [q32_0, kI_le (by omega) (by omega)]; omega), f1, bd_s, nm_eq, q32_1, kI_add])
          (fun fu s hs => ⟨s, by simp only [Rl_runLine_99]; rw [if_pos (by rw [kI_lt (by omega) (by omega)]; omega)], hs⟩) FUEL 0 (s1, s2, s3, s4, s5, s6, s7, kI 0, kL 0) (by have : FUEL = 4096 := rfl; omega) (by omega) ⟨hs, rfl, rfl⟩
        dsimp only at k2 k3 k4
        subst k3
        subst k4
        refine Or.inr ⟨(b1, b2, b3, b4, b5, b6, b7, kI 0, kL 0), ?_, k2.next, rfl, rfl⟩
        simp only [Rl_runLine_54]
        rw [ev_window hm2, bd_s, if_neg (by rw [kI_lt (by omega) (by omega)]; omega), if_neg (by rw [q32_0, kI_eq (by omega) (by omega)]; exact h0)]
        unfold Rf_runLine_97 Rf_runLine_126
        rw [q32_0, bd_e k1]
        dsimp only
        rw [nm_eq, q32_1, kI_add])
      (fun fu s hs => ⟨s, by simp only [Rl_runLine_54]; rw [ev_window hm2, bd_s, if_pos (by rw [kI_lt (by omega) (by omega)]; omega)], hs⟩) FUEL 0 (far, near, e0, kL 0, kL 0, kI 0, kI 0, kI 0, kL 0) (by have : FUEL = 4096 := rfl; omega) (by omega) ⟨hI, rfl, rfl⟩
    dsimp only at g2 g3 g4
    subst g3
    subst g4
    rw [show (0 : Int64) = kL 0 from rfl, bd_e g1]
    obtain ⟨q1, q2, q3, q4, q5, q6⟩ := g2
    refine ⟨_, _, _, _, _, _, _, rfl, q1, fun t ht => ?_, ?_, ?_, ?_, ?_⟩
    · rw [q2 t ht]
      unfold ew
      by_cases q : t ≤ win
      · rw [if_pos (by omega), if_pos q]
      · rw [if_neg (by omega), if_neg q]
    · rw [TOT_tt h0 (by omega)]; exact q3
    · rw [TOT_tt h0 (by omega)]; exact q4
    · rw [TOT_tt h0 (by omega)]; exact q5
    · rw [TOT_tt h0 (by omega)]; exact q6
end RW2
