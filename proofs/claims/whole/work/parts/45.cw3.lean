theorem loop_gen {α σ : Type} {L : Nat → σ → Int32 → Option α} (P : Nat → σ → Prop) (Q : α → Prop) (N : Nat) (hstep : ∀ fu i s, i < N → P i s → (∃ a, L (fu + 1) s (kI i) = some a ∧ Q a) ∨ ∃ s', L (fu + 1) s (kI i) = L fu s' (kI (i + 1)) ∧ P (i + 1) s') (hend : ∀ fu s, P N s → ∃ a, L (fu + 1) s (kI N) = some a ∧ Q a) : ∀ fu i s, N < fu + i → i ≤ N → P i s → ∃ a, L fu s (kI i) = some a ∧ Q a := by
  intro fu
  induction fu with
  | zero => intro i s h1 h2; omega
  | succ fu ih =>
    intro i s h1 h2 hP
    by_cases e : i = N
    · subst e
      exact hend fu s hP
    · rcases hstep fu i s (by omega) hP with h | ⟨s', h, hP'⟩
      · exact h
      · rw [h]
        exact ih (i + 1) s' (by omega) (by omega) hP'
theorem ev_fillE {c : Nat → Int64} : ∃ c', Cf_A_fill_w_echoes c 0 = some c' ∧ ∀ t, t < 201 → c' t = kL 0 := by
  obtain ⟨a, h1, h2⟩ := loop_gen (L := fun fu (s : Nat → Int64) x => Cl_A_fill_w_echoes_6 0 201 fu s x) (fun i s => ∀ t, t < i → s t = kL 0) (fun a => ∀ t, t < 201 → a t = kL 0) 201 (fun fu i s hi hP => Or.inr ⟨vp_updL s i (kL 0), by
      simp only [Cl_A_fill_w_echoes_6, nm_eq]
      rw [if_neg (by rw [q32_201, kI_le (by omega) (by omega)]; omega), chk_true ((inb_kI (by omega)).mpr hi), kI_nat (by omega), q32_1, kI_add]
      rfl, fun t ht => by
        by_cases e : t = i
        · subst e; exact up_at
        · rw [up_ne e]; exact hP t (by omega)⟩)
    (fun fu s hP => ⟨s, by simp only [Cl_A_fill_w_echoes_6]; rw [if_pos (by rw [q32_201, kI_le (by omega) (by omega)]; omega)], hP⟩) FUEL 0 c (by decide) (by omega) (fun t ht => absurd ht (by omega))
  exact ⟨a, by unfold Cf_A_fill_w_echoes; rw [q32_0]; exact (bd_e h1), h2⟩
theorem ev_fillT {c : Nat → Int64} : ∃ c', Cf_A_fill_w_totals c 0 = some c' ∧ ∀ t, t < 9 → c' t = kL 0 := by
  obtain ⟨a, h1, h2⟩ := loop_gen (L := fun fu (s : Nat → Int64) x => Cl_A_fill_w_totals_6 0 9 fu s x) (fun i s => ∀ t, t < i → s t = kL 0) (fun a => ∀ t, t < 9 → a t = kL 0) 9 (fun fu i s hi hP => Or.inr ⟨vp_updL s i (kL 0), by
      simp only [Cl_A_fill_w_totals_6, nm_eq]
      rw [if_neg (by rw [q32_9, kI_le (by omega) (by omega)]; omega), chk_true ((inb_kI (by omega)).mpr hi), kI_nat (by omega), q32_1, kI_add]
      rfl, fun t ht => by
        by_cases e : t = i
        · subst e; exact up_at
        · rw [up_ne e]; exact hP t (by omega)⟩)
    (fun fu s hP => ⟨s, by simp only [Cl_A_fill_w_totals_6]; rw [if_pos (by rw [q32_9, kI_le (by omega) (by omega)]; omega)], hP⟩) FUEL 0 c (by decide) (by omega) (fun t ht => absurd ht (by omega))
  exact ⟨a, by unfold Cf_A_fill_w_totals; rw [q32_0]; exact (bd_e h1), h2⟩
theorem gup_at {c : Nat → Nat → Int64} {j t : Nat} {v : Int64} : va_up c j (vp_updL (c j) t v) j t = v := by simp [va_up, vp_updL]
theorem gup_ne {c : Nat → Nat → Int64} {j t j' t' : Nat} {v : Int64} (h : ¬ (j' = j ∧ t' = t)) : va_up c j (vp_updL (c j) t v) j' t' = c j' t' := by
  by_cases e : j' = j
  · subst e
    have : t' ≠ t := fun q => h ⟨rfl, q⟩
    simp [va_up, vp_updL, this]
  · simp [va_up, e]
theorem ev_fillN {c : Nat → Nat → Int64} {j : Nat} (hj : j < 9) : ∃ c', Cf_A_fill_rr43 c (kI j) 0 = some c' ∧ (∀ t, t < 201 → c' j t = kL 0) ∧ ∀ j' t, j' ≠ j → c' j' t = c j' t := by
  obtain ⟨a, h1, h2⟩ := loop_gen (L := fun fu (s : Nat → Nat → Int64) x => Cl_A_fill_rr43_6 (kI j) 0 201 fu s x) (fun i s => (∀ t, t < i → s j t = kL 0) ∧ ∀ j' t, j' ≠ j → s j' t = c j' t) (fun a => (∀ t, t < 201 → a j t = kL 0) ∧ ∀ j' t, j' ≠ j → a j' t = c j' t) 201 (fun fu i s hi hP => Or.inr ⟨va_up s j (vp_updL (s j) i (kL 0)), by
      simp only [Cl_A_fill_rr43_6, nm_eq]
      rw [if_neg (by rw [q32_201, kI_le (by omega) (by omega)]; omega), chk_true ((inb_kI (by omega)).mpr hi), kI_nat (by omega), kI_nat (by omega), q32_1, kI_add]
      rfl, fun t ht => by
        by_cases e : t = i
        · subst e; exact gup_at
        · rw [gup_ne (fun q => e q.2)]; exact hP.1 t (by omega), fun j' t h => by rw [gup_ne (fun q => h q.1)]; exact hP.2 j' t h⟩)
    (fun fu s hP => ⟨s, by simp only [Cl_A_fill_rr43_6]; rw [if_pos (by rw [q32_201, kI_le (by omega) (by omega)]; omega)], hP⟩) FUEL 0 c (by decide) (by omega) ⟨fun t ht => absurd ht (by omega), fun _ _ _ => rfl⟩
  exact ⟨a, by unfold Cf_A_fill_rr43; rw [q32_0]; exact (bd_e h1), h2⟩
theorem fill52a (x0 : Int32) (x1 : Int64) (x4 : Int32) : ∀ (fu : Nat) (c : Nat → Nat → Int64) (x : Int32), Cl_A_fill_rr52_6 x0 x1 x4 fu c x = Cl_A_fill_rr43_6 x0 x1 x4 fu c x := by
  intro fu
  induction fu with
  | zero => intro c x; rfl
  | succ fu ih => intro c x; simp only [Cl_A_fill_rr52_6, Cl_A_fill_rr43_6, ih]
theorem fill52 : @Cf_A_fill_rr52 = @Cf_A_fill_rr43 := by
  funext c x y
  unfold Cf_A_fill_rr52 Cf_A_fill_rr43
  rw [fill52a]
theorem ev_clear {cN cF : Nat → Nat → Int64} {ech tot : Nat → Int64} : ∃ cN' cF' ech' tot', Cf_W_clear_w cN cF ech tot = some (cN', cF', ech', tot') ∧ (∀ j t, j < 9 → t < 201 → cN' j t = kL 0) ∧ (∀ j t, j < 9 → t < 201 → cF' j t = kL 0) ∧ (∀ t, t < 201 → ech' t = kL 0) ∧ ∀ i, i < 9 → tot' i = kL 0 := by
  obtain ⟨⟨a, b⟩, h1, h2⟩ := loop_gen (L := fun fu (s : (Nat → Nat → Int64) × (Nat → Nat → Int64)) x => Cl_W_clear_w_2 fu s.1 s.2 x) (fun i s => (∀ j t, j < i → t < 201 → s.1 j t = kL 0) ∧ ∀ j t, j < i → t < 201 → s.2 j t = kL 0) (fun s => (∀ j t, j < 9 → t < 201 → s.1 j t = kL 0) ∧ ∀ j t, j < 9 → t < 201 → s.2 j t = kL 0) 9 (fun fu i s hi hP => by
      obtain ⟨a, h1, h2, h3⟩ := ev_fillN (c := s.1) hi
      obtain ⟨b, g1, g2, g3⟩ := ev_fillN (c := s.2) hi
      refine Or.inr ⟨(a, b), ?_, fun j t hj ht => ?_, fun j t hj ht => ?_⟩
      · simp only [Cl_W_clear_w_2]
        rw [if_neg (by rw [q32_8, kI_lt (by omega) (by omega)]; omega), chk_true ((inb_kI (by omega)).mpr hi), h1, bd_s, chk_true ((inb_kI (by omega)).mpr hi), fill52, g1, bd_s, nm_eq, q32_1, kI_add]
      · by_cases e : j = i
        · subst e; exact h2 t ht
        · show a j t = _
          rw [h3 j t e]; exact hP.1 j t (by omega) ht
      · by_cases e : j = i
        · subst e; exact g2 t ht
        · show b j t = _
          rw [g3 j t e]; exact hP.2 j t (by omega) ht)
    (fun fu s hP => ⟨s, by simp only [Cl_W_clear_w_2]; rw [if_pos (by rw [q32_8, kI_lt (by omega) (by omega)]; omega)], hP⟩) FUEL 0 (cN, cF) (by decide) (by omega) ⟨fun j t hj => absurd hj (by omega), fun j t hj => absurd hj (by omega)⟩
  obtain ⟨e1, f1, f2⟩ := ev_fillE (c := ech)
  obtain ⟨t1, g1, g2⟩ := ev_fillT (c := tot)
  refine ⟨a, b, e1, t1, ?_, h2.1, h2.2, f2, g2⟩
  unfold Cf_W_clear_w
  rw [q32_0, bd_e h1]
  dsimp only
  rw [f1, bd_s, g1, bd_s]
def puP (np : Nat) (pt pe : Nat → Nat) (t : Nat) : Nat := sm (fun i => if pt i = t then pe i else 0) np
def pcP (np : Nat) (pt : Nat → Nat) (t : Nat) : Nat := sm (fun i => if pt i = t then 1 else 0) np
def seP (np : Nat) (pt pe : Nat → Nat) (win : Nat) : Nat := sm (fun i => if pt i ≤ win then pe i else 0) np
def POK (np : Nat) (pt pe : Nat → Nat) : Prop := np ≤ 4 ∧ ∀ i, i < np → pt i ≤ 100 ∧ 1 ≤ pe i ∧ pe i ≤ 1000000
theorem sm_bound {f : Nat → Nat} {k c : Nat} (h : ∀ i, i < k → f i ≤ c) : sm f k ≤ k * c := by
  rw [← sm_const]
  exact sm_le h
theorem pcP_le {np : Nat} {pt : Nat → Nat} (t k : Nat) : sm (fun i => if pt i = t then 1 else 0) k ≤ k := by
  have := sm_bound (f := fun i => if pt i = t then 1 else 0) (k := k) (c := 1) (fun i _ => by split <;> omega)
  omega
theorem puP_le {np k : Nat} {pt pe : Nat → Nat} (h : POK np pt pe) (hk : k ≤ np) (t : Nat) : sm (fun i => if pt i = t then pe i else 0) k ≤ 4000000 := by
  have := sm_bound (f := fun i => if pt i = t then pe i else 0) (k := k) (c := 1000000) (fun i hi => by have := (h.2 i (by omega)).2.2; split <;> omega)
  have := h.1
  omega
theorem seP_le {np k : Nat} {pt pe : Nat → Nat} (h : POK np pt pe) (hk : k ≤ np) (w : Nat) : sm (fun i => if pt i ≤ w then pe i else 0) k ≤ 4000000 := by
  have := sm_bound (f := fun i => if pt i ≤ w then pe i else 0) (k := k) (c := 1000000) (fun i hi => by have := (h.2 i (by omega)).2.2; split <;> omega)
  have := h.1
  omega
theorem puP_sum {np : Nat} {pt pe : Nat → Nat} (h : POK np pt pe) (T : Nat) : sm (puP np pt pe) T ≤ 4000000 := by
  have e : sm (puP np pt pe) T = sm (fun i => sm (fun t => if pt i = t then pe i else 0) T) np := sm_swap (fun t i => if pt i = t then pe i else 0) T np
  rw [e]
  have h1 : ∀ i, i < np → sm (fun t => if pt i = t then pe i else 0) T ≤ 1000000 := fun i hi => by
    have hb := (h.2 i hi).2.2
    have : ∀ T, sm (fun t => if pt i = t then pe i else 0) T = if pt i < T then pe i else 0 := fun T => by
      induction T with
      | zero => rfl
      | succ T ih =>
        simp only [sm]
        rw [ih]
        by_cases c : pt i = T
        · rw [if_neg (by omega), if_pos c, if_pos (by omega)]; omega
        · rw [if_neg c]
          by_cases c2 : pt i < T
          · rw [if_pos c2, if_pos (by omega)]; omega
          · rw [if_neg c2, if_neg (by omega)]
    rw [this]
    split <;> omega
  have := sm_bound h1
  have := h.1
  omega
theorem ev_addPulses {np win : Nat} {pt pe : Nat → Nat} (hP : POK np pt pe) (hw : win ≤ 200) {ptc pec : Nat → Int32} (h1 : ∀ i, i < np → ptc i = kI (pt i)) (h2 : ∀ i, i < np → pec i = kI (pe i)) {tot : Nat → Int64} (ht : ∀ i, i < 9 → tot i = kL 0) :
    ∃ tot', Cf_W_addUpPulses_w_n (kI win) (kI np) ptc pec tot = some tot' ∧ ∀ i, i < 9 → tot' i = kL (if i = 0 then seP np pt pe win else 0) := by
  have hn := hP.1
  obtain ⟨a, g1, g2⟩ := loop_gen (L := fun fu (s : Nat → Int64) x => Cl_W_addUpPulses_w_n_2 (kI win) (kI np) ptc pec fu s x) (fun k s => ∀ i, i < 9 → s i = kL (if i = 0 then sm (fun i => if pt i ≤ win then pe i else 0) k else 0)) (fun s => ∀ i, i < 9 → s i = kL (if i = 0 then seP np pt pe win else 0)) np (fun fu k s hk hs => by
      have hb := hP.2 k hk
      refine Or.inr ⟨vp_updL s 0 (s 0 + kL (if pt k ≤ win then pe k else 0)), ?_, fun i hi => ?_⟩
      · simp only [Cl_W_addUpPulses_w_n_2, nm_eq, Cf_W_addUpPulses_w_n_39]
        rw [if_neg (by rw [kI_le (by omega) (by omega)]; omega), chk_true ((inb_kI (by omega)).mpr (by omega)), kI_nat (by omega), h1 k hk, h2 k hk]
        by_cases c : pt k ≤ win
        · rw [if_neg (by rw [kI_lt (by omega) (by omega)]; omega), chk_true (by decide), chk_true ((inb_kI (by omega)).mpr (by omega)), chk_true (by decide), if_pos c, t32_0, kI_long (by omega), q32_1, kI_add]
        · rw [if_pos (by rw [kI_lt (by omega) (by omega)]; omega), if_neg c, kL0_add, q32_1, kI_add]
          congr 1
          funext i
          by_cases e : i = 0
          · subst e; rw [up_at]
          · rw [up_ne e]
      · by_cases e : i = 0
        · subst e
          rw [up_at, hs 0 hi, kL_add, if_pos rfl, if_pos rfl]
          rfl
        · rw [up_ne e, hs i hi, if_neg e, if_neg e])
    (fun fu s hs => ⟨s, by simp only [Cl_W_addUpPulses_w_n_2]; rw [if_pos (by rw [kI_le (by omega) (by omega)]; omega)], hs⟩) FUEL 0 tot (by have : FUEL = 4096 := rfl; omega) (by omega) (fun i hi => by rw [ht i hi]; split <;> rfl)
  exact ⟨a, by unfold Cf_W_addUpPulses_w_n; rw [q32_0]; exact bd_e g1, g2⟩
