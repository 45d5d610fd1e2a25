section RW1
variable (n : Nat) (ln fq : Nat → Nat) (ls : Nat) (np : Nat) (pt pe : Nat → Nat) (win : Nat)
def RWI (T J : Nat) (far near ech : Nat → Int64) (lf dr : Int64) (mg ds : Int32) : Prop := RTb n ln fq ls np pt pe T J far near ∧
  (∀ t, t < 201 → ech t = kL (if t < T ∨ (t = T ∧ 0 < J) then EC n ln fq ls (puP np pt pe) t else 0)) ∧ lf = kL (tt n ln fq ls (puP np pt pe) (pcP np pt) win (fun _ => 0) T J 2) ∧ dr = kL (tt n ln fq ls (puP np pt pe) (pcP np pt) win (fun _ => 0) T J 3) ∧ mg = kI (tt n ln fq ls (puP np pt pe) (pcP np pt) win (fun _ => 0) T J 5) ∧ ds = kI (tt n ln fq ls (puP np pt pe) (pcP np pt) win (fun _ => 0) T J 6)
variable {n ln fq ls np pt pe win}
theorem idx_ne {a b c d : Nat} (h : ¬ (a = c ∧ b = d)) (hb : b ≤ 200) (hd : d ≤ 200) : 201 * a + b ≠ 201 * c + d := by omega
theorem RTb.stepF {T j : Nat} {far near : Nat → Int64} (hT : T ≤ 200) (h : RTb n ln fq ls np pt pe T j far near) (hj : j < n) : ∀ j' t, j' < n → (t < T ∨ (t = T ∧ j' < j + 1)) → t ≤ 200 → vp_updL far (201 * j + T) (kL (Fa n ln fq ls (puP np pt pe) j T)) (201 * j' + t) = kL (Fa n ln fq ls (puP np pt pe) j' t) := by
  intro j' t h1 h2 h3
  by_cases e : j' = j ∧ t = T
  · obtain ⟨rfl, rfl⟩ := e
    exact up_at
  · rw [up_ne (idx_ne e h3 hT)]
    exact h.1 j' t h1 (by omega) h3
theorem RTb.stepN {T j : Nat} {far near : Nat → Int64} (hT : T ≤ 200) (h : RTb n ln fq ls np pt pe T j far near) : ∀ j' t, 1 ≤ j' → j' ≤ n → (t < T ∨ (t = T ∧ j' < j + 1)) → t ≤ 200 → vp_updL near (201 * j + T) (kL (Nw n ln fq ls (puP np pt pe) j T)) (201 * j' + t) = kL (Nw n ln fq ls (puP np pt pe) j' t) := by
  intro j' t h0 h1 h2 h3
  by_cases e : j' = j ∧ t = T
  · obtain ⟨rfl, rfl⟩ := e
    exact up_at
  · rw [up_ne (idx_ne e h3 hT)]
    exact h.2 j' t h0 h1 (by omega) h3
theorem ev_runAt (hL : LOK n ln fq ls (puP np pt pe)) (hP : POK np pt pe) (hw : win ≤ 200) {T j : Nat} (hT : T ≤ win) (hn0 : 0 < n) (hj : j ≤ n) {m : Nat → Int64} (hm : m 18 = kL ls) {ℓ φ tm : Nat → Int32} {en : Nat → Int64} (hℓ : ∀ k, k < n → ℓ k = kI (ln k)) (hφ : ∀ k, k ≤ n → φ k = kI (fq k)) (h1 : ∀ i, i < np → tm i = kI (pt i)) (h2 : ∀ i, i < np → en i = kL (pe i)) {far near ech : Nat → Int64} {lf dr : Int64} {mg ds : Int32}
    (h : RWI n ln fq ls np pt pe win T j far near ech lf dr mg ds) : ∃ far' near' ech' lf' dr' mg' ds', Rf_runAt m (kI n) ℓ φ (kI np) tm en far near ech lf dr mg ds (kI 0) (kL 0) (kI j) (kI T) = some (far', near', ech', lf', dr', mg', ds', kI 0, kL 0) ∧ RWI n ln fq ls np pt pe win T (j + 1) far' near' ech' lf' dr' mg' ds' := by
  have hl1 := hL.l1
  obtain ⟨hn, hll, hff, hls, hPs⟩ := id hL
  obtain ⟨hTb, he, rfl, rfl, rfl, rfl⟩ := h
  have bN := AN_le (ls := ls) hl1 hff hPs j T
  have bF := AF_le (ls := ls) hl1 hff hPs j T
  have c1 := bk_le (a := AN n ln fq ls (puP np pt pe) j T) (hff j)
  have c2 := bk_le (a := AF n ln fq ls (puP np pt pe) j T) (hff j)
  have bpu := puP_le hP (Nat.le_refl np) T
  have bpu' : puP np pt pe T ≤ 4000000 := bpu
  have bpc := pcP_le (np := np) (pt := pt) T np
  have bpc' : pcP np pt T ≤ np := bpc
  have hn4 := hP.1
  have eGN : GN n ln fq ls (puP np pt pe) j T = bk (AN n ln fq ls (puP np pt pe) j T) (fq j) + (AF n ln fq ls (puP np pt pe) j T - bk (AF n ln fq ls (puP np pt pe) j T) (fq j)) := rfl
  have hne : 1 ≤ j → Nw n ln fq ls (puP np pt pe) j T = kp ls (GN n ln fq ls (puP np pt pe) j T) := fun q => by rw [Ne_eq hl1, if_pos ⟨q, hj⟩]
  have d2 : dJ n ln fq ls (puP np pt pe) (pcP np pt) win j T 2 = if j = n then AN n ln fq ls (puP np pt pe) j T - bk (AN n ln fq ls (puP np pt pe) j T) (fq j) else 0 := by
    unfold dJ dN dF dL dSet
    simp
  have dN3 : dN n ln fq ls (puP np pt pe) win j T 3 = if 1 ≤ j then (if GN n ln fq ls (puP np pt pe) j T < ls then GN n ln fq ls (puP np pt pe) j T else 0) else 0 := by
    unfold dN dSet
    simp
  have dN5 : dN n ln fq ls (puP np pt pe) win j T 5 = if 1 ≤ j then mN n ln fq ls (puP np pt pe) j T else 0 := by
    unfold dN dSet
    simp
  have dN6 : dN n ln fq ls (puP np pt pe) win j T 6 = if 1 ≤ j then (if 0 < GN n ln fq ls (puP np pt pe) j T ∧ GN n ln fq ls (puP np pt pe) j T < ls then 1 else 0) else 0 := by
    unfold dN dSet
    simp
  have dF3 : dF n ln fq ls (puP np pt pe) (pcP np pt) win j T 3 = if j < n then (if GF n ln fq ls (puP np pt pe) j T < ls then GF n ln fq ls (puP np pt pe) j T else 0) else 0 := by
    unfold dF dSet
    simp
  have dF5 : dF n ln fq ls (puP np pt pe) (pcP np pt) win j T 5 = if j < n then mF n ln fq ls (puP np pt pe) (pcP np pt) j T else 0 := by
    unfold dF dSet
    simp
  have dF6 : dF n ln fq ls (puP np pt pe) (pcP np pt) win j T 6 = if j < n then (if 0 < GF n ln fq ls (puP np pt pe) j T ∧ GF n ln fq ls (puP np pt pe) j T < ls then 1 else 0) else 0 := by
    unfold dF dSet
    simp
  have dJx : ∀ i, i ≠ 2 → dJ n ln fq ls (puP np pt pe) (pcP np pt) win j T i = dF n ln fq ls (puP np pt pe) (pcP np pt) win j T i + dN n ln fq ls (puP np pt pe) win j T i := fun i hi => by
    unfold dJ dL
    rw [if_neg (fun q => hi q.1)]
    omega
  have near_half : ∀ (far1 : Nat → Int64) (lf1 : Nat) (d1 g1 s1 : Nat), (∀ j' t, j' < n → (t < T ∨ (t = T ∧ j' < j + 1)) → t ≤ 200 → far1 (201 * j' + t) = kL (Fa n ln fq ls (puP np pt pe) j' t)) → lf1 = tt n ln fq ls (puP np pt pe) (pcP np pt) win (fun _ => 0) T (j + 1) 2 → d1 = tt n ln fq ls (puP np pt pe) (pcP np pt) win (fun _ => 0) T j 3 + dF n ln fq ls (puP np pt pe) (pcP np pt) win j T 3 → g1 = tt n ln fq ls (puP np pt pe) (pcP np pt) win (fun _ => 0) T j 5 + dF n ln fq ls (puP np pt pe) (pcP np pt) win j T 5 → s1 = tt n ln fq ls (puP np pt pe) (pcP np pt) win (fun _ => 0) T j 6 + dF n ln fq ls (puP np pt pe) (pcP np pt) win j T 6 →
      ∃ far' near' ech' lf' dr' mg' ds', Rf_runAt_97 m far1 near ech (kL lf1) (kL d1) (kI g1) (kI s1) (kI 0) (kL 0) (kI j) (kI T) (kL (AF n ln fq ls (puP np pt pe) j T)) (kL (bk (AN n ln fq ls (puP np pt pe) j T) (fq j))) (kL (bk (AF n ln fq ls (puP np pt pe) j T) (fq j))) = some (far', near', ech', lf', dr', mg', ds', kI 0, kL 0) ∧ RWI n ln fq ls np pt pe win T (j + 1) far' near' ech' lf' dr' mg' ds' := by
    intro far1 lf1 d1 g1 s1 hfar el ed eg es
    unfold Rf_runAt_97 Rf_runAt_146
    by_cases j0 : j = 0
    · rw [if_pos (by rw [q32_0, kI_le (by omega) (by omega)]; omega), nm_eq, kL_sub c2, chk_true ((inb_kI (by omega)).mpr (by omega)), nm_eq, kI_nat (by omega)]
      refine ⟨_, _, _, _, _, _, _, rfl, ⟨hfar, fun j' t q0 q1 q2 q3 => hTb.2 j' t q0 q1 (by omega) q3⟩, fun t ht => ?_, by rw [el], ?_, ?_, ?_⟩
      · by_cases e : t = T
        · subst e
          rw [up_at, if_pos (Or.inr ⟨rfl, by omega⟩), j0]
          rfl
        · rw [up_ne e, he t ht]
          by_cases e2 : t < T
          · rw [if_pos (Or.inl e2), if_pos (Or.inl e2)]
          · rw [if_neg (by omega), if_neg (by omega)]
      · rw [tt_succ, dJx 3 (by decide), ed, dN3, if_neg (show ¬ 1 ≤ j by omega)]
        rfl
      · rw [tt_succ, dJx 5 (by decide), eg, dN5, if_neg (show ¬ 1 ≤ j by omega)]
        rfl
      · rw [tt_succ, dJx 6 (by decide), es, dN6, if_neg (show ¬ 1 ≤ j by omega)]
        rfl
    · have bG := GN_le hL j T
      rw [if_neg (by rw [q32_0, kI_le (by omega) (by omega)]; omega), ev_contribute (by omega), bd_s]
      dsimp only
      rw [nm_eq, kL_sub c2, ev_contribute (by omega), bd_s]
      dsimp only
      rw [nm_eq, nm_eq, q32_201, kI_mul, kI_add, Nat.zero_add, Nat.zero_add, ← eGN, ev_setsOut hm hls (by split <;> split <;> omega) (by omega), bd_s]
      dsimp only
      rw [chk_true ((inb_kI (by omega)).mpr (by omega)), nm_eq, kI_nat (by omega), ← hne (by omega)]
      refine ⟨_, _, _, _, _, _, _, rfl, ⟨hfar, hTb.stepN (by omega)⟩, fun t ht => ?_, by rw [el], ?_, ?_, ?_⟩
      · rw [he t ht]
        by_cases e2 : t < T ∨ t = T
        · rw [if_pos (by omega), if_pos (by omega)]
        · rw [if_neg (by omega), if_neg (by omega)]
      · rw [tt_succ, dJx 3 (by decide), ed, dN3, if_pos (show 1 ≤ j by omega), Nat.add_assoc]
      · rw [tt_succ, dJx 5 (by decide), eg, dN5, if_pos (show 1 ≤ j by omega), Nat.add_assoc]
        refine congrArg kI ?_
        refine congrArg _ (congrArg _ ?_)
        unfold mN
        by_cases q1 : 0 < bk (AN n ln fq ls (puP np pt pe) j T) (fq j)
        · by_cases q2 : 0 < AF n ln fq ls (puP np pt pe) j T - bk (AF n ln fq ls (puP np pt pe) j T) (fq j)
          · rw [if_pos q1, if_pos q2, if_pos (show 1 < 1 + 1 by omega), if_pos ⟨q1, q2⟩]
          · rw [if_pos q1, if_neg q2, if_neg (show ¬ 1 < 1 + 0 by omega), if_neg (fun z => q2 z.2)]
        · rw [if_neg q1, if_neg (show ¬ (0 < bk (AN n ln fq ls (puP np pt pe) j T) (fq j) ∧ 0 < AF n ln fq ls (puP np pt pe) j T - bk (AF n ln fq ls (puP np pt pe) j T) (fq j)) from fun z => q1 z.1)]
          split <;> simp_all
      · rw [tt_succ, dJx 6 (by decide), es, dN6, if_pos (show 1 ≤ j by omega), Nat.add_assoc]
  unfold Rf_runAt
  rw [q32_0, show kI 0 = 0 from rfl, ev_arrN hL (Nat.le_refl T) (by omega) hj hℓ hTb, bd_s, ev_arrF hL (Nat.le_refl T) (by omega) hj hℓ hTb, bd_s, ev_rback (by omega) (by omega) (hφ j hj) (hff j), bd_s, ev_rback (by omega) (by omega) (hφ j hj) (hff j), bd_s]
  by_cases hlast : n ≤ j
  · rw [if_pos (by rw [kI_le (by omega) (by omega)]; exact hlast), nm_eq, nm_eq, kL_sub c1, kL_add]
    refine near_half far _ _ _ _ (fun j' t q1 q2 q3 => hTb.1 j' t q1 (by omega) q3) ?_ ?_ ?_ ?_
    · rw [tt_succ, d2, if_pos (by omega)]
    · rw [dF3, if_neg (by omega)]
      rfl
    · rw [dF5, if_neg (by omega)]
      rfl
    · rw [dF6, if_neg (by omega)]
      rfl
  · have hfa : Fa n ln fq ls (puP np pt pe) j T = kp ls (GF n ln fq ls (puP np pt pe) j T) := by rw [Fa_eq hl1, if_pos (by omega)]
    rw [if_neg (by rw [kI_le (by omega) (by omega)]; exact hlast), show (0 : Int32) = kI 0 from rfl, ev_contribute (by omega), bd_s]
    dsimp only
    rw [nm_eq, kL_sub c1, ev_contribute (by omega), bd_s]
    dsimp only
    have far_half : ∀ (cc pp : Nat), cc < 1000 → pp = GF n ln fq ls (puP np pt pe) j T → (if 1 < cc then 1 else 0) = mF n ln fq ls (puP np pt pe) (pcP np pt) j T → ∃ far' near' ech' lf' dr' mg' ds', Rf_runAt_65 m far near ech (kL (tt n ln fq ls (puP np pt pe) (pcP np pt) win (fun _ => 0) T j 2)) (kL (tt n ln fq ls (puP np pt pe) (pcP np pt) win (fun _ => 0) T j 3)) (kI (tt n ln fq ls (puP np pt pe) (pcP np pt) win (fun _ => 0) T j 5)) (kI (tt n ln fq ls (puP np pt pe) (pcP np pt) win (fun _ => 0) T j 6)) (kI cc) (kL pp) (kI j) (kI T) (kL (AF n ln fq ls (puP np pt pe) j T)) (kL (bk (AN n ln fq ls (puP np pt pe) j T) (fq j))) (kL (bk (AF n ln fq ls (puP np pt pe) j T) (fq j))) = some (far', near', ech', lf', dr', mg', ds', kI 0, kL 0) ∧ RWI n ln fq ls np pt pe win T (j + 1) far' near' ech' lf' dr' mg' ds' := by
      intro cc pp hcc hpp hmm
      subst hpp
      have bG : GF n ln fq ls (puP np pt pe) j T ≤ 8000000 := by
        by_cases j0 : j = 0
        · subst j0; exact GF0_le hL T
        · exact Nat.le_trans (GF_le hL j T j0) (by omega)
      unfold Rf_runAt_65
      rw [nm_eq, nm_eq, q32_201, kI_mul, kI_add, ev_setsOut hm hls (by omega) (by omega), bd_s]
      dsimp only
      rw [chk_true ((inb_kI (by omega)).mpr (by omega)), nm_eq, kI_nat (by omega), ← hfa]
      refine near_half _ _ _ _ _ (hTb.stepF (by omega) (by omega)) ?_ ?_ ?_ ?_
      · rw [tt_succ, d2, if_neg (by omega)]
        rfl
      · rw [dF3, if_pos (show j < n by omega)]
      · rw [dF5, if_pos (show j < n by omega), hmm]
      · rw [dF6, if_pos (show j < n by omega)]
    by_cases j0 : j = 0
    · subst j0
      rw [if_pos rfl, ev_passPulses hP (by omega) h1 h2, bd_s]
      dsimp only
      refine far_half _ _ (by split <;> split <;> omega) ?_ ?_
      · unfold GF
        rw [if_pos rfl]
        omega
      · unfold mF
        rw [if_pos rfl, AN0, bk_zero, if_neg (show ¬ 0 < 0 - 0 by omega), Nat.zero_add, Nat.add_zero]
    · rw [if_neg (by rw [kI_eq (by omega) (by omega)]; exact j0)]
      refine far_half _ _ (by split <;> split <;> omega) ?_ ?_
      · unfold GF
        rw [if_neg j0]
        omega
      · unfold mF
        rw [if_neg j0]
        by_cases q1 : 0 < bk (AF n ln fq ls (puP np pt pe) j T) (fq j)
        · by_cases q2 : 0 < AN n ln fq ls (puP np pt pe) j T - bk (AN n ln fq ls (puP np pt pe) j T) (fq j)
          · rw [if_pos q1, if_pos q2, if_pos (show 1 < 0 + 1 + 1 by omega), if_pos ⟨q2, q1⟩]
          · rw [if_pos q1, if_neg q2, if_neg (show ¬ 1 < 0 + 1 + 0 by omega), if_neg (fun z => q2 z.1)]
        · rw [if_neg q1, if_neg (show ¬ (0 < AN n ln fq ls (puP np pt pe) j T - bk (AN n ln fq ls (puP np pt pe) j T) (fq j) ∧ 0 < bk (AF n ln fq ls (puP np pt pe) j T) (fq j)) from fun z => q1 z.2)]
          split <;> simp_all
end RW1
