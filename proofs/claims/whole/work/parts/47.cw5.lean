def mx (f : Nat → Nat) : Nat → Nat
  | 0 => 0
  | k + 1 => if mx f k < f k then f k else mx f k
theorem mx_le {f : Nat → Nat} {k c : Nat} (h : ∀ i, i < k → f i ≤ c) : mx f k ≤ c := by
  induction k with
  | zero => exact Nat.zero_le _
  | succ k ih =>
    simp only [mx]
    split
    · exact h k (by omega)
    · exact ih (fun i hi => h i (by omega))
theorem ev_echoSum {ech tot : Nat → Int64} {e : Nat → Nat} {b : Nat → Nat} (he : ∀ t, t < 201 → ech t = kL (e t)) (hb : ∀ t, t < 201 → e t ≤ 4000000) (ht : ∀ i, i < 9 → tot i = kL (b i)) (h0 : b 1 = 0 ∧ b 7 = 0 ∧ b 8 = 0) :
    ∃ tot', Cf_W_addUpEchoes_w ech tot = some tot' ∧ ∀ i, i < 9 → tot' i = kL (if i = 1 then sm e 201 else if i = 7 then sm (fun t => if 0 < e t then 1 else 0) 201 else if i = 8 then mx e 201 else b i) := by
  obtain ⟨a, g1, g2⟩ := loop_gen (L := fun fu (s : Nat → Int64) x => Cl_W_addUpEchoes_w_2 ech fu s x) (fun k s => ∀ i, i < 9 → s i = kL (if i = 1 then sm e k else if i = 7 then sm (fun t => if 0 < e t then 1 else 0) k else if i = 8 then mx e k else b i)) (fun s => ∀ i, i < 9 → s i = kL (if i = 1 then sm e 201 else if i = 7 then sm (fun t => if 0 < e t then 1 else 0) 201 else if i = 8 then mx e 201 else b i)) 201 (fun fu k s hk hs => by
      have hbk := hb k hk
      have hm : mx e k ≤ 4000000 := mx_le (fun i hi => hb i (by omega))
      by_cases c : e k = 0
      · refine Or.inr ⟨s, ?_, fun i hi => ?_⟩
        · simp only [Cl_W_addUpEchoes_w_2, nm_eq, Cf_W_addUpEchoes_w_69]
          rw [if_neg (by rw [q32_201, kI_le (by omega) (by omega)]; omega), chk_true ((inb_kI (by omega)).mpr hk), kI_nat (by omega), he k hk, if_pos (by rw [q64_0, kL_le (by omega) (by omega)]; omega), q32_1, kI_add]
        · rw [hs i hi]
          refine congrArg kL ?_
          simp only [sm, mx]
          rw [c]
          simp
      · refine Or.inr ⟨vp_updL (vp_updL (vp_updL s 1 (s 1 + kL (e k))) 7 (s 7 + 1)) 8 (kL (mx e (k + 1))), ?_, fun i hi => ?_⟩
        · simp only [Cl_W_addUpEchoes_w_2, nm_eq, Cf_W_addUpEchoes_w_69]
          rw [if_neg (by rw [q32_201, kI_le (by omega) (by omega)]; omega), chk_true ((inb_kI (by omega)).mpr hk), kI_nat (by omega), he k hk, if_neg (by rw [q64_0, kL_le (by omega) (by omega)]; omega)]
          rw [chk_true (by decide), chk_true ((inb_kI (by omega)).mpr hk), chk_true (by decide), chk_true (by decide), chk_true (by decide), chk_true (by decide), chk_true ((inb_kI (by omega)).mpr hk), chk_true (by decide), t32_1, t32_7, t32_8]
          rw [up_ne (show (8 : Nat) ≠ 7 by decide), up_ne (show (8 : Nat) ≠ 1 by decide), up_ne (show (7 : Nat) ≠ 1 by decide), q32_1, kI_add]
          have e8 : s 8 = kL (mx e k) := by
            rw [hs 8 (by omega)]
            simp
          rw [e8]
          have : (if kL (e k) < kL (mx e k) then kL (mx e k) else kL (e k)) = kL (mx e (k + 1)) := by
            simp only [mx]
            by_cases c2 : mx e k < e k
            · rw [if_neg (by rw [kL_lt (by omega) (by omega)]; omega), if_pos c2]
            · rw [if_neg c2]
              by_cases c3 : e k < mx e k
              · rw [if_pos (by rw [kL_lt (by omega) (by omega)]; exact c3)]
              · rw [if_neg (by rw [kL_lt (by omega) (by omega)]; exact c3), show e k = mx e k by omega]
          rw [this]
        · by_cases i8 : i = 8
          · subst i8
            rw [up_at, if_neg (by decide), if_neg (by decide), if_pos rfl]
          · rw [up_ne i8]
            by_cases i7 : i = 7
            · subst i7
              rw [up_at, if_neg (by decide), if_pos rfl, hs 7 (by omega), if_neg (by decide), if_pos rfl]
              simp only [sm]
              rw [if_pos (by omega), ← kL_add]
              rfl
            · rw [up_ne i7]
              by_cases i1 : i = 1
              · subst i1
                rw [up_at, if_pos rfl, hs 1 (by omega), if_pos rfl, kL_add]
                rfl
              · rw [up_ne i1, hs i hi, if_neg i1, if_neg i7, if_neg i8, if_neg i1, if_neg i7, if_neg i8])
    (fun fu s hs => ⟨s, by simp only [Cl_W_addUpEchoes_w_2]; rw [if_pos (by rw [q32_201, kI_le (by omega) (by omega)]; omega)], hs⟩) FUEL 0 tot (by decide) (by omega) (fun i hi => by
      rw [ht i hi]
      refine congrArg kL ?_
      by_cases i1 : i = 1
      · subst i1; rw [if_pos rfl, h0.1]; rfl
      · rw [if_neg i1]
        by_cases i7 : i = 7
        · subst i7; rw [if_pos rfl, h0.2.1]; rfl
        · rw [if_neg i7]
          by_cases i8 : i = 8
          · subst i8; rw [if_pos rfl, h0.2.2]; rfl
          · rw [if_neg i8])
  exact ⟨a, by unfold Cf_W_addUpEchoes_w; rw [q32_0]; exact bd_e g1, g2⟩
section CW5
variable (n : Nat) (ln fq : Nat → Nat) (ls : Nat) (np : Nat) (pt pe : Nat → Nat) (win : Nat)
def ew (t : Nat) : Nat := if t ≤ win then EC n ln fq ls (puP np pt pe) t else 0
def TOT (i : Nat) : Nat := if i = 0 then seP np pt pe win else if i = 1 then sm (ew n ln fq ls np pt pe win) 201 else if i = 2 ∧ n = 0 then seP np pt pe win else if i = 7 then sm (fun t => if 0 < ew n ln fq ls np pt pe win t then 1 else 0) 201 else if i = 8 then mx (ew n ln fq ls np pt pe win) 201 else sm (fun t => sm (fun j => dJ n ln fq ls (puP np pt pe) (pcP np pt) win j t i) (n + 1)) (win + 1)
def WR (cN cF : Nat → Nat → Int64) (ech tot : Nat → Int64) : Prop :=
  (∀ j t, j < 9 → t ≤ win → cN j t = kL (AN n ln fq ls (puP np pt pe) j t)) ∧ (∀ j t, j < 9 → t ≤ win → cF j t = kL (AF n ln fq ls (puP np pt pe) j t)) ∧ (∀ t, t < 201 → ech t = kL (ew n ln fq ls np pt pe win t)) ∧ ∀ i, i < 9 → tot i = kL (TOT n ln fq ls np pt pe win i)
variable {n ln fq ls np pt pe win}
theorem EC_le (hL : LOK n ln fq ls (puP np pt pe)) (t : Nat) : EC n ln fq ls (puP np pt pe) t ≤ 4000000 := by
  unfold EC
  have := AF_le (ls := ls) hL.l1 hL.2.2.1 hL.2.2.2.2 0 t
  omega
theorem ew_le (hL : LOK n ln fq ls (puP np pt pe)) (t : Nat) : ew n ln fq ls np pt pe win t ≤ 4000000 := by
  unfold ew
  split
  · exact EC_le hL t
  · omega
theorem AN_n0 (h : n = 0) (pu : Nat → Nat) (j t : Nat) : AN n ln fq ls pu j t = 0 := by
  unfold AN aN
  rw [if_neg (by omega)]
theorem AF_n0 (h : n = 0) (pu : Nat → Nat) (j t : Nat) : AF n ln fq ls pu j t = 0 := by
  unfold AF aF
  rw [if_neg (by omega)]
theorem ew_n0 (h : n = 0) (t : Nat) : ew n ln fq ls np pt pe win t = 0 := by
  unfold ew EC
  rw [AF_n0 h]
  split <;> simp
theorem dJ_n0 (h : n = 0) (pu pc : Nat → Nat) (t i : Nat) : dJ n ln fq ls pu pc win 0 t i = 0 := by
  unfold dJ dN dF dL
  rw [AN_n0 h, if_neg (show ¬ 1 ≤ 0 by omega), if_neg (show ¬ 0 < n by omega)]
  simp
theorem dJ_out (pu pc : Nat → Nat) (j t : Nat) {i : Nat} (hi : i = 0 ∨ i = 1 ∨ i = 7 ∨ i = 8) : dJ n ln fq ls pu pc win j t i = 0 := by
  unfold dJ dN dF dL dSet
  simp (disch := omega) [show ¬ i = 2 by omega, show ¬ i = 3 by omega, show ¬ i = 4 by omega, show ¬ i = 5 by omega, show ¬ i = 6 by omega]
theorem tt_out (pu pc b0 : Nat → Nat) (T : Nat) {i : Nat} (hi : i = 0 ∨ i = 1 ∨ i = 7 ∨ i = 8) : tt n ln fq ls pu pc win b0 T 0 i = b0 i := by
  show b0 i + sm _ T + 0 = b0 i
  rw [sm_zero (fun t _ => sm_zero (fun j _ => dJ_out pu pc j t hi))]
  omega
theorem tt_in (pu pc b0 : Nat → Nat) (T i : Nat) (h : b0 i = 0) : tt n ln fq ls pu pc win b0 T 0 i = sm (fun t => sm (fun j => dJ n ln fq ls pu pc win j t i) (n + 1)) T := by
  show b0 i + sm _ T + 0 = _
  rw [h]
  omega
theorem ev_spread (hL : LOK n ln fq ls (puP np pt pe)) (hP : POK np pt pe) (hw : win ≤ 200) {ℓc φc ptc pec : Nat → Int32} (hℓ : ∀ k, k < n → ℓc k = kI (ln k)) (hφ : ∀ k, k < n → φc k = kI (fq (k + 1))) (h1 : ∀ i, i < np → ptc i = kI (pt i)) (h2 : ∀ i, i < np → pec i = kI (pe i)) {cN cF : Nat → Nat → Int64} {ech tot : Nat → Int64} :
    ∃ cN' cF' ech' tot', Cf_W_spread_w_n (kI n) (kI (fq 0)) (kI ls) (kI win) (kI np) ℓc φc ptc pec cN cF ech tot = some (cN', cF', ech', tot') ∧ WR n ln fq ls np pt pe win cN' cF' ech' tot' := by
  have hn := hL.1
  unfold Cf_W_spread_w_n
  obtain ⟨a, b, c, d, e1, z1, z2, z3, z4⟩ := ev_clear (cN := cN) (cF := cF) (ech := ech) (tot := tot)
  rw [e1, bd_s]
  dsimp only
  obtain ⟨d1, e2, f2⟩ := ev_addPulses hP hw h1 h2 z4
  rw [e2, bd_s]
  by_cases h0 : n = 0
  · rw [if_pos (by rw [q32_0, kI_eq (by omega) (by omega)]; exact h0), chk_true (by decide), nm_eq, chk_true (by decide), nm_eq, t32_0, t32_2]
    refine ⟨_, _, _, _, rfl, fun j t hj ht => ?_, fun j t hj ht => ?_, fun t ht => ?_, fun i hi => ?_⟩
    · rw [z1 j t hj (by omega), AN_n0 h0]
    · rw [z2 j t hj (by omega), AF_n0 h0]
    · rw [z3 t ht, ew_n0 h0]
    · by_cases i2 : i = 2
      · subst i2
        rw [up_at, f2 0 (by omega), if_pos rfl]
        unfold TOT
        rw [if_neg (by decide), if_neg (by decide), if_pos ⟨rfl, h0⟩]
      · rw [up_ne i2, f2 i hi]
        refine congrArg kL ?_
        unfold TOT
        by_cases i0 : i = 0
        · rw [if_pos i0, if_pos i0]
        · rw [if_neg i0, if_neg i0]
          have s0 : sm (ew n ln fq ls np pt pe win) 201 = 0 := sm_zero (fun t _ => ew_n0 h0 t)
          have s7 : sm (fun t => if 0 < ew n ln fq ls np pt pe win t then 1 else 0) 201 = 0 := sm_zero (fun t _ => by rw [ew_n0 h0 t]; rfl)
          have s8 : mx (ew n ln fq ls np pt pe win) 201 = 0 := Nat.le_zero.mp (mx_le (fun t _ => by rw [ew_n0 h0 t]; exact Nat.le_refl _))
          have sd : sm (fun t => sm (fun j => dJ n ln fq ls (puP np pt pe) (pcP np pt) win j t i) (n + 1)) (win + 1) = 0 := sm_zero (fun t _ => sm_zero (fun j hj => by
            have : j = 0 := by omega
            subst this
            exact dJ_n0 h0 _ _ t i))
          rw [s0, s7, s8, sd, if_neg (show ¬ (i = 2 ∧ n = 0) from fun q => i2 q.1)]
          simp
  · rw [if_neg (by rw [q32_0, kI_eq (by omega) (by omega)]; exact h0)]
    have hI : CWI n ln fq ls (puP np pt pe) (pcP np pt) win (fun i => if i = 0 then seP np pt pe win else 0) 0 0 a b c d1 := by
      refine ⟨fun j t hj ht => ?_, fun j t hj ht => ?_, fun t ht => ?_, fun i hi => ?_⟩
      · rw [z1 j t hj ht]
        refine congrArg kL ?_
        have : aN n ln (FaP n ln fq ls (puP np pt pe) 0 0) j t = 0 := by
          unfold aN
          split
          · unfold FaP
            rw [if_neg (by omega)]
          · rfl
        rw [this]
        split <;> rfl
      · rw [z2 j t hj ht]
        refine congrArg kL ?_
        have : aF n ln (NeP n ln fq ls (puP np pt pe) 0 0) j t = 0 := by
          unfold aF
          split
          · unfold NeP
            rw [if_neg (by omega)]
          · rfl
        rw [this]
        split <;> rfl
      · rw [z3 t ht, if_neg (by omega)]
      · rw [f2 i hi]
        rfl
    obtain ⟨a', b', c', d', e3, g1, g2, g3, g4⟩ := ev_times hL hP (by omega) hw hℓ hφ h1 h2 hI
    rw [e3, bd_s]
    dsimp only
    have he : ∀ t, t < 201 → c' t = kL (ew n ln fq ls np pt pe win t) := fun t ht => by
      rw [g3 t ht]
      unfold ew
      by_cases q : t ≤ win
      · rw [if_pos (by omega), if_pos q]
      · rw [if_neg (by omega), if_neg q]
    obtain ⟨d2, e4, f4⟩ := ev_echoSum he (fun t _ => ew_le hL t) g4 ⟨(tt_out _ _ _ _ (by omega)).trans (if_neg (by decide)), (tt_out _ _ _ _ (by omega)).trans (if_neg (by decide)), (tt_out _ _ _ _ (by omega)).trans (if_neg (by decide))⟩
    rw [e4, bd_s]
    refine ⟨_, _, _, _, rfl, fun j t hj ht => ?_, fun j t hj ht => ?_, he, fun i hi => ?_⟩
    · rw [g1 j t hj (by omega), if_pos ht]
      refine congrArg kL ?_
      unfold AN aN
      by_cases q : 1 ≤ j ∧ j ≤ n ∧ ln (j - 1) ≤ t
      · rw [if_pos q, if_pos q]
        unfold FaP
        rw [if_pos (Or.inl (by omega))]
      · rw [if_neg q, if_neg q]
    · rw [g2 j t hj (by omega), if_pos ht]
      refine congrArg kL ?_
      unfold AF aF
      by_cases q : j < n ∧ ln j ≤ t
      · rw [if_pos q, if_pos q]
        unfold NeP
        rw [if_pos (Or.inl (by omega))]
      · rw [if_neg q, if_neg q]
    · rw [f4 i hi]
      refine congrArg kL ?_
      unfold TOT
      by_cases i1 : i = 1
      · subst i1
        simp
      · rw [if_neg i1]
        by_cases i0 : i = 0
        · subst i0
          rw [if_neg (by decide), if_neg (by decide), if_pos rfl]
          exact (tt_out _ _ _ _ (by omega)).trans (if_pos rfl)
        · rw [if_neg i0, if_neg (show ¬ (i = 2 ∧ n = 0) from fun q => h0 q.2), if_neg i1]
          by_cases i7 : i = 7
          · rw [if_pos i7, if_pos i7]
          · rw [if_neg i7, if_neg i7]
            by_cases i8 : i = 8
            · rw [if_pos i8, if_pos i8]
            · rw [if_neg i8, if_neg i8]
              exact tt_in _ _ _ _ _ (if_neg i0)
end CW5
