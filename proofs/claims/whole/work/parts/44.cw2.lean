theorem ev_merge {tot : Nat → Int64} {a b : Nat} (ha : a < 1000000000) (hb : b < 1000000000) : ∃ tot', Cf_W_countMerging_w tot (kL a) (kL b) = some tot' ∧ ∀ i, tot' i = tot i + kL (if i = 5 ∧ 0 < a ∧ 0 < b then 1 else 0) := by
  unfold Cf_W_countMerging_w
  by_cases h1 : a = 0
  · rw [if_pos (by rw [q64_0, kL_le (by omega) (by omega)]; omega)]
    exact ⟨_, rfl, fun i => by rw [if_neg (by omega), kL0_add]⟩
  · rw [if_neg (by rw [q64_0, kL_le (by omega) (by omega)]; omega)]
    by_cases h2 : b = 0
    · rw [if_pos (by rw [q64_0, kL_le (by omega) (by omega)]; omega)]
      exact ⟨_, rfl, fun i => by rw [if_neg (by omega), kL0_add]⟩
    · rw [if_neg (by rw [q64_0, kL_le (by omega) (by omega)]; omega)]
      simp only [nm_eq]
      rw [chk_true (by decide), chk_true (by decide), t32_5]
      refine ⟨_, rfl, fun i => ?_⟩
      by_cases e : i = 5
      · subst e
        rw [up_at, if_pos ⟨rfl, by omega, by omega⟩]
        rfl
      · rw [up_ne e, if_neg (by omega), kL0_add]
theorem put_eq {A B j' t' win v old : Nat} (h0 : j' = A ∧ t' = B → old = 0) : (if j' = A ∧ t' = B ∧ t' ≤ win ∧ 0 < v then kL v else kL (if t' ≤ win then old else 0)) = kL (if t' ≤ win then (if j' = A ∧ t' = B then v else old) else 0) := by
  by_cases c : j' = A ∧ t' = B
  · rw [if_pos c, h0 c]
    by_cases c3 : t' ≤ win
    · rw [if_pos c3, if_pos c3]
      by_cases c4 : 0 < v
      · rw [if_pos ⟨c.1, c.2, c3, c4⟩]
      · rw [if_neg (fun q => c4 q.2.2.2), show v = 0 by omega]
    · rw [if_neg (fun q => c3 q.2.2.1), if_neg c3, if_neg c3]
  · rw [if_neg (fun q => c ⟨q.1, q.2.1⟩), if_neg c]
section CW2
variable (n : Nat) (ln fq : Nat → Nat) (ls : Nat) (pu pc : Nat → Nat) (win : Nat) (b0 : Nat → Nat)
def tt (T J i : Nat) : Nat := b0 i + sm (fun t => sm (fun j => dJ n ln fq ls pu pc win j t i) (n + 1)) T + sm (fun j => dJ n ln fq ls pu pc win j T i) J
def CWI (T J : Nat) (cN cF : Nat → Nat → Int64) (ech tot : Nat → Int64) : Prop :=
  (∀ j t, j < 9 → t < 201 → cN j t = kL (if t ≤ win then aN n ln (FaP n ln fq ls pu T J) j t else 0)) ∧ (∀ j t, j < 9 → t < 201 → cF j t = kL (if t ≤ win then aF n ln (NeP n ln fq ls pu T J) j t else 0)) ∧
  (∀ t, t < 201 → ech t = kL (if t < T ∨ (t = T ∧ 0 < J) then EC n ln fq ls pu t else 0)) ∧ ∀ i, i < 9 → tot i = kL (tt n ln fq ls pu pc win b0 T J i)
variable {n ln fq ls pu pc win b0}
theorem LOK.l1 (h : LOK n ln fq ls pu) : ∀ j, j < n → 1 ≤ ln j := fun j hj => (h.2.1 j hj).1
theorem GF_le (h : LOK n ln fq ls pu) (j t : Nat) (hj : j ≠ 0) : GF n ln fq ls pu j t ≤ 4000000 := by
  unfold GF
  have := mix_le (AF_le (ls := ls) h.l1 h.2.2.1 h.2.2.2.2 j t) (AN_le (ls := ls) h.l1 h.2.2.1 h.2.2.2.2 j t) (h.2.2.1 j)
  rw [if_neg hj]
  omega
theorem GN_le (h : LOK n ln fq ls pu) (j t : Nat) : GN n ln fq ls pu j t ≤ 4000000 := by
  unfold GN
  exact mix_le (AN_le (ls := ls) h.l1 h.2.2.1 h.2.2.2.2 j t) (AF_le (ls := ls) h.l1 h.2.2.1 h.2.2.2.2 j t) (h.2.2.1 j)
theorem pu_le (h : LOK n ln fq ls pu) (t : Nat) : pu t ≤ 4000000 := by
  have := h.2.2.2.2 (t + 1)
  simp only [sm] at this
  omega
theorem GF0_le (h : LOK n ln fq ls pu) (t : Nat) : GF n ln fq ls pu 0 t ≤ 8000000 := by
  unfold GF
  have h1 := mix_le (AF_le (ls := ls) h.l1 h.2.2.1 h.2.2.2.2 0 t) (AN_le (ls := ls) h.l1 h.2.2.1 h.2.2.2.2 0 t) (h.2.2.1 0)
  have h2 := pu_le h t
  rw [if_pos rfl]
  omega
theorem tt_succ (T J i : Nat) : tt n ln fq ls pu pc win b0 T (J + 1) i = tt n ln fq ls pu pc win b0 T J i + dJ n ln fq ls pu pc win J T i := by
  unfold tt
  simp only [sm]
  omega
theorem tt_next (T i : Nat) : tt n ln fq ls pu pc win b0 T (n + 1) i = tt n ln fq ls pu pc win b0 (T + 1) 0 i := by
  unfold tt
  simp only [sm]
  omega
theorem CWI.next {T : Nat} {cN cF : Nat → Nat → Int64} {ech tot : Nat → Int64} (h : CWI n ln fq ls pu pc win b0 T (n + 1) cN cF ech tot) : CWI n ln fq ls pu pc win b0 (T + 1) 0 cN cF ech tot := by
  obtain ⟨h1, h2, h3, h4⟩ := h
  refine ⟨fun j t hj ht => ?_, fun j t hj ht => ?_, fun t ht => ?_, fun i hi => ?_⟩
  · rw [h1 j t hj ht, aN_next]
  · rw [h2 j t hj ht, aF_next]
  · rw [h3 t ht]
    by_cases e : t < T + 1
    · rw [if_pos (by omega), if_pos (by omega)]
    · rw [if_neg (by omega), if_neg (by omega)]
  · rw [h4 i hi, tt_next]
theorem aN_old {T j j' t' : Nat} (c : j' = j + 1 ∧ t' = T + ln j) : aN n ln (FaP n ln fq ls pu T j) j' t' = 0 := by
  unfold aN
  split
  · unfold FaP
    rw [if_neg (by rw [c.1, c.2, Nat.add_sub_cancel]; omega)]
  · rfl
theorem aF_old {T j j' t' : Nat} (c : j' = j - 1 ∧ t' = T + ln (j - 1)) (hj0 : 1 ≤ j) : aF n ln (NeP n ln fq ls pu T j) j' t' = 0 := by
  unfold aF
  split
  · unfold NeP
    rw [if_neg (by rw [c.1, c.2]; omega)]
  · rfl
theorem dSet_zero (a i : Nat) : dSet ls win a 0 i = 0 := by
  unfold dSet
  rw [kp_zero]
  simp
theorem ev_joint35 (hL : LOK n ln fq ls pu) (hw : win ≤ 200) {T j : Nat} (hT : T ≤ win) (hj0 : 1 ≤ j) (hj : j ≤ n) {ℓc φc : Nat → Int32} (hℓ : ∀ k, k < n → ℓc k = kI (ln k)) (hφ : ∀ k, k < n → φc k = kI (fq (k + 1))) {cN cF : Nat → Nat → Int64} {ech tot : Nat → Int64} (h : CWI n ln fq ls pu pc win b0 T j cN cF ech tot) :
    ∃ cN' cF' tot', Cf_W_meetJoint_w_n_35 (kI n) (kI ls) (kI win) ℓc φc cN cF tot (kI j) (kI T) (kL (AN n ln fq ls pu j T)) (kL (AF n ln fq ls pu j T)) = some (cN', cF', tot') ∧ CWI n ln fq ls pu pc win b0 T (j + 1) cN' cF' ech tot' := by
  have hl1 := hL.l1
  obtain ⟨hn, hll, hff, hls, hP⟩ := id hL
  obtain ⟨h1, h2, h3, h4⟩ := h
  have eN : cN j T = kL (AN n ln fq ls pu j T) := by rw [h1 j T (by omega) (by omega), if_pos hT, aN_read hl1]
  have eF : cF j T = kL (AF n ln fq ls pu j T) := by rw [h2 j T (by omega) (by omega), if_pos hT, aF_read hl1]
  have bN := AN_le (ls := ls) hl1 hff hP j T
  have bF := AF_le (ls := ls) hl1 hff hP j T
  have ech' : ∀ t, t < 201 → ech t = kL (if t < T ∨ (t = T ∧ 0 < j + 1) then EC n ln fq ls pu t else 0) := fun t ht => by
    rw [h3 t ht]
    by_cases e : t < T ∨ t = T
    · rw [if_pos (by omega), if_pos (by omega)]
    · rw [if_neg (by omega), if_neg (by omega)]
  have hfa : Fa n ln fq ls pu j T = if j < n then kp ls (GF n ln fq ls pu j T) else 0 := Fa_eq hl1 j T
  have hne : Nw n ln fq ls pu j T = kp ls (GN n ln fq ls pu j T) := by rw [Ne_eq hl1, if_pos ⟨hj0, hj⟩]
  have eGF : GF n ln fq ls pu j T = bk (AF n ln fq ls pu j T) (fq j) + (AN n ln fq ls pu j T - bk (AN n ln fq ls pu j T) (fq j)) := by
    unfold GF
    rw [if_neg (by omega), Nat.add_zero]
  have eGN : GN n ln fq ls pu j T = bk (AN n ln fq ls pu j T) (fq j) + (AF n ln fq ls pu j T - bk (AF n ln fq ls pu j T) (fq j)) := rfl
  have c1 := bk_le (a := AN n ln fq ls pu j T) (hff j)
  have c2 := bk_le (a := AF n ln fq ls pu j T) (hff j)
  unfold Cf_W_meetJoint_w_n_35
  simp only [nm_eq]
  rw [q32_1, kI_sub hj0, chk_true ((inb_kI (by omega)).mpr (by omega)), kI_nat (by omega), hφ (j - 1) (by omega), Nat.sub_add_cancel hj0, ev_back (by omega) (hff j), bd_s, ev_back (by omega) (hff j), bd_s, kL_sub c2]
  obtain ⟨t1, e1, m1⟩ := ev_merge (tot := tot) (a := bk (AN n ln fq ls pu j T) (fq j)) (b := AF n ln fq ls pu j T - bk (AF n ln fq ls pu j T) (fq j)) (by omega) (by omega)
  rw [e1, bd_s, kL_add, kL_sub (by omega), show bk (AN n ln fq ls pu j T) (fq j) + AF n ln fq ls pu j T - bk (AF n ln fq ls pu j T) (fq j) = GN n ln fq ls pu j T by rw [eGN]; omega]
  have bG := GN_le hL j T
  obtain ⟨cF1, t2, e2, f2, m2⟩ := ev_setOutN (ls := ls) (win := win) (k := j - 1) (t := T) (e := GN n ln fq ls pu j T) (ℓc := ℓc) (ln := ln) (cN := cN) (cF := cF) (tot := t1) (by omega) (hℓ _ (by omega)) (hll _ (by omega)).2 hls hw (by omega) (by omega)
  rw [e2, bd_s]
  dsimp only
  have hcF : ∀ j' t', j' < 9 → t' < 201 → cF1 j' t' = kL (if t' ≤ win then aF n ln (NeP n ln fq ls pu T (j + 1)) j' t' else 0) := fun j' t' a1 a2 => by
    rw [f2 j' t', h2 j' t' a1 a2, aF_step hj0 hj, hne]
    exact put_eq (fun c => aF_old c hj0)
  by_cases hlast : n ≤ j
  · rw [if_pos ((kI_le (by omega) (by omega)).mpr hlast), chk_true (by decide), chk_true (by decide), t32_2, kL_sub c1]
    refine ⟨_, _, _, rfl, fun j' t' a1 a2 => ?_, hcF, ech', fun i hi => ?_⟩
    · rw [h1 j' t' a1 a2, aN_stepL hlast]
    · have eD : dJ n ln fq ls pu pc win j T i = dSet ls win (T + ln (j - 1)) (GN n ln fq ls pu j T) i + (if i = 5 then mN n ln fq ls pu j T else 0) + if i = 2 then AN n ln fq ls pu j T - bk (AN n ln fq ls pu j T) (fq j) else 0 := by
        unfold dJ dN dF dL
        rw [if_pos hj0, if_neg (show ¬ j < n by omega)]
        by_cases e : i = 2
        · rw [if_pos (show i = 2 ∧ j = n from ⟨e, by omega⟩), if_pos e, Nat.add_zero]
        · rw [if_neg (show ¬ (i = 2 ∧ j = n) from fun q => e q.1), if_neg e, Nat.add_zero]
      have eM : (if i = 5 ∧ 0 < bk (AN n ln fq ls pu j T) (fq j) ∧ 0 < AF n ln fq ls pu j T - bk (AF n ln fq ls pu j T) (fq j) then 1 else 0) = if i = 5 then mN n ln fq ls pu j T else 0 := by
        unfold mN
        by_cases e : i = 5
        · simp only [e, true_and, if_true]
        · rw [if_neg (fun q => e q.1), if_neg e]
      rw [tt_succ, eD]
      by_cases e : i = 2
      · subst e
        rw [up_at, m2, m1, eM, h4 2 hi, kL_add, kL_add, kL_add, if_pos rfl]
        congr 1
        omega
      · rw [up_ne e, m2, m1, eM, h4 i hi, kL_add, kL_add, if_neg e]
        congr 1
        omega
  · rw [if_neg (by rw [kI_le (by omega) (by omega)]; exact hlast), kL_sub c1]
    obtain ⟨t3, e3, m3⟩ := ev_merge (tot := t2) (a := AN n ln fq ls pu j T - bk (AN n ln fq ls pu j T) (fq j)) (b := bk (AF n ln fq ls pu j T) (fq j)) (by omega) (by omega)
    rw [e3, bd_s, kL_add, show AN n ln fq ls pu j T - bk (AN n ln fq ls pu j T) (fq j) + bk (AF n ln fq ls pu j T) (fq j) = GF n ln fq ls pu j T by rw [eGF]; omega]
    have bG2 := GF_le hL j T (by omega)
    obtain ⟨cN1, t4, e4, f4, m4⟩ := ev_setOutF (ls := ls) (win := win) (k := j) (t := T) (e := GF n ln fq ls pu j T) (ℓc := ℓc) (ln := ln) (cN := cN) (cF := cF1) (tot := t3) (by omega) (hℓ _ (by omega)) (hll _ (by omega)).2 hls hw (by omega) (by omega)
    rw [show kI 1 = 1 from rfl, e4, bd_s]
    dsimp only
    refine ⟨_, _, _, rfl, fun j' t' a1 a2 => ?_, hcF, ech', fun i hi => ?_⟩
    · rw [f4 j' t', h1 j' t' a1 a2, aN_step (by omega), hfa, if_pos (show j < n by omega)]
      exact put_eq aN_old
    · have eD : dJ n ln fq ls pu pc win j T i = dSet ls win (T + ln (j - 1)) (GN n ln fq ls pu j T) i + (if i = 5 then mN n ln fq ls pu j T else 0) + (dSet ls win (T + ln j) (GF n ln fq ls pu j T) i + (if i = 5 then mF n ln fq ls pu pc j T else 0)) := by
        unfold dJ dN dF dL
        rw [if_pos hj0, if_pos (show j < n by omega), if_neg (show ¬ (i = 2 ∧ j = n) by omega), Nat.add_zero]
      have eM : (if i = 5 ∧ 0 < bk (AN n ln fq ls pu j T) (fq j) ∧ 0 < AF n ln fq ls pu j T - bk (AF n ln fq ls pu j T) (fq j) then 1 else 0) = if i = 5 then mN n ln fq ls pu j T else 0 := by
        unfold mN
        by_cases e : i = 5
        · simp only [e, true_and, if_true]
        · rw [if_neg (fun q => e q.1), if_neg e]
      have eM2 : (if i = 5 ∧ 0 < AN n ln fq ls pu j T - bk (AN n ln fq ls pu j T) (fq j) ∧ 0 < bk (AF n ln fq ls pu j T) (fq j) then 1 else 0) = if i = 5 then mF n ln fq ls pu pc j T else 0 := by
        unfold mF
        rw [if_neg (show j ≠ 0 by omega)]
        by_cases e : i = 5
        · simp only [e, true_and, if_true]
        · rw [if_neg (fun q => e q.1), if_neg e]
      rw [tt_succ, eD, m4, m3, m2, m1, eM, eM2, h4 i hi, kL_add, kL_add, kL_add, kL_add]
      congr 1
      omega
theorem ev_joint (hL : LOK n ln fq ls pu) (hw : win ≤ 200) {T j : Nat} (hT : T ≤ win) (hj0 : 1 ≤ j) (hj : j ≤ n) {ℓc φc : Nat → Int32} (hℓ : ∀ k, k < n → ℓc k = kI (ln k)) (hφ : ∀ k, k < n → φc k = kI (fq (k + 1))) {cN cF : Nat → Nat → Int64} {ech tot : Nat → Int64} (h : CWI n ln fq ls pu pc win b0 T j cN cF ech tot) :
    ∃ cN' cF' tot', Cf_W_meetJoint_w_n (kI n) (kI ls) (kI win) ℓc φc cN cF tot (kI j) (kI T) = some (cN', cF', tot') ∧ CWI n ln fq ls pu pc win b0 T (j + 1) cN' cF' ech tot' := by
  have hl1 := hL.l1
  obtain ⟨hn, hll, hff, hls, hP⟩ := id hL
  obtain ⟨h1, h2, h3, h4⟩ := h
  have eN : cN j T = kL (AN n ln fq ls pu j T) := by rw [h1 j T (by omega) (by omega), if_pos hT, aN_read hl1]
  have eF : cF j T = kL (AF n ln fq ls pu j T) := by rw [h2 j T (by omega) (by omega), if_pos hT, aF_read hl1]
  have bN := AN_le (ls := ls) hl1 hff hP j T
  have bF := AF_le (ls := ls) hl1 hff hP j T
  have ech' : ∀ t, t < 201 → ech t = kL (if t < T ∨ (t = T ∧ 0 < j + 1) then EC n ln fq ls pu t else 0) := fun t ht => by
    rw [h3 t ht]
    by_cases e : t < T ∨ t = T
    · rw [if_pos (by omega), if_pos (by omega)]
    · rw [if_neg (by omega), if_neg (by omega)]
  have hfa : Fa n ln fq ls pu j T = if j < n then kp ls (GF n ln fq ls pu j T) else 0 := Fa_eq hl1 j T
  have hne : Nw n ln fq ls pu j T = kp ls (GN n ln fq ls pu j T) := by rw [Ne_eq hl1, if_pos ⟨hj0, hj⟩]
  have eGF : GF n ln fq ls pu j T = bk (AF n ln fq ls pu j T) (fq j) + (AN n ln fq ls pu j T - bk (AN n ln fq ls pu j T) (fq j)) := by
    unfold GF
    rw [if_neg (by omega), Nat.add_zero]
  have eGN : GN n ln fq ls pu j T = bk (AN n ln fq ls pu j T) (fq j) + (AF n ln fq ls pu j T - bk (AF n ln fq ls pu j T) (fq j)) := rfl
  have c1 := bk_le (a := AN n ln fq ls pu j T) (hff j)
  have c2 := bk_le (a := AF n ln fq ls pu j T) (hff j)
  unfold Cf_W_meetJoint_w_n
  simp only [nm_eq]
  rw [chk_true ((inb_kI (by omega)).mpr (by omega)), chk_true ((inb_kI (by omega)).mpr (by omega)), chk_true ((inb_kI (by omega)).mpr (by omega)), chk_true ((inb_kI (by omega)).mpr (by omega)), kI_nat (by omega), kI_nat (by omega), eN, eF]
  have main := ev_joint35 hL hw hT hj0 hj hℓ hφ (And.intro h1 (And.intro h2 (And.intro h3 h4)))
  by_cases z1 : AN n ln fq ls pu j T = 0
  · by_cases z2 : AF n ln fq ls pu j T = 0
    · rw [z1, z2, if_pos (show kL 0 = 0 from rfl), if_pos (show kL 0 = 0 from rfl)]
      have g1 : GF n ln fq ls pu j T = 0 := by rw [eGF, z1, z2, bk_zero]
      have g2 : GN n ln fq ls pu j T = 0 := by rw [eGN, z1, z2, bk_zero]
      refine ⟨_, _, _, rfl, fun j' t' a1 a2 => ?_, fun j' t' a1 a2 => ?_, ech', fun i hi => ?_⟩
      · rw [h1 j' t' a1 a2]
        by_cases hlt : j < n
        · rw [aN_step hlt]
          by_cases c : j' = j + 1 ∧ t' = T + ln j
          · rw [if_pos c, hfa, if_pos hlt, g1, kp_zero]
            rw [aN_old c]
          · rw [if_neg c]
        · rw [aN_stepL (by omega)]
      · rw [h2 j' t' a1 a2, aF_step hj0 hj]
        by_cases c : j' = j - 1 ∧ t' = T + ln (j - 1)
        · rw [if_pos c, hne, g2, kp_zero]
          rw [aF_old c hj0]
        · rw [if_neg c]
      · rw [h4 i hi, tt_succ]
        have : dJ n ln fq ls pu pc win j T i = 0 := by
          unfold dJ dN dF dL mN mF
          rw [g1, g2, z1, z2, dSet_zero, dSet_zero, bk_zero]
          simp [show j ≠ 0 by omega]
        rw [this, Nat.add_zero]
    · rw [z1, if_pos (show kL 0 = 0 from rfl), if_neg (by rw [q64_0, kL_eq (by omega) (by omega)]; exact z2)]
      rw [z1] at main
      exact main
  · rw [if_neg (by rw [q64_0, kL_eq (by omega) (by omega)]; exact z1)]
    exact main
end CW2
