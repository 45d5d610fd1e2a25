theorem tq_ev_setOutF {ls win k t e : Nat} {ℓc : Nat → Int32} {ln : Nat → Nat} {cN cF : Nat → Nat → Int64} {tot : Nat → Int64} (hk : k < 8) (hℓ : ℓc k = kI (ln k)) (hl : ln k ≤ 20) (hls : ls ≤ 1000) (hw : win ≤ 200) (ht : t ≤ 200) (he : e < 10000000) :
    ∃ cN' tot', Cf_W_setOut_t_q (kI ls) (kI win) ℓc cN cF tot (kI k) 1 (kI t) (kL e) = some (cN', cF, tot') ∧ (∀ j t', cN' j t' = if j = k + 1 ∧ t' = t + ln k ∧ t' ≤ win ∧ 0 < kp ls e then kL (kp ls e) else cN j t') ∧ ∀ i, tot' i = tot i + kL (dSet ls win (t + ln k) e i) := by
  unfold Cf_W_setOut_t_q
  by_cases h0 : e = 0
  · subst h0
    rw [if_pos (show kL 0 = 0 from rfl)]
    refine ⟨cN, tot, rfl, fun j t' => ?_, fun i => ?_⟩
    · rw [if_neg]
      rw [kp_zero]
      omega
    · have : dSet ls win (t + ln k) 0 i = 0 := by
        unfold dSet
        rw [kp_zero]
        simp
      rw [this, kL0_add]
  · rw [if_neg (by rw [q64_0, kL_eq (by omega) (by omega)]; exact h0)]
    rw [chk_true ((inb_kI (by omega)).mpr hk)]
    simp only [nm_eq, kI_nat (show k < 2147483648 by omega), hℓ, kI_add, kI_long (show ls < 2147483648 by omega)]
    by_cases h1 : ls ≤ e
    · rw [if_pos ((kL_le (by omega) (by omega)).mpr h1)]
      have hkp : kp ls e = e := by unfold kp; rw [if_neg (by omega)]
      by_cases h2 : t + ln k ≤ win
      · rw [if_pos ((kI_le (by omega) (by omega)).mpr h2), if_neg (by decide)]
        rw [q32_1, kI_add, chk_true ((inb_kI (by omega)).mpr (by omega)), chk_true ((inb_kI (by omega)).mpr (by omega)), kI_nat (by omega), kI_nat (by omega)]
        refine ⟨_, _, rfl, fun j t' => ?_, fun i => ?_⟩
        · simp only [va_up, vp_updL]
          by_cases e1 : j = k + 1
          · subst e1
            rw [if_pos rfl]
            by_cases e2 : t' = t + ln k
            · subst e2
              rw [up_at, if_pos ⟨rfl, rfl, h2, by omega⟩, hkp]
            · rw [up_ne e2, if_neg (by omega)]
          · rw [if_neg e1, if_neg (by omega)]
        · have : dSet ls win (t + ln k) e i = 0 := by
            unfold dSet
            rw [if_neg (by omega), if_neg (by omega), if_neg (by omega)]
          rw [this, kL0_add]
      · rw [if_neg (by rw [kI_le (by omega) (by omega)]; exact h2)]
        rw [chk_true (by decide), chk_true (by decide), t32_4]
        refine ⟨_, _, rfl, fun j t' => ?_, fun i => ?_⟩
        · rw [if_neg (by omega)]
        · simp only [vp_updL]
          by_cases e1 : i = 4
          · subst e1
            rw [if_pos rfl]
            have : dSet ls win (t + ln k) e 4 = e := by
              unfold dSet
              rw [if_neg (by omega), if_neg (by omega), if_pos (by omega), hkp]
              omega
            rw [this]
          · rw [if_neg e1]
            have : dSet ls win (t + ln k) e i = 0 := by
              unfold dSet
              rw [if_neg (by omega), if_neg (by omega), if_neg (by omega)]
            rw [this, kL0_add]
    · rw [if_neg (by rw [kL_le (by omega) (by omega)]; exact h1)]
      have hkp : kp ls e = 0 := by unfold kp; rw [if_pos (by omega)]
      rw [chk_true (by decide), chk_true (by decide), chk_true (by decide), chk_true (by decide), t32_3, t32_6]
      refine ⟨_, _, rfl, fun j t' => ?_, fun i => ?_⟩
      · rw [if_neg (by omega)]
      · simp only [vp_updL]
        by_cases e1 : i = 6
        · subst e1
          rw [if_pos rfl, if_neg (by decide)]
          have : dSet ls win (t + ln k) e 6 = 1 := by
            unfold dSet
            rw [if_neg (by omega), if_pos (by omega), if_neg (by omega)]
          rw [this]
          rfl
        · rw [if_neg e1]
          by_cases e2 : i = 3
          · subst e2
            rw [if_pos rfl]
            have : dSet ls win (t + ln k) e 3 = e := by
              unfold dSet
              rw [if_pos (by omega), if_neg (by omega), if_neg (by omega)]
              omega
            rw [this]
          · rw [if_neg e2]
            have : dSet ls win (t + ln k) e i = 0 := by
              unfold dSet
              rw [if_neg (by omega), if_neg (by omega), hkp]
              simp
            rw [this, kL0_add]
theorem tq_ev_setOutN {ls win k t e : Nat} {ℓc : Nat → Int32} {ln : Nat → Nat} {cN cF : Nat → Nat → Int64} {tot : Nat → Int64} (hk : k < 8) (hℓ : ℓc k = kI (ln k)) (hl : ln k ≤ 20) (hls : ls ≤ 1000) (hw : win ≤ 200) (ht : t ≤ 200) (he : e < 10000000) :
    ∃ cF' tot', Cf_W_setOut_t_q (kI ls) (kI win) ℓc cN cF tot (kI k) 0 (kI t) (kL e) = some (cN, cF', tot') ∧ (∀ j t', cF' j t' = if j = k ∧ t' = t + ln k ∧ t' ≤ win ∧ 0 < kp ls e then kL (kp ls e) else cF j t') ∧ ∀ i, tot' i = tot i + kL (dSet ls win (t + ln k) e i) := by
  unfold Cf_W_setOut_t_q
  by_cases h0 : e = 0
  · subst h0
    rw [if_pos (show kL 0 = 0 from rfl)]
    refine ⟨cF, tot, rfl, fun j t' => ?_, fun i => ?_⟩
    · rw [if_neg]
      rw [kp_zero]
      omega
    · have : dSet ls win (t + ln k) 0 i = 0 := by
        unfold dSet
        rw [kp_zero]
        simp
      rw [this, kL0_add]
  · rw [if_neg (by rw [q64_0, kL_eq (by omega) (by omega)]; exact h0)]
    rw [chk_true ((inb_kI (by omega)).mpr hk)]
    simp only [nm_eq, kI_nat (show k < 2147483648 by omega), hℓ, kI_add, kI_long (show ls < 2147483648 by omega)]
    by_cases h1 : ls ≤ e
    · rw [if_pos ((kL_le (by omega) (by omega)).mpr h1)]
      have hkp : kp ls e = e := by unfold kp; rw [if_neg (by omega)]
      by_cases h2 : t + ln k ≤ win
      · rw [if_pos ((kI_le (by omega) (by omega)).mpr h2), if_pos trivial]
        rw [chk_true ((inb_kI (by omega)).mpr (by omega)), chk_true ((inb_kI (by omega)).mpr (by omega)), kI_nat (by omega)]
        refine ⟨_, _, rfl, fun j t' => ?_, fun i => ?_⟩
        · simp only [va_up, vp_updL]
          by_cases e1 : j = k
          · rw [e1, if_pos rfl]
            by_cases e2 : t' = t + ln k
            · subst e2
              rw [up_at, if_pos ⟨rfl, rfl, h2, by omega⟩, hkp]
            · rw [up_ne e2, if_neg (by omega)]
          · rw [if_neg e1, if_neg (by omega)]
        · have : dSet ls win (t + ln k) e i = 0 := by
            unfold dSet
            rw [if_neg (by omega), if_neg (by omega), if_neg (by omega)]
          rw [this, kL0_add]
      · rw [if_neg (by rw [kI_le (by omega) (by omega)]; exact h2)]
        rw [chk_true (by decide), chk_true (by decide), t32_4]
        refine ⟨_, _, rfl, fun j t' => ?_, fun i => ?_⟩
        · rw [if_neg (by omega)]
        · simp only [vp_updL]
          by_cases e1 : i = 4
          · subst e1
            rw [if_pos rfl]
            have : dSet ls win (t + ln k) e 4 = e := by
              unfold dSet
              rw [if_neg (by omega), if_neg (by omega), if_pos (by omega), hkp]
              omega
            rw [this]
          · rw [if_neg e1]
            have : dSet ls win (t + ln k) e i = 0 := by
              unfold dSet
              rw [if_neg (by omega), if_neg (by omega), if_neg (by omega)]
            rw [this, kL0_add]
    · rw [if_neg (by rw [kL_le (by omega) (by omega)]; exact h1)]
      have hkp : kp ls e = 0 := by unfold kp; rw [if_pos (by omega)]
      rw [chk_true (by decide), chk_true (by decide), chk_true (by decide), chk_true (by decide), t32_3, t32_6]
      refine ⟨_, _, rfl, fun j t' => ?_, fun i => ?_⟩
      · rw [if_neg (by omega)]
      · simp only [vp_updL]
        by_cases e1 : i = 6
        · subst e1
          rw [if_pos rfl, if_neg (by decide)]
          have : dSet ls win (t + ln k) e 6 = 1 := by
            unfold dSet
            rw [if_neg (by omega), if_pos (by omega), if_neg (by omega)]
          rw [this]
          rfl
        · rw [if_neg e1]
          by_cases e2 : i = 3
          · subst e2
            rw [if_pos rfl]
            have : dSet ls win (t + ln k) e 3 = e := by
              unfold dSet
              rw [if_pos (by omega), if_neg (by omega), if_neg (by omega)]
              omega
            rw [this]
          · rw [if_neg e2]
            have : dSet ls win (t + ln k) e i = 0 := by
              unfold dSet
              rw [if_neg (by omega), if_neg (by omega), hkp]
              simp
            rw [this, kL0_add]

section CW1
variable (n : Nat) (ln fq : Nat → Nat) (ls : Nat) (pu pc : Nat → Nat) (win : Nat)
variable {n ln fq ls pu pc win}
theorem tq_Fa_ge (hl : ∀ j, j < n → 1 ≤ ln j) {j t : Nat} (h : n ≤ j) : Fa n ln fq ls pu j t = 0 := by rw [Fa_eq hl, if_neg (by omega)]
theorem tq_aN_read (hl : ∀ j, j < n → 1 ≤ ln j) {T J j : Nat} : aN n ln (FaP n ln fq ls pu T J) j T = AN n ln fq ls pu j T := by
  unfold AN aN
  by_cases h : 1 ≤ j ∧ j ≤ n ∧ ln (j - 1) ≤ T
  · rw [if_pos h, if_pos h]
    have := hl (j - 1) (by omega)
    unfold FaP
    rw [if_pos (Or.inl (by omega))]
  · rw [if_neg h, if_neg h]
theorem tq_aF_read (hl : ∀ j, j < n → 1 ≤ ln j) {T J j : Nat} : aF n ln (NeP n ln fq ls pu T J) j T = AF n ln fq ls pu j T := by
  unfold AF aF
  by_cases h : j < n ∧ ln j ≤ T
  · rw [if_pos h, if_pos h]
    have := hl j (by omega)
    unfold NeP
    rw [if_pos (Or.inl (by omega))]
  · rw [if_neg h, if_neg h]
theorem tq_aN_step {T j j' t' : Nat} (hj : j < n) : aN n ln (FaP n ln fq ls pu T (j + 1)) j' t' = if j' = j + 1 ∧ t' = T + ln j then Fa n ln fq ls pu j T else aN n ln (FaP n ln fq ls pu T j) j' t' := by
  by_cases h : j' = j + 1 ∧ t' = T + ln j
  · rw [if_pos h]
    obtain ⟨rfl, rfl⟩ := h
    unfold aN
    rw [if_pos ⟨by omega, by omega, by simp only [Nat.add_sub_cancel]; omega⟩]
    unfold FaP
    rw [Nat.add_sub_cancel, Nat.add_sub_cancel, if_pos (Or.inr ⟨rfl, by omega⟩)]
  · rw [if_neg h]
    unfold aN
    by_cases h1 : 1 ≤ j' ∧ j' ≤ n ∧ ln (j' - 1) ≤ t'
    · rw [if_pos h1, if_pos h1]
      unfold FaP
      by_cases h2 : t' - ln (j' - 1) = T
      · have h3 : j' - 1 ≠ j := fun e => h ⟨by omega, by rw [← e]; omega⟩
        by_cases h4 : j' - 1 < j
        · rw [if_pos (Or.inr ⟨h2, by omega⟩), if_pos (Or.inr ⟨h2, h4⟩)]
        · rw [if_neg (by omega), if_neg (by omega)]
      · by_cases h4 : t' - ln (j' - 1) < T
        · rw [if_pos (Or.inl h4), if_pos (Or.inl h4)]
        · rw [if_neg (by omega), if_neg (by omega)]
    · rw [if_neg h1, if_neg h1]
theorem tq_aN_stepL {T j j' t' : Nat} (hj : n ≤ j) : aN n ln (FaP n ln fq ls pu T (j + 1)) j' t' = aN n ln (FaP n ln fq ls pu T j) j' t' := by
  unfold aN
  by_cases h1 : 1 ≤ j' ∧ j' ≤ n ∧ ln (j' - 1) ≤ t'
  · rw [if_pos h1, if_pos h1]
    unfold FaP
    by_cases h2 : t' - ln (j' - 1) = T
    · rw [if_pos (Or.inr ⟨h2, by omega⟩), if_pos (Or.inr ⟨h2, by omega⟩)]
    · by_cases h4 : t' - ln (j' - 1) < T
      · rw [if_pos (Or.inl h4), if_pos (Or.inl h4)]
      · rw [if_neg (by omega), if_neg (by omega)]
  · rw [if_neg h1, if_neg h1]
theorem tq_aF_step {T j j' t' : Nat} (h0 : 1 ≤ j) (hj : j ≤ n) : aF n ln (NeP n ln fq ls pu T (j + 1)) j' t' = if j' = j - 1 ∧ t' = T + ln (j - 1) then Nw n ln fq ls pu j T else aF n ln (NeP n ln fq ls pu T j) j' t' := by
  by_cases h : j' = j - 1 ∧ t' = T + ln (j - 1)
  · rw [if_pos h]
    obtain ⟨rfl, rfl⟩ := h
    unfold aF
    rw [if_pos ⟨by omega, by omega⟩]
    unfold NeP
    rw [Nat.sub_add_cancel h0, Nat.add_sub_cancel, if_pos (Or.inr ⟨rfl, by omega⟩)]
  · rw [if_neg h]
    unfold aF
    by_cases h1 : j' < n ∧ ln j' ≤ t'
    · rw [if_pos h1, if_pos h1]
      unfold NeP
      by_cases h2 : t' - ln j' = T
      · have h3 : j' + 1 ≠ j := fun e => h ⟨by omega, by rw [show j - 1 = j' by omega]; omega⟩
        by_cases h4 : j' + 1 < j
        · rw [if_pos (Or.inr ⟨h2, by omega⟩), if_pos (Or.inr ⟨h2, h4⟩)]
        · rw [if_neg (by omega), if_neg (by omega)]
      · by_cases h4 : t' - ln j' < T
        · rw [if_pos (Or.inl h4), if_pos (Or.inl h4)]
        · rw [if_neg (by omega), if_neg (by omega)]
    · rw [if_neg h1, if_neg h1]
theorem tq_aF_step0 {T j' t' : Nat} : aF n ln (NeP n ln fq ls pu T 1) j' t' = aF n ln (NeP n ln fq ls pu T 0) j' t' := by
  unfold aF
  by_cases h1 : j' < n ∧ ln j' ≤ t'
  · rw [if_pos h1, if_pos h1]
    unfold NeP
    by_cases h4 : t' - ln j' < T
    · rw [if_pos (Or.inl h4), if_pos (Or.inl h4)]
    · rw [if_neg (by omega), if_neg (by omega)]
  · rw [if_neg h1, if_neg h1]
theorem tq_aN_next {T j' t' : Nat} : aN n ln (FaP n ln fq ls pu T (n + 1)) j' t' = aN n ln (FaP n ln fq ls pu (T + 1) 0) j' t' := by
  unfold aN
  by_cases h1 : 1 ≤ j' ∧ j' ≤ n ∧ ln (j' - 1) ≤ t'
  · rw [if_pos h1, if_pos h1]
    unfold FaP
    by_cases h4 : t' - ln (j' - 1) < T + 1
    · rw [if_pos (by omega), if_pos (by omega)]
    · rw [if_neg (by omega), if_neg (by omega)]
  · rw [if_neg h1, if_neg h1]
theorem tq_aF_next {T j' t' : Nat} : aF n ln (NeP n ln fq ls pu T (n + 1)) j' t' = aF n ln (NeP n ln fq ls pu (T + 1) 0) j' t' := by
  unfold aF
  by_cases h1 : j' < n ∧ ln j' ≤ t'
  · rw [if_pos h1, if_pos h1]
    unfold NeP
    by_cases h4 : t' - ln j' < T + 1
    · rw [if_pos (by omega), if_pos (by omega)]
    · rw [if_neg (by omega), if_neg (by omega)]
  · rw [if_neg h1, if_neg h1]
theorem tq_ev_back {a f : Nat} (ha : a < 1000000000) (hf : f ≤ 1000) : Cf_L_turnedBack (kL a) (kI f) = some (kL (bk a f)) := by
  unfold Cf_L_turnedBack
  have : a * f ≤ a * 1000 := Nat.mul_le_mul_left a hf
  simp only [nm_eq]
  rw [chk_true (by decide), kI_long (by omega), kL_mul, q64_1000, kL_div (by omega) (by omega)]
  rfl
end CW1

theorem tq_ev_merge {tot : Nat → Int64} {a b : Nat} (ha : a < 1000000000) (hb : b < 1000000000) : ∃ tot', Cf_W_countMerging_t tot (kL a) (kL b) = some tot' ∧ ∀ i, tot' i = tot i + kL (if i = 5 ∧ 0 < a ∧ 0 < b then 1 else 0) := by
  unfold Cf_W_countMerging_t
  by_cases h1 : a = 0
  · rw [if_pos (by rw [q64_0, kL_le (by omega) (by omega)]; omega)]
    exact ⟨_, rfl, fun i => by rw [if_neg (by omega), kL0_add]⟩
  · rw [if_neg (by rw [q64_0, kL_le (by omega) (by omega)]; omega)]
    by_cases h2 : b = 0
    · rw [if_pos (by rw [q64_0, kL_le (by omega) (by omega)]; omega)]
      exact ⟨_, rfl, fun i => by rw [if_neg (by omega), kL0_add]⟩
    · rw [if_neg (by rw [q64_0, kL_le (by omega) (by omega)]; omega)]
      simp only [nm_eq]
      rw [chk_true (by decide), chk_true (by decide), t32_5]
      refine ⟨_, rfl, fun i => ?_⟩
      by_cases e : i = 5
      · subst e
        rw [up_at, if_pos ⟨rfl, by omega, by omega⟩]
        rfl
      · rw [up_ne e, if_neg (by omega), kL0_add]
theorem tq_put_eq {A B j' t' win v old : Nat} (h0 : j' = A ∧ t' = B → old = 0) : (if j' = A ∧ t' = B ∧ t' ≤ win ∧ 0 < v then kL v else kL (if t' ≤ win then old else 0)) = kL (if t' ≤ win then (if j' = A ∧ t' = B then v else old) else 0) := by
  by_cases c : j' = A ∧ t' = B
  · rw [if_pos c, h0 c]
    by_cases c3 : t' ≤ win
    · rw [if_pos c3, if_pos c3]
      by_cases c4 : 0 < v
      · rw [if_pos ⟨c.1, c.2, c3, c4⟩]
      · rw [if_neg (fun q => c4 q.2.2.2), show v = 0 by omega]
    · rw [if_neg (fun q => c3 q.2.2.1), if_neg c3, if_neg c3]
  · rw [if_neg (fun q => c ⟨q.1, q.2.1⟩), if_neg c]
section CW2
variable (n : Nat) (ln fq : Nat → Nat) (ls : Nat) (pu pc : Nat → Nat) (win : Nat) (b0 : Nat → Nat)
variable {n ln fq ls pu pc win b0}
theorem tq_GF_le (h : LOK n ln fq ls pu) (j t : Nat) (hj : j ≠ 0) : GF n ln fq ls pu j t ≤ 4000000 := by
  unfold GF
  have := mix_le (AF_le (ls := ls) h.l1 h.2.2.1 h.2.2.2.2 j t) (AN_le (ls := ls) h.l1 h.2.2.1 h.2.2.2.2 j t) (h.2.2.1 j)
  rw [if_neg hj]
  omega
theorem tq_GN_le (h : LOK n ln fq ls pu) (j t : Nat) : GN n ln fq ls pu j t ≤ 4000000 := by
  unfold GN
  exact mix_le (AN_le (ls := ls) h.l1 h.2.2.1 h.2.2.2.2 j t) (AF_le (ls := ls) h.l1 h.2.2.1 h.2.2.2.2 j t) (h.2.2.1 j)
theorem tq_pu_le (h : LOK n ln fq ls pu) (t : Nat) : pu t ≤ 4000000 := by
  have := h.2.2.2.2 (t + 1)
  simp only [sm] at this
  omega
theorem tq_GF0_le (h : LOK n ln fq ls pu) (t : Nat) : GF n ln fq ls pu 0 t ≤ 8000000 := by
  unfold GF
  have h1 := mix_le (AF_le (ls := ls) h.l1 h.2.2.1 h.2.2.2.2 0 t) (AN_le (ls := ls) h.l1 h.2.2.1 h.2.2.2.2 0 t) (h.2.2.1 0)
  have h2 := tq_pu_le h t
  rw [if_pos rfl]
  omega
theorem tq_tt_succ (T J i : Nat) : tt n ln fq ls pu pc win b0 T (J + 1) i = tt n ln fq ls pu pc win b0 T J i + dJ n ln fq ls pu pc win J T i := by
  unfold tt
  simp only [sm]
  omega
theorem tq_tt_next (T i : Nat) : tt n ln fq ls pu pc win b0 T (n + 1) i = tt n ln fq ls pu pc win b0 (T + 1) 0 i := by
  unfold tt
  simp only [sm]
  omega
theorem tq_aN_old {T j j' t' : Nat} (c : j' = j + 1 ∧ t' = T + ln j) : aN n ln (FaP n ln fq ls pu T j) j' t' = 0 := by
  unfold aN
  split
  · unfold FaP
    rw [if_neg (by rw [c.1, c.2, Nat.add_sub_cancel]; omega)]
  · rfl
theorem tq_aF_old {T j j' t' : Nat} (c : j' = j - 1 ∧ t' = T + ln (j - 1)) (hj0 : 1 ≤ j) : aF n ln (NeP n ln fq ls pu T j) j' t' = 0 := by
  unfold aF
  split
  · unfold NeP
    rw [if_neg (by rw [c.1, c.2]; omega)]
  · rfl
theorem tq_dSet_zero (a i : Nat) : dSet ls win a 0 i = 0 := by
  unfold dSet
  rw [kp_zero]
  simp
theorem tq_ev_joint35 (hL : LOK n ln fq ls pu) (hw : win ≤ 200) {T j : Nat} (hT : T ≤ win) (hj0 : 1 ≤ j) (hj : j ≤ n) {ℓc φc : Nat → Int32} (hℓ : ∀ k, k < n → ℓc k = kI (ln k)) (hφ : ∀ k, k < n → φc k = kI (fq (k + 1))) {cN cF : Nat → Nat → Int64} {ech tot : Nat → Int64} (h : CWI n ln fq ls pu pc win b0 T j cN cF ech tot) :
    ∃ cN' cF' tot', Cf_W_meetJoint_t_q_35 (kI n) (kI ls) (kI win) ℓc φc cN cF tot (kI j) (kI T) (kL (AN n ln fq ls pu j T)) (kL (AF n ln fq ls pu j T)) = some (cN', cF', tot') ∧ CWI n ln fq ls pu pc win b0 T (j + 1) cN' cF' ech tot' := by
  have hl1 := hL.l1
  obtain ⟨hn, hll, hff, hls, hP⟩ := id hL
  obtain ⟨h1, h2, h3, h4⟩ := h
  have eN : cN j T = kL (AN n ln fq ls pu j T) := by rw [h1 j T (by omega) (by omega), if_pos hT, tq_aN_read hl1]
  have eF : cF j T = kL (AF n ln fq ls pu j T) := by rw [h2 j T (by omega) (by omega), if_pos hT, tq_aF_read hl1]
  have bN := AN_le (ls := ls) hl1 hff hP j T
  have bF := AF_le (ls := ls) hl1 hff hP j T
  have ech' : ∀ t, t < 201 → ech t = kL (if t < T ∨ (t = T ∧ 0 < j + 1) then EC n ln fq ls pu t else 0) := fun t ht => by
    rw [h3 t ht]
    by_cases e : t < T ∨ t = T
    · rw [if_pos (by omega), if_pos (by omega)]
    · rw [if_neg (by omega), if_neg (by omega)]
  have hfa : Fa n ln fq ls pu j T = if j < n then kp ls (GF n ln fq ls pu j T) else 0 := Fa_eq hl1 j T
  have hne : Nw n ln fq ls pu j T = kp ls (GN n ln fq ls pu j T) := by rw [Ne_eq hl1, if_pos ⟨hj0, hj⟩]
  have eGF : GF n ln fq ls pu j T = bk (AF n ln fq ls pu j T) (fq j) + (AN n ln fq ls pu j T - bk (AN n ln fq ls pu j T) (fq j)) := by
    unfold GF
    rw [if_neg (by omega), Nat.add_zero]
  have eGN : GN n ln fq ls pu j T = bk (AN n ln fq ls pu j T) (fq j) + (AF n ln fq ls pu j T - bk (AF n ln fq ls pu j T) (fq j)) := rfl
  have c1 := bk_le (a := AN n ln fq ls pu j T) (hff j)
  have c2 := bk_le (a := AF n ln fq ls pu j T) (hff j)
  unfold Cf_W_meetJoint_t_q_35
  simp only [nm_eq]
  rw [q32_1, kI_sub hj0, chk_true ((inb_kI (by omega)).mpr (by omega)), kI_nat (by omega), hφ (j - 1) (by omega), Nat.sub_add_cancel hj0, tq_ev_back (by omega) (hff j), bd_s, tq_ev_back (by omega) (hff j), bd_s, kL_sub c2]
  obtain ⟨t1, e1, m1⟩ := tq_ev_merge (tot := tot) (a := bk (AN n ln fq ls pu j T) (fq j)) (b := AF n ln fq ls pu j T - bk (AF n ln fq ls pu j T) (fq j)) (by omega) (by omega)
  rw [e1, bd_s, kL_add, kL_sub (by omega), show bk (AN n ln fq ls pu j T) (fq j) + AF n ln fq ls pu j T - bk (AF n ln fq ls pu j T) (fq j) = GN n ln fq ls pu j T by rw [eGN]; omega]
  have bG := tq_GN_le hL j T
  obtain ⟨cF1, t2, e2, f2, m2⟩ := tq_ev_setOutN (ls := ls) (win := win) (k := j - 1) (t := T) (e := GN n ln fq ls pu j T) (ℓc := ℓc) (ln := ln) (cN := cN) (cF := cF) (tot := t1) (by omega) (hℓ _ (by omega)) (hll _ (by omega)).2 hls hw (by omega) (by omega)
  rw [e2, bd_s]
  (try dsimp only)
  have hcF : ∀ j' t', j' < 9 → t' < 201 → cF1 j' t' = kL (if t' ≤ win then aF n ln (NeP n ln fq ls pu T (j + 1)) j' t' else 0) := fun j' t' a1 a2 => by
    rw [f2 j' t', h2 j' t' a1 a2, tq_aF_step hj0 hj, hne]
    exact tq_put_eq (fun c => tq_aF_old c hj0)
  by_cases hlast : n ≤ j
  · rw [if_pos ((kI_le (by omega) (by omega)).mpr hlast), chk_true (by decide), chk_true (by decide), t32_2, kL_sub c1]
    refine ⟨_, _, _, rfl, fun j' t' a1 a2 => ?_, hcF, ech', fun i hi => ?_⟩
    · rw [h1 j' t' a1 a2, tq_aN_stepL hlast]
    · have eD : dJ n ln fq ls pu pc win j T i = dSet ls win (T + ln (j - 1)) (GN n ln fq ls pu j T) i + (if i = 5 then mN n ln fq ls pu j T else 0) + if i = 2 then AN n ln fq ls pu j T - bk (AN n ln fq ls pu j T) (fq j) else 0 := by
        unfold dJ dN dF dL
        rw [if_pos hj0, if_neg (show ¬ j < n by omega)]
        by_cases e : i = 2
        · rw [if_pos (show i = 2 ∧ j = n from ⟨e, by omega⟩), if_pos e, Nat.add_zero]
        · rw [if_neg (show ¬ (i = 2 ∧ j = n) from fun q => e q.1), if_neg e, Nat.add_zero]
      have eM : (if i = 5 ∧ 0 < bk (AN n ln fq ls pu j T) (fq j) ∧ 0 < AF n ln fq ls pu j T - bk (AF n ln fq ls pu j T) (fq j) then 1 else 0) = if i = 5 then mN n ln fq ls pu j T else 0 := by
        unfold mN
        by_cases e : i = 5
        · simp only [e, true_and, if_true]
        · rw [if_neg (fun q => e q.1), if_neg e]
      rw [tq_tt_succ, eD]
      by_cases e : i = 2
      · subst e
        rw [up_at, m2, m1, eM, h4 2 hi, kL_add, kL_add, kL_add, if_pos rfl]
        congr 1
        omega
      · rw [up_ne e, m2, m1, eM, h4 i hi, kL_add, kL_add, if_neg e]
        congr 1
        omega
  · rw [if_neg (by rw [kI_le (by omega) (by omega)]; exact hlast), kL_sub c1]
    obtain ⟨t3, e3, m3⟩ := tq_ev_merge (tot := t2) (a := AN n ln fq ls pu j T - bk (AN n ln fq ls pu j T) (fq j)) (b := bk (AF n ln fq ls pu j T) (fq j)) (by omega) (by omega)
    rw [e3, bd_s, kL_add, show AN n ln fq ls pu j T - bk (AN n ln fq ls pu j T) (fq j) + bk (AF n ln fq ls pu j T) (fq j) = GF n ln fq ls pu j T by rw [eGF]; omega]
    have bG2 := tq_GF_le hL j T (by omega)
    obtain ⟨cN1, t4, e4, f4, m4⟩ := tq_ev_setOutF (ls := ls) (win := win) (k := j) (t := T) (e := GF n ln fq ls pu j T) (ℓc := ℓc) (ln := ln) (cN := cN) (cF := cF1) (tot := t3) (by omega) (hℓ _ (by omega)) (hll _ (by omega)).2 hls hw (by omega) (by omega)
    rw [show kI 1 = 1 from rfl, e4, bd_s]
    (try dsimp only)
    refine ⟨_, _, _, rfl, fun j' t' a1 a2 => ?_, hcF, ech', fun i hi => ?_⟩
    · rw [f4 j' t', h1 j' t' a1 a2, tq_aN_step (by omega), hfa, if_pos (show j < n by omega)]
      exact tq_put_eq tq_aN_old
    · have eD : dJ n ln fq ls pu pc win j T i = dSet ls win (T + ln (j - 1)) (GN n ln fq ls pu j T) i + (if i = 5 then mN n ln fq ls pu j T else 0) + (dSet ls win (T + ln j) (GF n ln fq ls pu j T) i + (if i = 5 then mF n ln fq ls pu pc j T else 0)) := by
        unfold dJ dN dF dL
        rw [if_pos hj0, if_pos (show j < n by omega), if_neg (show ¬ (i = 2 ∧ j = n) by omega), Nat.add_zero]
      have eM : (if i = 5 ∧ 0 < bk (AN n ln fq ls pu j T) (fq j) ∧ 0 < AF n ln fq ls pu j T - bk (AF n ln fq ls pu j T) (fq j) then 1 else 0) = if i = 5 then mN n ln fq ls pu j T else 0 := by
        unfold mN
        by_cases e : i = 5
        · simp only [e, true_and, if_true]
        · rw [if_neg (fun q => e q.1), if_neg e]
      have eM2 : (if i = 5 ∧ 0 < AN n ln fq ls pu j T - bk (AN n ln fq ls pu j T) (fq j) ∧ 0 < bk (AF n ln fq ls pu j T) (fq j) then 1 else 0) = if i = 5 then mF n ln fq ls pu pc j T else 0 := by
        unfold mF
        rw [if_neg (show j ≠ 0 by omega)]
        by_cases e : i = 5
        · simp only [e, true_and, if_true]
        · rw [if_neg (fun q => e q.1), if_neg e]
      rw [tq_tt_succ, eD, m4, m3, m2, m1, eM, eM2, h4 i hi, kL_add, kL_add, kL_add, kL_add]
      congr 1
      omega
theorem tq_ev_joint (hL : LOK n ln fq ls pu) (hw : win ≤ 200) {T j : Nat} (hT : T ≤ win) (hj0 : 1 ≤ j) (hj : j ≤ n) {ℓc φc : Nat → Int32} (hℓ : ∀ k, k < n → ℓc k = kI (ln k)) (hφ : ∀ k, k < n → φc k = kI (fq (k + 1))) {cN cF : Nat → Nat → Int64} {ech tot : Nat → Int64} (h : CWI n ln fq ls pu pc win b0 T j cN cF ech tot) :
    ∃ cN' cF' tot', Cf_W_meetJoint_t_q (kI n) (kI ls) (kI win) ℓc φc cN cF tot (kI j) (kI T) = some (cN', cF', tot') ∧ CWI n ln fq ls pu pc win b0 T (j + 1) cN' cF' ech tot' := by
  have hl1 := hL.l1
  obtain ⟨hn, hll, hff, hls, hP⟩ := id hL
  obtain ⟨h1, h2, h3, h4⟩ := h
  have eN : cN j T = kL (AN n ln fq ls pu j T) := by rw [h1 j T (by omega) (by omega), if_pos hT, tq_aN_read hl1]
  have eF : cF j T = kL (AF n ln fq ls pu j T) := by rw [h2 j T (by omega) (by omega), if_pos hT, tq_aF_read hl1]
  have bN := AN_le (ls := ls) hl1 hff hP j T
  have bF := AF_le (ls := ls) hl1 hff hP j T
  have ech' : ∀ t, t < 201 → ech t = kL (if t < T ∨ (t = T ∧ 0 < j + 1) then EC n ln fq ls pu t else 0) := fun t ht => by
    rw [h3 t ht]
    by_cases e : t < T ∨ t = T
    · rw [if_pos (by omega), if_pos (by omega)]
    · rw [if_neg (by omega), if_neg (by omega)]
  have hfa : Fa n ln fq ls pu j T = if j < n then kp ls (GF n ln fq ls pu j T) else 0 := Fa_eq hl1 j T
  have hne : Nw n ln fq ls pu j T = kp ls (GN n ln fq ls pu j T) := by rw [Ne_eq hl1, if_pos ⟨hj0, hj⟩]
  have eGF : GF n ln fq ls pu j T = bk (AF n ln fq ls pu j T) (fq j) + (AN n ln fq ls pu j T - bk (AN n ln fq ls pu j T) (fq j)) := by
    unfold GF
    rw [if_neg (by omega), Nat.add_zero]
  have eGN : GN n ln fq ls pu j T = bk (AN n ln fq ls pu j T) (fq j) + (AF n ln fq ls pu j T - bk (AF n ln fq ls pu j T) (fq j)) := rfl
  have c1 := bk_le (a := AN n ln fq ls pu j T) (hff j)
  have c2 := bk_le (a := AF n ln fq ls pu j T) (hff j)
  unfold Cf_W_meetJoint_t_q
  simp only [nm_eq]
  rw [chk_true ((inb_kI (by omega)).mpr (by omega)), chk_true ((inb_kI (by omega)).mpr (by omega)), chk_true ((inb_kI (by omega)).mpr (by omega)), chk_true ((inb_kI (by omega)).mpr (by omega)), kI_nat (by omega), kI_nat (by omega), eN, eF]
  have main := tq_ev_joint35 hL hw hT hj0 hj hℓ hφ (And.intro h1 (And.intro h2 (And.intro h3 h4)))
  by_cases z1 : AN n ln fq ls pu j T = 0
  · by_cases z2 : AF n ln fq ls pu j T = 0
    · rw [z1, z2, if_pos (show kL 0 = 0 from rfl), if_pos (show kL 0 = 0 from rfl)]
      have g1 : GF n ln fq ls pu j T = 0 := by rw [eGF, z1, z2, bk_zero]
      have g2 : GN n ln fq ls pu j T = 0 := by rw [eGN, z1, z2, bk_zero]
      refine ⟨_, _, _, rfl, fun j' t' a1 a2 => ?_, fun j' t' a1 a2 => ?_, ech', fun i hi => ?_⟩
      · rw [h1 j' t' a1 a2]
        by_cases hlt : j < n
        · rw [tq_aN_step hlt]
          by_cases c : j' = j + 1 ∧ t' = T + ln j
          · rw [if_pos c, hfa, if_pos hlt, g1, kp_zero]
            rw [tq_aN_old c]
          · rw [if_neg c]
        · rw [tq_aN_stepL (by omega)]
      · rw [h2 j' t' a1 a2, tq_aF_step hj0 hj]
        by_cases c : j' = j - 1 ∧ t' = T + ln (j - 1)
        · rw [if_pos c, hne, g2, kp_zero]
          rw [tq_aF_old c hj0]
        · rw [if_neg c]
      · rw [h4 i hi, tq_tt_succ]
        have : dJ n ln fq ls pu pc win j T i = 0 := by
          unfold dJ dN dF dL mN mF
          rw [g1, g2, z1, z2, tq_dSet_zero, tq_dSet_zero, bk_zero]
          simp [show j ≠ 0 by omega]
        rw [this, Nat.add_zero]
    · rw [z1, if_pos (show kL 0 = 0 from rfl), if_neg (by rw [q64_0, kL_eq (by omega) (by omega)]; exact z2)]
      rw [z1] at main
      exact main
  · rw [if_neg (by rw [q64_0, kL_eq (by omega) (by omega)]; exact z1)]
    exact main
end CW2

theorem tq_loop_gen {α σ : Type} {L : Nat → σ → Int32 → Option α} (P : Nat → σ → Prop) (Q : α → Prop) (N : Nat) (hstep : ∀ fu i s, i < N → P i s → (∃ a, L (fu + 1) s (kI i) = some a ∧ Q a) ∨ ∃ s', L (fu + 1) s (kI i) = L fu s' (kI (i + 1)) ∧ P (i + 1) s') (hend : ∀ fu s, P N s → ∃ a, L (fu + 1) s (kI N) = some a ∧ Q a) : ∀ fu i s, N < fu + i → i ≤ N → P i s → ∃ a, L fu s (kI i) = some a ∧ Q a := by
  intro fu
  induction fu with
  | zero => intro i s h1 h2; omega
  | succ fu ih =>
    intro i s h1 h2 hP
    by_cases e : i = N
    · subst e
      exact hend fu s hP
    · rcases hstep fu i s (by omega) hP with h | ⟨s', h, hP'⟩
      · exact h
      · rw [h]
        exact ih (i + 1) s' (by omega) (by omega) hP'
theorem tq_ev_fillE {c : Nat → Int64} : ∃ c', Cf_A_fill_t_echoes c 0 = some c' ∧ ∀ t, t < 201 → c' t = kL 0 := by
  obtain ⟨a, h1, h2⟩ := tq_loop_gen (L := fun fu (s : Nat → Int64) x => Cl_A_fill_t_echoes_6 0 201 fu s x) (fun i s => ∀ t, t < i → s t = kL 0) (fun a => ∀ t, t < 201 → a t = kL 0) 201 (fun fu i s hi hP => Or.inr ⟨vp_updL s i (kL 0), by
      simp only [Cl_A_fill_t_echoes_6, nm_eq]
      rw [if_neg (by rw [q32_201, kI_le (by omega) (by omega)]; omega), chk_true ((inb_kI (by omega)).mpr hi), kI_nat (by omega), q32_1, kI_add]
      rfl, fun t ht => by
        by_cases e : t = i
        · subst e; exact up_at
        · rw [up_ne e]; exact hP t (by omega)⟩)
    (fun fu s hP => ⟨s, by simp only [Cl_A_fill_t_echoes_6]; rw [if_pos (by rw [q32_201, kI_le (by omega) (by omega)]; omega)], hP⟩) FUEL 0 c (by decide) (by omega) (fun t ht => absurd ht (by omega))
  exact ⟨a, by unfold Cf_A_fill_t_echoes; rw [q32_0]; exact (bd_e h1), h2⟩
theorem tq_ev_fillT {c : Nat → Int64} : ∃ c', Cf_A_fill_t_totals c 0 = some c' ∧ ∀ t, t < 9 → c' t = kL 0 := by
  obtain ⟨a, h1, h2⟩ := tq_loop_gen (L := fun fu (s : Nat → Int64) x => Cl_A_fill_t_totals_6 0 9 fu s x) (fun i s => ∀ t, t < i → s t = kL 0) (fun a => ∀ t, t < 9 → a t = kL 0) 9 (fun fu i s hi hP => Or.inr ⟨vp_updL s i (kL 0), by
      simp only [Cl_A_fill_t_totals_6, nm_eq]
      rw [if_neg (by rw [q32_9, kI_le (by omega) (by omega)]; omega), chk_true ((inb_kI (by omega)).mpr hi), kI_nat (by omega), q32_1, kI_add]
      rfl, fun t ht => by
        by_cases e : t = i
        · subst e; exact up_at
        · rw [up_ne e]; exact hP t (by omega)⟩)
    (fun fu s hP => ⟨s, by simp only [Cl_A_fill_t_totals_6]; rw [if_pos (by rw [q32_9, kI_le (by omega) (by omega)]; omega)], hP⟩) FUEL 0 c (by decide) (by omega) (fun t ht => absurd ht (by omega))
  exact ⟨a, by unfold Cf_A_fill_t_totals; rw [q32_0]; exact (bd_e h1), h2⟩
theorem tq_gup_at {c : Nat → Nat → Int64} {j t : Nat} {v : Int64} : va_up c j (vp_updL (c j) t v) j t = v := by simp [va_up, vp_updL]
theorem tq_gup_ne {c : Nat → Nat → Int64} {j t j' t' : Nat} {v : Int64} (h : ¬ (j' = j ∧ t' = t)) : va_up c j (vp_updL (c j) t v) j' t' = c j' t' := by
  by_cases e : j' = j
  · subst e
    have : t' ≠ t := fun q => h ⟨rfl, q⟩
    simp [va_up, vp_updL, this]
  · simp [va_up, e]
theorem tq_ev_fillN {c : Nat → Nat → Int64} {j : Nat} (hj : j < 9) : ∃ c', Cf_A_fill_rr72 c (kI j) 0 = some c' ∧ (∀ t, t < 201 → c' j t = kL 0) ∧ ∀ j' t, j' ≠ j → c' j' t = c j' t := by
  obtain ⟨a, h1, h2⟩ := tq_loop_gen (L := fun fu (s : Nat → Nat → Int64) x => Cl_A_fill_rr72_6 (kI j) 0 201 fu s x) (fun i s => (∀ t, t < i → s j t = kL 0) ∧ ∀ j' t, j' ≠ j → s j' t = c j' t) (fun a => (∀ t, t < 201 → a j t = kL 0) ∧ ∀ j' t, j' ≠ j → a j' t = c j' t) 201 (fun fu i s hi hP => Or.inr ⟨va_up s j (vp_updL (s j) i (kL 0)), by
      simp only [Cl_A_fill_rr72_6, nm_eq]
      rw [if_neg (by rw [q32_201, kI_le (by omega) (by omega)]; omega), chk_true ((inb_kI (by omega)).mpr hi), kI_nat (by omega), kI_nat (by omega), q32_1, kI_add]
      rfl, fun t ht => by
        by_cases e : t = i
        · subst e; exact tq_gup_at
        · rw [tq_gup_ne (fun q => e q.2)]; exact hP.1 t (by omega), fun j' t h => by rw [tq_gup_ne (fun q => h q.1)]; exact hP.2 j' t h⟩)
    (fun fu s hP => ⟨s, by simp only [Cl_A_fill_rr72_6]; rw [if_pos (by rw [q32_201, kI_le (by omega) (by omega)]; omega)], hP⟩) FUEL 0 c (by decide) (by omega) ⟨fun t ht => absurd ht (by omega), fun _ _ _ => rfl⟩
  exact ⟨a, by unfold Cf_A_fill_rr72; rw [q32_0]; exact (bd_e h1), h2⟩
theorem tq_fill52a (x0 : Int32) (x1 : Int64) (x4 : Int32) : ∀ (fu : Nat) (c : Nat → Nat → Int64) (x : Int32), Cl_A_fill_rr81_6 x0 x1 x4 fu c x = Cl_A_fill_rr72_6 x0 x1 x4 fu c x := by
  intro fu
  induction fu with
  | zero => intro c x; rfl
  | succ fu ih => intro c x; simp only [Cl_A_fill_rr81_6, Cl_A_fill_rr72_6, ih]
theorem tq_fill52 : @Cf_A_fill_rr81 = @Cf_A_fill_rr72 := by
  funext c x y
  unfold Cf_A_fill_rr81 Cf_A_fill_rr72
  rw [tq_fill52a]
theorem tq_ev_clear {cN cF : Nat → Nat → Int64} {ech tot : Nat → Int64} : ∃ cN' cF' ech' tot', Cf_W_clear_t cN cF ech tot = some (cN', cF', ech', tot') ∧ (∀ j t, j < 9 → t < 201 → cN' j t = kL 0) ∧ (∀ j t, j < 9 → t < 201 → cF' j t = kL 0) ∧ (∀ t, t < 201 → ech' t = kL 0) ∧ ∀ i, i < 9 → tot' i = kL 0 := by
  obtain ⟨⟨a, b⟩, h1, h2⟩ := tq_loop_gen (L := fun fu (s : (Nat → Nat → Int64) × (Nat → Nat → Int64)) x => Cl_W_clear_t_2 fu s.1 s.2 x) (fun i s => (∀ j t, j < i → t < 201 → s.1 j t = kL 0) ∧ ∀ j t, j < i → t < 201 → s.2 j t = kL 0) (fun s => (∀ j t, j < 9 → t < 201 → s.1 j t = kL 0) ∧ ∀ j t, j < 9 → t < 201 → s.2 j t = kL 0) 9 (fun fu i s hi hP => by
      obtain ⟨a, h1, h2, h3⟩ := tq_ev_fillN (c := s.1) hi
      obtain ⟨b, g1, g2, g3⟩ := tq_ev_fillN (c := s.2) hi
      refine Or.inr ⟨(a, b), ?_, fun j t hj ht => ?_, fun j t hj ht => ?_⟩
      · simp only [Cl_W_clear_t_2]
        rw [if_neg (by rw [q32_8, kI_lt (by omega) (by omega)]; omega), chk_true ((inb_kI (by omega)).mpr hi), h1, bd_s, chk_true ((inb_kI (by omega)).mpr hi), tq_fill52, g1, bd_s, nm_eq, q32_1, kI_add]
      · by_cases e : j = i
        · subst e; exact h2 t ht
        · show a j t = _
          rw [h3 j t e]; exact hP.1 j t (by omega) ht
      · by_cases e : j = i
        · subst e; exact g2 t ht
        · show b j t = _
          rw [g3 j t e]; exact hP.2 j t (by omega) ht)
    (fun fu s hP => ⟨s, by simp only [Cl_W_clear_t_2]; rw [if_pos (by rw [q32_8, kI_lt (by omega) (by omega)]; omega)], hP⟩) FUEL 0 (cN, cF) (by decide) (by omega) ⟨fun j t hj => absurd hj (by omega), fun j t hj => absurd hj (by omega)⟩
  obtain ⟨e1, f1, f2⟩ := tq_ev_fillE (c := ech)
  obtain ⟨t1, g1, g2⟩ := tq_ev_fillT (c := tot)
  refine ⟨a, b, e1, t1, ?_, h2.1, h2.2, f2, g2⟩
  unfold Cf_W_clear_t
  rw [q32_0, bd_e h1]
  (try dsimp only)
  rw [f1, bd_s, g1, bd_s]
theorem tq_sm_bound {f : Nat → Nat} {k c : Nat} (h : ∀ i, i < k → f i ≤ c) : sm f k ≤ k * c := by
  rw [← sm_const]
  exact sm_le h
theorem tq_pcP_le {np : Nat} {pt : Nat → Nat} (t k : Nat) : sm (fun i => if pt i = t then 1 else 0) k ≤ k := by
  have := tq_sm_bound (f := fun i => if pt i = t then 1 else 0) (k := k) (c := 1) (fun i _ => by split <;> omega)
  omega
theorem tq_puP_le {np k : Nat} {pt pe : Nat → Nat} (h : POK np pt pe) (hk : k ≤ np) (t : Nat) : sm (fun i => if pt i = t then pe i else 0) k ≤ 4000000 := by
  have := tq_sm_bound (f := fun i => if pt i = t then pe i else 0) (k := k) (c := 1000000) (fun i hi => by have := (h.2 i (by omega)).2.2; split <;> omega)
  have := h.1
  omega
theorem tq_seP_le {np k : Nat} {pt pe : Nat → Nat} (h : POK np pt pe) (hk : k ≤ np) (w : Nat) : sm (fun i => if pt i ≤ w then pe i else 0) k ≤ 4000000 := by
  have := tq_sm_bound (f := fun i => if pt i ≤ w then pe i else 0) (k := k) (c := 1000000) (fun i hi => by have := (h.2 i (by omega)).2.2; split <;> omega)
  have := h.1
  omega
theorem tq_puP_sum {np : Nat} {pt pe : Nat → Nat} (h : POK np pt pe) (T : Nat) : sm (puP np pt pe) T ≤ 4000000 := by
  have e : sm (puP np pt pe) T = sm (fun i => sm (fun t => if pt i = t then pe i else 0) T) np := sm_swap (fun t i => if pt i = t then pe i else 0) T np
  rw [e]
  have h1 : ∀ i, i < np → sm (fun t => if pt i = t then pe i else 0) T ≤ 1000000 := fun i hi => by
    have hb := (h.2 i hi).2.2
    have : ∀ T, sm (fun t => if pt i = t then pe i else 0) T = if pt i < T then pe i else 0 := fun T => by
      induction T with
      | zero => rfl
      | succ T ih =>
        simp only [sm]
        rw [ih]
        by_cases c : pt i = T
        · rw [if_neg (by omega), if_pos c, if_pos (by omega)]; omega
        · rw [if_neg c]
          by_cases c2 : pt i < T
          · rw [if_pos c2, if_pos (by omega)]; omega
          · rw [if_neg c2, if_neg (by omega)]
    rw [this]
    split <;> omega
  have := tq_sm_bound h1
  have := h.1
  omega
theorem tq_ev_addPulses {np win : Nat} {pt pe : Nat → Nat} (hP : POK np pt pe) (hw : win ≤ 200) {ptc pec : Nat → Int32} (h1 : ∀ i, i < np → ptc i = kI (pt i)) (h2 : ∀ i, i < np → pec i = kI (pe i)) {tot : Nat → Int64} (ht : ∀ i, i < 9 → tot i = kL 0) :
    ∃ tot', Cf_W_addUpPulses_t_q (kI win) (kI np) ptc pec tot = some tot' ∧ ∀ i, i < 9 → tot' i = kL (if i = 0 then seP np pt pe win else 0) := by
  have hn := hP.1
  obtain ⟨a, g1, g2⟩ := tq_loop_gen (L := fun fu (s : Nat → Int64) x => Cl_W_addUpPulses_t_q_2 (kI win) (kI np) ptc pec fu s x) (fun k s => ∀ i, i < 9 → s i = kL (if i = 0 then sm (fun i => if pt i ≤ win then pe i else 0) k else 0)) (fun s => ∀ i, i < 9 → s i = kL (if i = 0 then seP np pt pe win else 0)) np (fun fu k s hk hs => by
      have hb := hP.2 k hk
      refine Or.inr ⟨vp_updL s 0 (s 0 + kL (if pt k ≤ win then pe k else 0)), ?_, fun i hi => ?_⟩
      · simp only [Cl_W_addUpPulses_t_q_2, nm_eq, Cf_W_addUpPulses_t_q_39]
        rw [if_neg (by rw [kI_le (by omega) (by omega)]; omega), chk_true ((inb_kI (by omega)).mpr (by omega)), kI_nat (by omega), h1 k hk, h2 k hk]
        by_cases c : pt k ≤ win
        · rw [if_neg (by rw [kI_lt (by omega) (by omega)]; omega), chk_true (by decide), chk_true ((inb_kI (by omega)).mpr (by omega)), chk_true (by decide), if_pos c, t32_0, kI_long (by omega), q32_1, kI_add]
        · rw [if_pos (by rw [kI_lt (by omega) (by omega)]; omega), if_neg c, kL0_add, q32_1, kI_add]
          congr 1
          funext i
          by_cases e : i = 0
          · subst e; rw [up_at]
          · rw [up_ne e]
      · by_cases e : i = 0
        · subst e
          rw [up_at, hs 0 hi, kL_add, if_pos rfl, if_pos rfl]
          rfl
        · rw [up_ne e, hs i hi, if_neg e, if_neg e])
    (fun fu s hs => ⟨s, by simp only [Cl_W_addUpPulses_t_q_2]; rw [if_pos (by rw [kI_le (by omega) (by omega)]; omega)], hs⟩) FUEL 0 tot (by have : FUEL = 4096 := rfl; omega) (by omega) (fun i hi => by rw [ht i hi]; split <;> rfl)
  exact ⟨a, by unfold Cf_W_addUpPulses_t_q; rw [q32_0]; exact bd_e g1, g2⟩

section CW4
variable {n : Nat} {ln fq : Nat → Nat} {ls : Nat} {np : Nat} {pt pe : Nat → Nat} {win : Nat} {b0 : Nat → Nat}
theorem tq_ev_pulses {T e0 c0 : Nat} (hP : POK np pt pe) (hT : T ≤ 200) (he : e0 ≤ 4000000) (hc : c0 ≤ 1) {ptc pec : Nat → Int32} (h1 : ∀ i, i < np → ptc i = kI (pt i)) (h2 : ∀ i, i < np → pec i = kI (pe i)) :
    Cl_W_meetFront_t_q_46 (kI np) ptc pec (kI T) FUEL (kL e0) (kI c0) 0 = some (kL (e0 + puP np pt pe T), kI (c0 + pcP np pt T)) := by
  have hn := hP.1
  obtain ⟨a, g1, g2⟩ := tq_loop_gen (L := fun fu (s : Int64 × Int32) x => Cl_W_meetFront_t_q_46 (kI np) ptc pec (kI T) fu s.1 s.2 x) (fun k s => s = (kL (e0 + sm (fun i => if pt i = T then pe i else 0) k), kI (c0 + sm (fun i => if pt i = T then 1 else 0) k))) (fun s => s = (kL (e0 + puP np pt pe T), kI (c0 + pcP np pt T))) np (fun fu k s hk hs => by
      have hb := hP.2 k hk
      subst hs
      refine Or.inr ⟨_, ?_, rfl⟩
      simp only [Cl_W_meetFront_t_q_46, nm_eq, Cf_W_meetFront_t_q_82]
      rw [if_neg (by rw [kI_le (by omega) (by omega)]; omega), chk_true ((inb_kI (by omega)).mpr (by omega)), kI_nat (by omega), h1 k hk, h2 k hk]
      by_cases c : pt k = T
      · rw [if_pos (by rw [c]), chk_true ((inb_kI (by omega)).mpr (by omega)), kI_long (by omega), kL_add, q32_1, kI_add, kI_add]
        simp only [sm]
        rw [if_pos c, if_pos c, Nat.add_assoc, Nat.add_assoc]
      · rw [if_neg (by rw [kI_eq (by omega) (by omega)]; exact c), q32_1, kI_add]
        simp only [sm]
        rw [if_neg c, if_neg c]
        rfl)
    (fun fu s hs => ⟨s, by simp only [Cl_W_meetFront_t_q_46]; rw [if_pos (by rw [kI_le (by omega) (by omega)]; omega)], hs⟩) FUEL 0 (kL e0, kI c0) (by have : FUEL = 4096 := rfl; omega) (by omega) rfl
  rw [g2] at g1
  rw [q32_0]
  exact g1
theorem tq_AN0 (t : Nat) (pu : Nat → Nat) : AN n ln fq ls pu 0 t = 0 := by
  unfold AN aN
  rw [if_neg (by omega)]
theorem tq_ev_front (hL : LOK n ln fq ls (puP np pt pe)) (hP : POK np pt pe) (hn0 : 0 < n) (hw : win ≤ 200) {T : Nat} (hT : T ≤ win) {ℓc ptc pec : Nat → Int32} (hℓ : ∀ k, k < n → ℓc k = kI (ln k)) (h1 : ∀ i, i < np → ptc i = kI (pt i)) (h2 : ∀ i, i < np → pec i = kI (pe i)) {cN cF : Nat → Nat → Int64} {ech tot : Nat → Int64}
    (h : CWI n ln fq ls (puP np pt pe) (pcP np pt) win b0 T 0 cN cF ech tot) : ∃ cN' cF' ech' tot', Cf_W_meetFront_t_q (kI (fq 0)) (kI ls) (kI win) (kI np) ℓc ptc pec cN cF ech tot (kI T) = some (cN', cF', ech', tot') ∧ CWI n ln fq ls (puP np pt pe) (pcP np pt) win b0 T 1 cN' cF' ech' tot' := by
  have hl1 := hL.l1
  obtain ⟨hn, hll, hff, hls, hPs⟩ := id hL
  obtain ⟨g1, g2, g3, g4⟩ := h
  have eF : cF 0 T = kL (AF n ln fq ls (puP np pt pe) 0 T) := by rw [g2 0 T (by omega) (by omega), if_pos hT, tq_aF_read hl1]
  have bF := AF_le (ls := ls) hl1 hff hPs 0 T
  have c2 := bk_le (a := AF n ln fq ls (puP np pt pe) 0 T) (hff 0)
  have bpu := tq_puP_le hP (Nat.le_refl np) T
  have bpc := tq_pcP_le (np := np) (pt := pt) T np
  have hn4 := hP.1
  have eGF : GF n ln fq ls (puP np pt pe) 0 T = bk (AF n ln fq ls (puP np pt pe) 0 T) (fq 0) + puP np pt pe T := by
    unfold GF
    rw [tq_AN0, bk_zero, if_pos rfl]
    omega
  have main : ∀ s0 : Nat, s0 = (if 0 < bk (AF n ln fq ls (puP np pt pe) 0 T) (fq 0) then 1 else 0) → ∃ cN' cF' ech' tot', Cf_W_meetFront_t_q_31 (kI ls) (kI win) (kI np) ℓc ptc pec cN cF ech tot (kI T) (kL (AF n ln fq ls (puP np pt pe) 0 T)) (kL (bk (AF n ln fq ls (puP np pt pe) 0 T) (fq 0))) (kI s0) = some (cN', cF', ech', tot') ∧ CWI n ln fq ls (puP np pt pe) (pcP np pt) win b0 T 1 cN' cF' ech' tot' := by
    intro s0 hs0
    have hs1 : s0 ≤ 1 := by rw [hs0]; split <;> omega
    unfold Cf_W_meetFront_t_q_31
    simp only [nm_eq]
    rw [chk_true ((inb_kI (by omega)).mpr (by omega)), kL_sub c2, kI_nat (by omega), tq_ev_pulses hP (by omega) (by omega) hs1 h1 h2, bd_s]
    (try dsimp only)
    have fin : ∀ tot1 : Nat → Int64, (∀ i, tot1 i = tot i + kL (if i = 5 then mF n ln fq ls (puP np pt pe) (pcP np pt) 0 T else 0)) → ∃ cN' cF' ech' tot', Cf_W_meetFront_t_q_104 (kI ls) (kI win) ℓc cN cF (vp_updL ech T (kL (AF n ln fq ls (puP np pt pe) 0 T - bk (AF n ln fq ls (puP np pt pe) 0 T) (fq 0)))) tot1 (kI T) (kL (bk (AF n ln fq ls (puP np pt pe) 0 T) (fq 0) + puP np pt pe T)) = some (cN', cF', ech', tot') ∧ CWI n ln fq ls (puP np pt pe) (pcP np pt) win b0 T 1 cN' cF' ech' tot' := by
      intro tot1 ht1
      unfold Cf_W_meetFront_t_q_104
      rw [← eGF]
      have bG := tq_GF0_le hL T
      obtain ⟨cN1, t4, e4, f4, m4⟩ := tq_ev_setOutF (ls := ls) (win := win) (k := 0) (t := T) (e := GF n ln fq ls (puP np pt pe) 0 T) (ℓc := ℓc) (ln := ln) (cN := cN) (cF := cF) (tot := tot1) (by omega) (hℓ _ hn0) (hll _ hn0).2 hls hw (by omega) (by omega)
      rw [q32_0, e4, bd_s]
      refine ⟨_, _, _, _, rfl, fun j' t' a1 a2 => ?_, fun j' t' a1 a2 => ?_, fun t ht => ?_, fun i hi => ?_⟩
      · rw [f4 j' t', g1 j' t' a1 a2, tq_aN_step hn0, Fa_eq hl1, if_pos hn0]
        exact tq_put_eq tq_aN_old
      · rw [g2 j' t' a1 a2, tq_aF_step0]
      · by_cases e : t = T
        · subst e
          rw [up_at, if_pos (Or.inr ⟨rfl, by omega⟩)]
          rfl
        · rw [up_ne e, g3 t ht]
          by_cases e2 : t < T
          · rw [if_pos (Or.inl e2), if_pos (Or.inl e2)]
          · rw [if_neg (by omega), if_neg (by omega)]
      · have eD : dJ n ln fq ls (puP np pt pe) (pcP np pt) win 0 T i = dSet ls win (T + ln 0) (GF n ln fq ls (puP np pt pe) 0 T) i + (if i = 5 then mF n ln fq ls (puP np pt pe) (pcP np pt) 0 T else 0) := by
          unfold dJ dN dF dL
          rw [if_neg (show ¬ 1 ≤ 0 by omega), if_pos hn0, if_neg (show ¬ (i = 2 ∧ 0 = n) by omega)]
          omega
        rw [tq_tt_succ, eD, m4, ht1, g4 i hi, kL_add, kL_add]
        congr 1
        omega
    have hm : mF n ln fq ls (puP np pt pe) (pcP np pt) 0 T = if 1 < s0 + pcP np pt T then 1 else 0 := by
      unfold mF
      rw [if_pos rfl, hs0]
    have bpc' : pcP np pt T ≤ np := bpc
    by_cases c : s0 + pcP np pt T ≤ 1
    · rw [if_pos (by rw [q32_1, kI_le (by omega) (by omega)]; exact c)]
      refine fin tot (fun i => ?_)
      rw [hm, if_neg (show ¬ 1 < s0 + pcP np pt T by omega)]
      by_cases e : i = 5
      · rw [if_pos e, kL0_add]
      · rw [if_neg e, kL0_add]
    · rw [if_neg (by rw [q32_1, kI_le (by omega) (by omega)]; exact c), chk_true (by decide), chk_true (by decide), t32_5]
      refine fin _ (fun i => ?_)
      rw [hm, if_pos (show 1 < s0 + pcP np pt T by omega)]
      by_cases e : i = 5
      · subst e
        rw [up_at, if_pos rfl]
        rfl
      · rw [up_ne e, if_neg e, kL0_add]
  unfold Cf_W_meetFront_t_q
  rw [chk_true (by decide), chk_true ((inb_kI (by omega)).mpr (by omega)), nm_eq, t32_0, kI_nat (by omega), eF, tq_ev_back (by omega) (hff 0), bd_s]
  by_cases c : bk (AF n ln fq ls (puP np pt pe) 0 T) (fq 0) = 0
  · rw [if_pos (by rw [q64_0, kL_le (by omega) (by omega)]; omega), q32_0]
    exact main 0 (by rw [if_neg (by omega)])
  · rw [if_neg (by rw [q64_0, kL_le (by omega) (by omega)]; omega), q32_1]
    exact main 1 (by rw [if_pos (by omega)])
theorem tq_ev_joints (hL : LOK n ln fq ls (puP np pt pe)) (hw : win ≤ 200) {T : Nat} (hT : T ≤ win) {ℓc φc : Nat → Int32} (hℓ : ∀ k, k < n → ℓc k = kI (ln k)) (hφ : ∀ k, k < n → φc k = kI (fq (k + 1))) {cN cF : Nat → Nat → Int64} {ech tot : Nat → Int64} (h : CWI n ln fq ls (puP np pt pe) (pcP np pt) win b0 T 1 cN cF ech tot) :
    ∃ cN' cF' tot', Cl_W_spread_t_q_47 (kI n) (kI ls) (kI win) ℓc φc (kI T) FUEL cN cF tot 1 = some (cN', cF', tot') ∧ CWI n ln fq ls (puP np pt pe) (pcP np pt) win b0 T (n + 1) cN' cF' ech tot' := by
  have hn := hL.1
  obtain ⟨⟨a, b, c⟩, g1, g2⟩ := tq_loop_gen (L := fun fu (s : (Nat → Nat → Int64) × (Nat → Nat → Int64) × (Nat → Int64)) x => Cl_W_spread_t_q_47 (kI n) (kI ls) (kI win) ℓc φc (kI T) fu s.1 s.2.1 s.2.2 x) (fun j s => 1 ≤ j ∧ CWI n ln fq ls (puP np pt pe) (pcP np pt) win b0 T j s.1 s.2.1 ech s.2.2) (fun s => CWI n ln fq ls (puP np pt pe) (pcP np pt) win b0 T (n + 1) s.1 s.2.1 ech s.2.2) (n + 1) (fun fu j s hj hs => by
      obtain ⟨a, b, c, e1, e2⟩ := tq_ev_joint hL hw hT hs.1 (by omega) hℓ hφ hs.2
      refine Or.inr ⟨(a, b, c), ?_, by omega, e2⟩
      simp only [Cl_W_spread_t_q_47]
      rw [if_neg (by rw [kI_lt (by omega) (by omega)]; omega), e1, bd_s, nm_eq, q32_1, kI_add])
    (fun fu s hs => ⟨s, by simp only [Cl_W_spread_t_q_47]; rw [if_pos (by rw [kI_lt (by omega) (by omega)]; omega)], hs.2⟩) FUEL 1 (cN, cF, tot) (by have : FUEL = 4096 := rfl; omega) (by omega) ⟨by omega, h⟩
  exact ⟨a, b, c, by rw [q32_1]; exact g1, g2⟩
theorem tq_ev_times (hL : LOK n ln fq ls (puP np pt pe)) (hP : POK np pt pe) (hn0 : 0 < n) (hw : win ≤ 200) {ℓc φc ptc pec : Nat → Int32} (hℓ : ∀ k, k < n → ℓc k = kI (ln k)) (hφ : ∀ k, k < n → φc k = kI (fq (k + 1))) (h1 : ∀ i, i < np → ptc i = kI (pt i)) (h2 : ∀ i, i < np → pec i = kI (pe i)) {cN cF : Nat → Nat → Int64} {ech tot : Nat → Int64}
    (h : CWI n ln fq ls (puP np pt pe) (pcP np pt) win b0 0 0 cN cF ech tot) : ∃ cN' cF' ech' tot', Cl_W_spread_t_q_31 (kI n) (kI (fq 0)) (kI ls) (kI win) (kI np) ℓc φc ptc pec FUEL cN cF ech tot 0 = some (cN', cF', ech', tot') ∧ CWI n ln fq ls (puP np pt pe) (pcP np pt) win b0 (win + 1) 0 cN' cF' ech' tot' := by
  obtain ⟨⟨a, b, c, d⟩, g1, g2⟩ := tq_loop_gen (L := fun fu (s : (Nat → Nat → Int64) × (Nat → Nat → Int64) × (Nat → Int64) × (Nat → Int64)) x => Cl_W_spread_t_q_31 (kI n) (kI (fq 0)) (kI ls) (kI win) (kI np) ℓc φc ptc pec fu s.1 s.2.1 s.2.2.1 s.2.2.2 x) (fun T s => CWI n ln fq ls (puP np pt pe) (pcP np pt) win b0 T 0 s.1 s.2.1 s.2.2.1 s.2.2.2) (fun s => CWI n ln fq ls (puP np pt pe) (pcP np pt) win b0 (win + 1) 0 s.1 s.2.1 s.2.2.1 s.2.2.2) (win + 1) (fun fu T s hT hs => by
      obtain ⟨a, b, c, d, e1, e2⟩ := tq_ev_front hL hP hn0 hw (show T ≤ win by omega) hℓ h1 h2 hs
      obtain ⟨a', b', d', e3, e4⟩ := tq_ev_joints hL hw (show T ≤ win by omega) hℓ hφ e2
      refine Or.inr ⟨(a', b', c, d'), ?_, e4.next⟩
      simp only [Cl_W_spread_t_q_31]
      rw [if_neg (by rw [kI_lt (by omega) (by omega)]; omega), e1, bd_s]
      (try dsimp only)
      rw [e3, bd_s, nm_eq, q32_1, kI_add])
    (fun fu s hs => ⟨s, by simp only [Cl_W_spread_t_q_31]; rw [if_pos (by rw [kI_lt (by omega) (by omega)]; omega)], hs⟩) FUEL 0 (cN, cF, ech, tot) (by have : FUEL = 4096 := rfl; omega) (by omega) h
  exact ⟨a, b, c, d, by rw [q32_0]; exact g1, g2⟩
end CW4

theorem tq_mx_le {f : Nat → Nat} {k c : Nat} (h : ∀ i, i < k → f i ≤ c) : mx f k ≤ c := by
  induction k with
  | zero => exact Nat.zero_le _
  | succ k ih =>
    simp only [mx]
    split
    · exact h k (by omega)
    · exact ih (fun i hi => h i (by omega))
theorem tq_ev_echoSum {ech tot : Nat → Int64} {e : Nat → Nat} {b : Nat → Nat} (he : ∀ t, t < 201 → ech t = kL (e t)) (hb : ∀ t, t < 201 → e t ≤ 4000000) (ht : ∀ i, i < 9 → tot i = kL (b i)) (h0 : b 1 = 0 ∧ b 7 = 0 ∧ b 8 = 0) :
    ∃ tot', Cf_W_addUpEchoes_t ech tot = some tot' ∧ ∀ i, i < 9 → tot' i = kL (if i = 1 then sm e 201 else if i = 7 then sm (fun t => if 0 < e t then 1 else 0) 201 else if i = 8 then mx e 201 else b i) := by
  obtain ⟨a, g1, g2⟩ := tq_loop_gen (L := fun fu (s : Nat → Int64) x => Cl_W_addUpEchoes_t_2 ech fu s x) (fun k s => ∀ i, i < 9 → s i = kL (if i = 1 then sm e k else if i = 7 then sm (fun t => if 0 < e t then 1 else 0) k else if i = 8 then mx e k else b i)) (fun s => ∀ i, i < 9 → s i = kL (if i = 1 then sm e 201 else if i = 7 then sm (fun t => if 0 < e t then 1 else 0) 201 else if i = 8 then mx e 201 else b i)) 201 (fun fu k s hk hs => by
      have hbk := hb k hk
      have hm : mx e k ≤ 4000000 := tq_mx_le (fun i hi => hb i (by omega))
      by_cases c : e k = 0
      · refine Or.inr ⟨s, ?_, fun i hi => ?_⟩
        · simp only [Cl_W_addUpEchoes_t_2, nm_eq, Cf_W_addUpEchoes_t_69]
          rw [if_neg (by rw [q32_201, kI_le (by omega) (by omega)]; omega), chk_true ((inb_kI (by omega)).mpr hk), kI_nat (by omega), he k hk, if_pos (by rw [q64_0, kL_le (by omega) (by omega)]; omega), q32_1, kI_add]
        · rw [hs i hi]
          refine congrArg kL ?_
          simp only [sm, mx]
          rw [c]
          simp
      · refine Or.inr ⟨vp_updL (vp_updL (vp_updL s 1 (s 1 + kL (e k))) 7 (s 7 + 1)) 8 (kL (mx e (k + 1))), ?_, fun i hi => ?_⟩
        · simp only [Cl_W_addUpEchoes_t_2, nm_eq, Cf_W_addUpEchoes_t_69]
          rw [if_neg (by rw [q32_201, kI_le (by omega) (by omega)]; omega), chk_true ((inb_kI (by omega)).mpr hk), kI_nat (by omega), he k hk, if_neg (by rw [q64_0, kL_le (by omega) (by omega)]; omega)]
          rw [chk_true (by decide), chk_true ((inb_kI (by omega)).mpr hk), chk_true (by decide), chk_true (by decide), chk_true (by decide), chk_true (by decide), chk_true ((inb_kI (by omega)).mpr hk), chk_true (by decide), t32_1, t32_7, t32_8]
          rw [up_ne (show (8 : Nat) ≠ 7 by decide), up_ne (show (8 : Nat) ≠ 1 by decide), up_ne (show (7 : Nat) ≠ 1 by decide), q32_1, kI_add]
          have e8 : s 8 = kL (mx e k) := by
            rw [hs 8 (by omega)]
            simp
          rw [e8]
          have : (if kL (e k) < kL (mx e k) then kL (mx e k) else kL (e k)) = kL (mx e (k + 1)) := by
            simp only [mx]
            by_cases c2 : mx e k < e k
            · rw [if_neg (by rw [kL_lt (by omega) (by omega)]; omega), if_pos c2]
            · rw [if_neg c2]
              by_cases c3 : e k < mx e k
              · rw [if_pos (by rw [kL_lt (by omega) (by omega)]; exact c3)]
              · rw [if_neg (by rw [kL_lt (by omega) (by omega)]; exact c3), show e k = mx e k by omega]
          rw [this]
        · by_cases i8 : i = 8
          · subst i8
            rw [up_at, if_neg (by decide), if_neg (by decide), if_pos rfl]
          · rw [up_ne i8]
            by_cases i7 : i = 7
            · subst i7
              rw [up_at, if_neg (by decide), if_pos rfl, hs 7 (by omega), if_neg (by decide), if_pos rfl]
              simp only [sm]
              rw [if_pos (by omega), ← kL_add]
              rfl
            · rw [up_ne i7]
              by_cases i1 : i = 1
              · subst i1
                rw [up_at, if_pos rfl, hs 1 (by omega), if_pos rfl, kL_add]
                rfl
              · rw [up_ne i1, hs i hi, if_neg i1, if_neg i7, if_neg i8, if_neg i1, if_neg i7, if_neg i8])
    (fun fu s hs => ⟨s, by simp only [Cl_W_addUpEchoes_t_2]; rw [if_pos (by rw [q32_201, kI_le (by omega) (by omega)]; omega)], hs⟩) FUEL 0 tot (by decide) (by omega) (fun i hi => by
      rw [ht i hi]
      refine congrArg kL ?_
      by_cases i1 : i = 1
      · subst i1; rw [if_pos rfl, h0.1]; rfl
      · rw [if_neg i1]
        by_cases i7 : i = 7
        · subst i7; rw [if_pos rfl, h0.2.1]; rfl
        · rw [if_neg i7]
          by_cases i8 : i = 8
          · subst i8; rw [if_pos rfl, h0.2.2]; rfl
          · rw [if_neg i8])
  exact ⟨a, by unfold Cf_W_addUpEchoes_t; rw [q32_0]; exact bd_e g1, g2⟩
section CW5
variable (n : Nat) (ln fq : Nat → Nat) (ls : Nat) (np : Nat) (pt pe : Nat → Nat) (win : Nat)
variable {n ln fq ls np pt pe win}
theorem tq_EC_le (hL : LOK n ln fq ls (puP np pt pe)) (t : Nat) : EC n ln fq ls (puP np pt pe) t ≤ 4000000 := by
  unfold EC
  have := AF_le (ls := ls) hL.l1 hL.2.2.1 hL.2.2.2.2 0 t
  omega
theorem tq_ew_le (hL : LOK n ln fq ls (puP np pt pe)) (t : Nat) : ew n ln fq ls np pt pe win t ≤ 4000000 := by
  unfold ew
  split
  · exact tq_EC_le hL t
  · omega
theorem tq_AN_n0 (h : n = 0) (pu : Nat → Nat) (j t : Nat) : AN n ln fq ls pu j t = 0 := by
  unfold AN aN
  rw [if_neg (by omega)]
theorem tq_AF_n0 (h : n = 0) (pu : Nat → Nat) (j t : Nat) : AF n ln fq ls pu j t = 0 := by
  unfold AF aF
  rw [if_neg (by omega)]
theorem tq_ew_n0 (h : n = 0) (t : Nat) : ew n ln fq ls np pt pe win t = 0 := by
  unfold ew EC
  rw [tq_AF_n0 h]
  split <;> simp
theorem tq_dJ_n0 (h : n = 0) (pu pc : Nat → Nat) (t i : Nat) : dJ n ln fq ls pu pc win 0 t i = 0 := by
  unfold dJ dN dF dL
  rw [tq_AN_n0 h, if_neg (show ¬ 1 ≤ 0 by omega), if_neg (show ¬ 0 < n by omega)]
  simp
theorem tq_dJ_out (pu pc : Nat → Nat) (j t : Nat) {i : Nat} (hi : i = 0 ∨ i = 1 ∨ i = 7 ∨ i = 8) : dJ n ln fq ls pu pc win j t i = 0 := by
  unfold dJ dN dF dL dSet
  simp (disch := omega) [show ¬ i = 2 by omega, show ¬ i = 3 by omega, show ¬ i = 4 by omega, show ¬ i = 5 by omega, show ¬ i = 6 by omega]
theorem tq_tt_out (pu pc b0 : Nat → Nat) (T : Nat) {i : Nat} (hi : i = 0 ∨ i = 1 ∨ i = 7 ∨ i = 8) : tt n ln fq ls pu pc win b0 T 0 i = b0 i := by
  show b0 i + sm _ T + 0 = b0 i
  rw [sm_zero (fun t _ => sm_zero (fun j _ => tq_dJ_out pu pc j t hi))]
  omega
theorem tq_tt_in (pu pc b0 : Nat → Nat) (T i : Nat) (h : b0 i = 0) : tt n ln fq ls pu pc win b0 T 0 i = sm (fun t => sm (fun j => dJ n ln fq ls pu pc win j t i) (n + 1)) T := by
  show b0 i + sm _ T + 0 = _
  rw [h]
  omega
theorem tq_ev_spread (hL : LOK n ln fq ls (puP np pt pe)) (hP : POK np pt pe) (hw : win ≤ 200) {ℓc φc ptc pec : Nat → Int32} (hℓ : ∀ k, k < n → ℓc k = kI (ln k)) (hφ : ∀ k, k < n → φc k = kI (fq (k + 1))) (h1 : ∀ i, i < np → ptc i = kI (pt i)) (h2 : ∀ i, i < np → pec i = kI (pe i)) {cN cF : Nat → Nat → Int64} {ech tot : Nat → Int64} :
    ∃ cN' cF' ech' tot', Cf_W_spread_t_q (kI n) (kI (fq 0)) (kI ls) (kI win) (kI np) ℓc φc ptc pec cN cF ech tot = some (cN', cF', ech', tot') ∧ WR n ln fq ls np pt pe win cN' cF' ech' tot' := by
  have hn := hL.1
  unfold Cf_W_spread_t_q
  obtain ⟨a, b, c, d, e1, z1, z2, z3, z4⟩ := tq_ev_clear (cN := cN) (cF := cF) (ech := ech) (tot := tot)
  rw [e1, bd_s]
  (try dsimp only)
  obtain ⟨d1, e2, f2⟩ := tq_ev_addPulses hP hw h1 h2 z4
  rw [e2, bd_s]
  by_cases h0 : n = 0
  · rw [if_pos (by rw [q32_0, kI_eq (by omega) (by omega)]; exact h0), chk_true (by decide), nm_eq, chk_true (by decide), nm_eq, t32_0, t32_2]
    refine ⟨_, _, _, _, rfl, fun j t hj ht => ?_, fun j t hj ht => ?_, fun t ht => ?_, fun i hi => ?_⟩
    · rw [z1 j t hj (by omega), tq_AN_n0 h0]
    · rw [z2 j t hj (by omega), tq_AF_n0 h0]
    · rw [z3 t ht, tq_ew_n0 h0]
    · by_cases i2 : i = 2
      · subst i2
        rw [up_at, f2 0 (by omega), if_pos rfl]
        unfold TOT
        rw [if_neg (by decide), if_neg (by decide), if_pos ⟨rfl, h0⟩]
      · rw [up_ne i2, f2 i hi]
        refine congrArg kL ?_
        unfold TOT
        by_cases i0 : i = 0
        · rw [if_pos i0, if_pos i0]
        · rw [if_neg i0, if_neg i0]
          have s0 : sm (ew n ln fq ls np pt pe win) 201 = 0 := sm_zero (fun t _ => tq_ew_n0 h0 t)
          have s7 : sm (fun t => if 0 < ew n ln fq ls np pt pe win t then 1 else 0) 201 = 0 := sm_zero (fun t _ => by rw [tq_ew_n0 h0 t]; rfl)
          have s8 : mx (ew n ln fq ls np pt pe win) 201 = 0 := Nat.le_zero.mp (tq_mx_le (fun t _ => by rw [tq_ew_n0 h0 t]; exact Nat.le_refl _))
          have sd : sm (fun t => sm (fun j => dJ n ln fq ls (puP np pt pe) (pcP np pt) win j t i) (n + 1)) (win + 1) = 0 := sm_zero (fun t _ => sm_zero (fun j hj => by
            have : j = 0 := by omega
            subst this
            exact tq_dJ_n0 h0 _ _ t i))
          rw [s0, s7, s8, sd, if_neg (show ¬ (i = 2 ∧ n = 0) from fun q => i2 q.1)]
          simp
  · rw [if_neg (by rw [q32_0, kI_eq (by omega) (by omega)]; exact h0)]
    have hI : CWI n ln fq ls (puP np pt pe) (pcP np pt) win (fun i => if i = 0 then seP np pt pe win else 0) 0 0 a b c d1 := by
      refine ⟨fun j t hj ht => ?_, fun j t hj ht => ?_, fun t ht => ?_, fun i hi => ?_⟩
      · rw [z1 j t hj ht]
        refine congrArg kL ?_
        have : aN n ln (FaP n ln fq ls (puP np pt pe) 0 0) j t = 0 := by
          unfold aN
          split
          · unfold FaP
            rw [if_neg (by omega)]
          · rfl
        rw [this]
        split <;> rfl
      · rw [z2 j t hj ht]
        refine congrArg kL ?_
        have : aF n ln (NeP n ln fq ls (puP np pt pe) 0 0) j t = 0 := by
          unfold aF
          split
          · unfold NeP
            rw [if_neg (by omega)]
          · rfl
        rw [this]
        split <;> rfl
      · rw [z3 t ht, if_neg (by omega)]
      · rw [f2 i hi]
        rfl
    obtain ⟨a', b', c', d', e3, g1, g2, g3, g4⟩ := tq_ev_times hL hP (by omega) hw hℓ hφ h1 h2 hI
    rw [e3, bd_s]
    (try dsimp only)
    have he : ∀ t, t < 201 → c' t = kL (ew n ln fq ls np pt pe win t) := fun t ht => by
      rw [g3 t ht]
      unfold ew
      by_cases q : t ≤ win
      · rw [if_pos (by omega), if_pos q]
      · rw [if_neg (by omega), if_neg q]
    obtain ⟨d2, e4, f4⟩ := tq_ev_echoSum he (fun t _ => tq_ew_le hL t) g4 ⟨(tq_tt_out _ _ _ _ (by omega)).trans (if_neg (by decide)), (tq_tt_out _ _ _ _ (by omega)).trans (if_neg (by decide)), (tq_tt_out _ _ _ _ (by omega)).trans (if_neg (by decide))⟩
    rw [e4, bd_s]
    refine ⟨_, _, _, _, rfl, fun j t hj ht => ?_, fun j t hj ht => ?_, he, fun i hi => ?_⟩
    · rw [g1 j t hj (by omega), if_pos ht]
      refine congrArg kL ?_
      unfold AN aN
      by_cases q : 1 ≤ j ∧ j ≤ n ∧ ln (j - 1) ≤ t
      · rw [if_pos q, if_pos q]
        unfold FaP
        rw [if_pos (Or.inl (by omega))]
      · rw [if_neg q, if_neg q]
    · rw [g2 j t hj (by omega), if_pos ht]
      refine congrArg kL ?_
      unfold AF aF
      by_cases q : j < n ∧ ln j ≤ t
      · rw [if_pos q, if_pos q]
        unfold NeP
        rw [if_pos (Or.inl (by omega))]
      · rw [if_neg q, if_neg q]
    · rw [f4 i hi]
      refine congrArg kL ?_
      unfold TOT
      by_cases i1 : i = 1
      · subst i1
        simp
      · rw [if_neg i1]
        by_cases i0 : i = 0
        · subst i0
          rw [if_neg (by decide), if_neg (by decide), if_pos rfl]
          exact (tq_tt_out _ _ _ _ (by omega)).trans (if_pos rfl)
        · rw [if_neg i0, if_neg (show ¬ (i = 2 ∧ n = 0) from fun q => h0 q.2), if_neg i1]
          by_cases i7 : i = 7
          · rw [if_pos i7, if_pos i7]
          · rw [if_neg i7, if_neg i7]
            by_cases i8 : i = 8
            · rw [if_pos i8, if_pos i8]
            · rw [if_neg i8, if_neg i8]
              exact tq_tt_in _ _ _ _ _ (if_neg i0)
end CW5

