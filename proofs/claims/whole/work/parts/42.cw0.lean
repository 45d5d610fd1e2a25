def dSet (ls win a e : Nat) (i : Nat) : Nat := (if i = 3 ∧ e < ls then e else 0) + (if i = 6 ∧ 0 < e ∧ e < ls then 1 else 0) + (if i = 4 ∧ win < a then kp ls e else 0)
theorem ev_setOutF {ls win k t e : Nat} {ℓc : Nat → Int32} {ln : Nat → Nat} {cN cF : Nat → Nat → Int64} {tot : Nat → Int64} (hk : k < 8) (hℓ : ℓc k = kI (ln k)) (hl : ln k ≤ 20) (hls : ls ≤ 1000) (hw : win ≤ 200) (ht : t ≤ 200) (he : e < 10000000) :
    ∃ cN' tot', Cf_W_setOut_w_n (kI ls) (kI win) ℓc cN cF tot (kI k) 1 (kI t) (kL e) = some (cN', cF, tot') ∧ (∀ j t', cN' j t' = if j = k + 1 ∧ t' = t + ln k ∧ t' ≤ win ∧ 0 < kp ls e then kL (kp ls e) else cN j t') ∧ ∀ i, tot' i = tot i + kL (dSet ls win (t + ln k) e i) := by
  unfold Cf_W_setOut_w_n
  by_cases h0 : e = 0
  · subst h0
    rw [if_pos (show kL 0 = 0 from rfl)]
    refine ⟨cN, tot, rfl, fun j t' => ?_, fun i => ?_⟩
    · rw [if_neg]
      rw [kp_zero]
      omega
    · have : dSet ls win (t + ln k) 0 i = 0 := by
        unfold dSet
        rw [kp_zero]
        simp
      rw [this, kL0_add]
  · rw [if_neg (by rw [q64_0, kL_eq (by omega) (by omega)]; exact h0)]
    rw [chk_true ((inb_kI (by omega)).mpr hk)]
    simp only [nm_eq, kI_nat (show k < 2147483648 by omega), hℓ, kI_add, kI_long (show ls < 2147483648 by omega)]
    by_cases h1 : ls ≤ e
    · rw [if_pos ((kL_le (by omega) (by omega)).mpr h1)]
      have hkp : kp ls e = e := by unfold kp; rw [if_neg (by omega)]
      by_cases h2 : t + ln k ≤ win
      · rw [if_pos ((kI_le (by omega) (by omega)).mpr h2), if_neg (by decide)]
        rw [q32_1, kI_add, chk_true ((inb_kI (by omega)).mpr (by omega)), chk_true ((inb_kI (by omega)).mpr (by omega)), kI_nat (by omega), kI_nat (by omega)]
        refine ⟨_, _, rfl, fun j t' => ?_, fun i => ?_⟩
        · simp only [va_up, vp_updL]
          by_cases e1 : j = k + 1
          · subst e1
            rw [if_pos rfl]
            by_cases e2 : t' = t + ln k
            · subst e2
              rw [up_at, if_pos ⟨rfl, rfl, h2, by omega⟩, hkp]
            · rw [up_ne e2, if_neg (by omega)]
          · rw [if_neg e1, if_neg (by omega)]
        · have : dSet ls win (t + ln k) e i = 0 := by
            unfold dSet
            rw [if_neg (by omega), if_neg (by omega), if_neg (by omega)]
          rw [this, kL0_add]
      · rw [if_neg (by rw [kI_le (by omega) (by omega)]; exact h2)]
        rw [chk_true (by decide), chk_true (by decide), t32_4]
        refine ⟨_, _, rfl, fun j t' => ?_, fun i => ?_⟩
        · rw [if_neg (by omega)]
        · simp only [vp_updL]
          by_cases e1 : i = 4
          · subst e1
            rw [if_pos rfl]
            have : dSet ls win (t + ln k) e 4 = e := by
              unfold dSet
              rw [if_neg (by omega), if_neg (by omega), if_pos (by omega), hkp]
              omega
            rw [this]
          · rw [if_neg e1]
            have : dSet ls win (t + ln k) e i = 0 := by
              unfold dSet
              rw [if_neg (by omega), if_neg (by omega), if_neg (by omega)]
            rw [this, kL0_add]
    · rw [if_neg (by rw [kL_le (by omega) (by omega)]; exact h1)]
      have hkp : kp ls e = 0 := by unfold kp; rw [if_pos (by omega)]
      rw [chk_true (by decide), chk_true (by decide), chk_true (by decide), chk_true (by decide), t32_3, t32_6]
      refine ⟨_, _, rfl, fun j t' => ?_, fun i => ?_⟩
      · rw [if_neg (by omega)]
      · simp only [vp_updL]
        by_cases e1 : i = 6
        · subst e1
          rw [if_pos rfl, if_neg (by decide)]
          have : dSet ls win (t + ln k) e 6 = 1 := by
            unfold dSet
            rw [if_neg (by omega), if_pos (by omega), if_neg (by omega)]
          rw [this]
          rfl
        · rw [if_neg e1]
          by_cases e2 : i = 3
          · subst e2
            rw [if_pos rfl]
            have : dSet ls win (t + ln k) e 3 = e := by
              unfold dSet
              rw [if_pos (by omega), if_neg (by omega), if_neg (by omega)]
              omega
            rw [this]
          · rw [if_neg e2]
            have : dSet ls win (t + ln k) e i = 0 := by
              unfold dSet
              rw [if_neg (by omega), if_neg (by omega), hkp]
              simp
            rw [this, kL0_add]
theorem ev_setOutN {ls win k t e : Nat} {ℓc : Nat → Int32} {ln : Nat → Nat} {cN cF : Nat → Nat → Int64} {tot : Nat → Int64} (hk : k < 8) (hℓ : ℓc k = kI (ln k)) (hl : ln k ≤ 20) (hls : ls ≤ 1000) (hw : win ≤ 200) (ht : t ≤ 200) (he : e < 10000000) :
    ∃ cF' tot', Cf_W_setOut_w_n (kI ls) (kI win) ℓc cN cF tot (kI k) 0 (kI t) (kL e) = some (cN, cF', tot') ∧ (∀ j t', cF' j t' = if j = k ∧ t' = t + ln k ∧ t' ≤ win ∧ 0 < kp ls e then kL (kp ls e) else cF j t') ∧ ∀ i, tot' i = tot i + kL (dSet ls win (t + ln k) e i) := by
  unfold Cf_W_setOut_w_n
  by_cases h0 : e = 0
  · subst h0
    rw [if_pos (show kL 0 = 0 from rfl)]
    refine ⟨cF, tot, rfl, fun j t' => ?_, fun i => ?_⟩
    · rw [if_neg]
      rw [kp_zero]
      omega
    · have : dSet ls win (t + ln k) 0 i = 0 := by
        unfold dSet
        rw [kp_zero]
        simp
      rw [this, kL0_add]
  · rw [if_neg (by rw [q64_0, kL_eq (by omega) (by omega)]; exact h0)]
    rw [chk_true ((inb_kI (by omega)).mpr hk)]
    simp only [nm_eq, kI_nat (show k < 2147483648 by omega), hℓ, kI_add, kI_long (show ls < 2147483648 by omega)]
    by_cases h1 : ls ≤ e
    · rw [if_pos ((kL_le (by omega) (by omega)).mpr h1)]
      have hkp : kp ls e = e := by unfold kp; rw [if_neg (by omega)]
      by_cases h2 : t + ln k ≤ win
      · rw [if_pos ((kI_le (by omega) (by omega)).mpr h2), if_pos trivial]
        rw [chk_true ((inb_kI (by omega)).mpr (by omega)), chk_true ((inb_kI (by omega)).mpr (by omega)), kI_nat (by omega)]
        refine ⟨_, _, rfl, fun j t' => ?_, fun i => ?_⟩
        · simp only [va_up, vp_updL]
          by_cases e1 : j = k
          · rw [e1, if_pos rfl]
            by_cases e2 : t' = t + ln k
            · subst e2
              rw [up_at, if_pos ⟨rfl, rfl, h2, by omega⟩, hkp]
            · rw [up_ne e2, if_neg (by omega)]
          · rw [if_neg e1, if_neg (by omega)]
        · have : dSet ls win (t + ln k) e i = 0 := by
            unfold dSet
            rw [if_neg (by omega), if_neg (by omega), if_neg (by omega)]
          rw [this, kL0_add]
      · rw [if_neg (by rw [kI_le (by omega) (by omega)]; exact h2)]
        rw [chk_true (by decide), chk_true (by decide), t32_4]
        refine ⟨_, _, rfl, fun j t' => ?_, fun i => ?_⟩
        · rw [if_neg (by omega)]
        · simp only [vp_updL]
          by_cases e1 : i = 4
          · subst e1
            rw [if_pos rfl]
            have : dSet ls win (t + ln k) e 4 = e := by
              unfold dSet
              rw [if_neg (by omega), if_neg (by omega), if_pos (by omega), hkp]
              omega
            rw [this]
          · rw [if_neg e1]
            have : dSet ls win (t + ln k) e i = 0 := by
              unfold dSet
              rw [if_neg (by omega), if_neg (by omega), if_neg (by omega)]
            rw [this, kL0_add]
    · rw [if_neg (by rw [kL_le (by omega) (by omega)]; exact h1)]
      have hkp : kp ls e = 0 := by unfold kp; rw [if_pos (by omega)]
      rw [chk_true (by decide), chk_true (by decide), chk_true (by decide), chk_true (by decide), t32_3, t32_6]
      refine ⟨_, _, rfl, fun j t' => ?_, fun i => ?_⟩
      · rw [if_neg (by omega)]
      · simp only [vp_updL]
        by_cases e1 : i = 6
        · subst e1
          rw [if_pos rfl, if_neg (by decide)]
          have : dSet ls win (t + ln k) e 6 = 1 := by
            unfold dSet
            rw [if_neg (by omega), if_pos (by omega), if_neg (by omega)]
          rw [this]
          rfl
        · rw [if_neg e1]
          by_cases e2 : i = 3
          · subst e2
            rw [if_pos rfl]
            have : dSet ls win (t + ln k) e 3 = e := by
              unfold dSet
              rw [if_pos (by omega), if_neg (by omega), if_neg (by omega)]
              omega
            rw [this]
          · rw [if_neg e2]
            have : dSet ls win (t + ln k) e i = 0 := by
              unfold dSet
              rw [if_neg (by omega), if_neg (by omega), hkp]
              simp
            rw [this, kL0_add]
