theorem ev_contribute {c p e : Nat} (he : e < 1000000000) : Rf_contribute (kI c) (kL p) (kL e) = some (kI (c + if 0 < e then 1 else 0), kL (p + e)) := by
  unfold Rf_contribute Rf_contribute_16
  by_cases h : e = 0
  · subst h
    rw [if_pos (by rw [q64_0, kL_le (by omega) (by omega)]; omega)]
    simp only [nm_eq]
    rw [q32_0, kI_add, kL_add, if_neg (by omega)]
  · rw [if_neg (by rw [q64_0, kL_le (by omega) (by omega)]; omega)]
    simp only [nm_eq]
    rw [q32_1, kI_add, kL_add, if_pos (by omega)]
theorem ev_setsOut {m : Nat → Int64} {ls d mg dr c p : Nat} (hm : m 18 = kL ls) (hls : ls ≤ 1000) (hc : c < 1000000) (hp : p < 1000000000) : Rf_setsOut m (kL d) (kI mg) (kI dr) (kI c) (kL p) = some (kL (d + if p < ls then p else 0), kI (mg + if 1 < c then 1 else 0), kI (dr + if 0 < p ∧ p < ls then 1 else 0), kI 0, kL 0, kL (kp ls p)) := by
  have aux : ∀ mm : Nat, Rf_setsOut_18 m (kL d) (kI mg) (kI dr) (kI c) (kL p) (kI mg) (kI mm) = some (kL (d + if p < ls then p else 0), kI (mg + mm), kI (dr + if 0 < p ∧ p < ls then 1 else 0), kI 0, kL 0, kL (kp ls p)) := by
    intro mm
    unfold Rf_setsOut_18 Rf_setsOut_67
    rw [nm_eq, kI_add]
    by_cases h0 : p = 0
    · subst h0
      rw [if_pos (by rw [q64_0, kL_le (by omega) (by omega)]; omega), kp_zero, if_neg (show ¬ (0 < 0 ∧ 0 < ls) by omega)]
      have : (if 0 < ls then 0 else 0) = 0 := by split <;> rfl
      rw [this]
      rfl
    · rw [if_neg (by rw [q64_0, kL_le (by omega) (by omega)]; omega), chk_true (by decide), nm_eq, t32_18, hm]
      by_cases h1 : ls ≤ p
      · rw [if_pos (by rw [kL_le (by omega) (by omega)]; exact h1), if_neg (show ¬ p < ls by omega), if_neg (show ¬ (0 < p ∧ p < ls) by omega)]
        have : kp ls p = p := by unfold kp; rw [if_neg (by omega)]
        rw [this]
        rfl
      · rw [if_neg (by rw [kL_le (by omega) (by omega)]; exact h1), if_pos (show p < ls by omega), if_pos (show 0 < p ∧ p < ls by omega), nm_eq, nm_eq, q32_1, kI_add, kL_add]
        have : kp ls p = 0 := by unfold kp; rw [if_pos (by omega)]
        rw [this]
        rfl
  unfold Rf_setsOut
  by_cases h : c ≤ 1
  · rw [if_pos (by rw [q32_1, kI_le (by omega) (by omega)]; exact h), q32_0, aux 0, if_neg (show ¬ 1 < c by omega)]
  · rw [if_neg (by rw [q32_1, kI_le (by omega) (by omega)]; exact h), q32_1, aux 1, if_pos (show 1 < c by omega)]
theorem ev_rback {φ : Nat → Int32} {fq : Nat → Nat} {a j : Nat} (ha : a < 1000000000) (hj : j < 9) (hφ : φ j = kI (fq j)) (hf : fq j ≤ 1000) : Rf_back φ (kL a) (kI j) = some (kL (bk a (fq j))) := by
  unfold Rf_back
  have : a * fq j ≤ a * 1000 := Nat.mul_le_mul_left a hf
  simp only [nm_eq]
  rw [chk_true ((inb_kI (by omega)).mpr hj), kI_nat (by omega), hφ, chk_true (by decide), kI_long (by omega), kL_mul, q64_1000, kL_div (by omega) (by omega)]
  rfl
theorem ev_passPulses {np T c p : Nat} {pt pe : Nat → Nat} (hP : POK np pt pe) (hT : T ≤ 200) {tm : Nat → Int32} {en : Nat → Int64} (h1 : ∀ i, i < np → tm i = kI (pt i)) (h2 : ∀ i, i < np → en i = kL (pe i)) :
    Rf_passPulses (kI np) tm en (kI c) (kL p) (kI T) = some (kI (c + pcP np pt T), kL (p + puP np pt pe T)) := by
  have hn := hP.1
  obtain ⟨⟨a1, a2⟩, g1, g2⟩ := loop_gen (L := fun fu (s : Int32 × Int64) x => Rl_passPulses_2 (kI np) tm en (kI T) fu s.1 s.2 x) (fun k s => s = (kI (c + sm (fun i => if pt i = T then 1 else 0) k), kL (p + sm (fun i => if pt i = T then pe i else 0) k))) (fun s => s = (kI (c + pcP np pt T), kL (p + puP np pt pe T))) np (fun fu k s hk hs => by
      have hb := hP.2 k hk
      subst hs
      refine Or.inr ⟨_, ?_, rfl⟩
      simp only [Rl_passPulses_2, nm_eq, Rf_passPulses_31]
      rw [if_neg (by rw [kI_le (by omega) (by omega)]; omega), chk_true ((inb_kI (by omega)).mpr (by omega)), kI_nat (by omega), h1 k hk]
      by_cases cc : pt k = T
      · rw [if_pos (by rw [cc]), chk_true ((inb_kI (by omega)).mpr (by omega)), h2 k hk, ev_contribute (by omega), bd_s, q32_1, kI_add]
        simp only [sm]
        rw [if_pos cc, if_pos cc, if_pos (by omega), Nat.add_assoc, Nat.add_assoc]
      · rw [if_neg (by rw [kI_eq (by omega) (by omega)]; exact cc), q64_0, ev_contribute (by omega), bd_s, q32_1, kI_add]
        simp only [sm]
        rw [if_neg cc, if_neg cc]
        rfl)
    (fun fu s hs => ⟨s, by simp only [Rl_passPulses_2]; rw [if_pos (by rw [kI_le (by omega) (by omega)]; omega)], hs⟩) FUEL 0 (kI c, kL p) (by have : FUEL = 4096 := rfl; omega) (by omega) rfl
  unfold Rf_passPulses
  rw [q32_0, bd_e g1, g2]
section RW0
variable (n : Nat) (ln fq : Nat → Nat) (ls : Nat) (np : Nat) (pt pe : Nat → Nat)
def RTb (T J : Nat) (far near : Nat → Int64) : Prop := (∀ j t, j < n → (t < T ∨ (t = T ∧ j < J)) → t ≤ 200 → far (201 * j + t) = kL (Fa n ln fq ls (puP np pt pe) j t)) ∧ ∀ j t, 1 ≤ j → j ≤ n → (t < T ∨ (t = T ∧ j < J)) → t ≤ 200 → near (201 * j + t) = kL (Nw n ln fq ls (puP np pt pe) j t)
variable {n ln fq ls np pt pe}
theorem ev_arrN (hL : LOK n ln fq ls (puP np pt pe)) {T J t j : Nat} (ht : t ≤ T) (hT : t ≤ 200) (hj : j ≤ n) {ℓ : Nat → Int32} (hℓ : ∀ k, k < n → ℓ k = kI (ln k)) {far near : Nat → Int64} (h : RTb n ln fq ls np pt pe T J far near) : Rf_arrives (kI n) ℓ far near (kI j) (kI t) 0 = some (kL (AN n ln fq ls (puP np pt pe) j t)) := by
  have hn := hL.1
  unfold Rf_arrives Rf_arrives_11 Rf_arrives_38 Rf_arrives_88
  rw [if_pos rfl, nm_eq]
  by_cases h0 : j = 0
  · subst h0
    rw [if_pos (by decide), AN0]
    rfl
  · rw [q32_1, kI_sub (by omega), if_neg (by rw [q32_0, kI_lt (by omega) (by omega)]; omega), if_neg (by rw [kI_le (by omega) (by omega)]; omega), chk_true ((inb_kI (by omega)).mpr (by omega)), nm_eq, kI_nat (by omega), hℓ (j - 1) (by omega)]
    have hb := hL.2.1 (j - 1) (by omega)
    unfold AN aN
    by_cases h1 : ln (j - 1) ≤ t
    · rw [if_pos (by rw [kI_le (by omega) (by omega)]; exact h1), chk_true ((inb_kI (by omega)).mpr (by omega)), nm_eq, nm_eq, kI_sub h1, if_pos rfl, nm_eq, nm_eq, nm_eq, q32_201, kI_mul, kI_add, chk_true ((inb_kI (by omega)).mpr (by omega)), nm_eq, kI_nat (by omega), if_pos ⟨by omega, hj, h1⟩, h.1 (j - 1) (t - ln (j - 1)) (by omega) (by omega) (by omega)]
    · rw [if_neg (by rw [kI_le (by omega) (by omega)]; exact h1), if_neg (by omega)]
      rfl
theorem ev_arrF (hL : LOK n ln fq ls (puP np pt pe)) {T J t j : Nat} (ht : t ≤ T) (hT : t ≤ 200) (hj : j ≤ n) {ℓ : Nat → Int32} (hℓ : ∀ k, k < n → ℓ k = kI (ln k)) {far near : Nat → Int64} (h : RTb n ln fq ls np pt pe T J far near) : Rf_arrives (kI n) ℓ far near (kI j) (kI t) 1 = some (kL (AF n ln fq ls (puP np pt pe) j t)) := by
  have hn := hL.1
  unfold Rf_arrives Rf_arrives_11 Rf_arrives_38 Rf_arrives_88
  rw [if_neg (by decide), if_neg (by rw [q32_0, kI_lt (by omega) (by omega)]; omega)]
  unfold AF aF
  by_cases h0 : j < n
  · rw [if_neg (by rw [kI_le (by omega) (by omega)]; omega), chk_true ((inb_kI (by omega)).mpr (by omega)), nm_eq, kI_nat (by omega), hℓ j h0]
    have hb := hL.2.1 j h0
    by_cases h1 : ln j ≤ t
    · rw [if_pos (by rw [kI_le (by omega) (by omega)]; exact h1), chk_true ((inb_kI (by omega)).mpr (by omega)), nm_eq, nm_eq, kI_sub h1, if_neg (by decide), nm_eq, nm_eq, nm_eq, q32_1, kI_add, q32_201, kI_mul, kI_add, chk_true ((inb_kI (by omega)).mpr (by omega)), nm_eq, kI_nat (by omega), if_pos ⟨h0, h1⟩, h.2 (j + 1) (t - ln j) (by omega) (by omega) (by omega) (by omega)]
    · rw [if_neg (by rw [kI_le (by omega) (by omega)]; exact h1), if_neg (by omega)]
      rfl
  · rw [if_pos (by rw [kI_le (by omega) (by omega)]; omega), if_neg (by omega)]
    rfl
end RW0
