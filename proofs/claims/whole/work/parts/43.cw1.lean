def LOK (n : Nat) (ln fq : Nat → Nat) (ls : Nat) (pu : Nat → Nat) : Prop := n ≤ 8 ∧ (∀ j, j < n → 1 ≤ ln j ∧ ln j ≤ 20) ∧ (∀ j, fq j ≤ 1000) ∧ ls ≤ 1000 ∧ ∀ T, sm pu T ≤ 4000000
section CW1
variable (n : Nat) (ln fq : Nat → Nat) (ls : Nat) (pu pc : Nat → Nat) (win : Nat)
def FaP (T J j t : Nat) : Nat := if t < T ∨ (t = T ∧ j < J) then Fa n ln fq ls pu j t else 0
def NeP (T J j t : Nat) : Nat := if t < T ∨ (t = T ∧ j < J) then Nw n ln fq ls pu j t else 0
def EC (t : Nat) : Nat := AF n ln fq ls pu 0 t - bk (AF n ln fq ls pu 0 t) (fq 0)
def mF (j t : Nat) : Nat := if j = 0 then (if 1 < (if 0 < bk (AF n ln fq ls pu 0 t) (fq 0) then 1 else 0) + pc t then 1 else 0) else if 0 < AN n ln fq ls pu j t - bk (AN n ln fq ls pu j t) (fq j) ∧ 0 < bk (AF n ln fq ls pu j t) (fq j) then 1 else 0
def mN (j t : Nat) : Nat := if 0 < bk (AN n ln fq ls pu j t) (fq j) ∧ 0 < AF n ln fq ls pu j t - bk (AF n ln fq ls pu j t) (fq j) then 1 else 0
def dF (j t i : Nat) : Nat := if j < n then dSet ls win (t + ln j) (GF n ln fq ls pu j t) i + (if i = 5 then mF n ln fq ls pu pc j t else 0) else 0
def dN (j t i : Nat) : Nat := if 1 ≤ j then dSet ls win (t + ln (j - 1)) (GN n ln fq ls pu j t) i + (if i = 5 then mN n ln fq ls pu j t else 0) else 0
def dL (j t i : Nat) : Nat := if i = 2 ∧ j = n then AN n ln fq ls pu j t - bk (AN n ln fq ls pu j t) (fq j) else 0
def dJ (j t i : Nat) : Nat := dN n ln fq ls pu win j t i + dF n ln fq ls pu pc win j t i + dL n ln fq ls pu j t i
variable {n ln fq ls pu pc win}
theorem Fa_ge (hl : ∀ j, j < n → 1 ≤ ln j) {j t : Nat} (h : n ≤ j) : Fa n ln fq ls pu j t = 0 := by rw [Fa_eq hl, if_neg (by omega)]
theorem aN_read (hl : ∀ j, j < n → 1 ≤ ln j) {T J j : Nat} : aN n ln (FaP n ln fq ls pu T J) j T = AN n ln fq ls pu j T := by
  unfold AN aN
  by_cases h : 1 ≤ j ∧ j ≤ n ∧ ln (j - 1) ≤ T
  · rw [if_pos h, if_pos h]
    have := hl (j - 1) (by omega)
    unfold FaP
    rw [if_pos (Or.inl (by omega))]
  · rw [if_neg h, if_neg h]
theorem aF_read (hl : ∀ j, j < n → 1 ≤ ln j) {T J j : Nat} : aF n ln (NeP n ln fq ls pu T J) j T = AF n ln fq ls pu j T := by
  unfold AF aF
  by_cases h : j < n ∧ ln j ≤ T
  · rw [if_pos h, if_pos h]
    have := hl j (by omega)
    unfold NeP
    rw [if_pos (Or.inl (by omega))]
  · rw [if_neg h, if_neg h]
theorem aN_step {T j j' t' : Nat} (hj : j < n) : aN n ln (FaP n ln fq ls pu T (j + 1)) j' t' = if j' = j + 1 ∧ t' = T + ln j then Fa n ln fq ls pu j T else aN n ln (FaP n ln fq ls pu T j) j' t' := by
  by_cases h : j' = j + 1 ∧ t' = T + ln j
  · rw [if_pos h]
    obtain ⟨rfl, rfl⟩ := h
    unfold aN
    rw [if_pos ⟨by omega, by omega, by simp only [Nat.add_sub_cancel]; omega⟩]
    unfold FaP
    rw [Nat.add_sub_cancel, Nat.add_sub_cancel, if_pos (Or.inr ⟨rfl, by omega⟩)]
  · rw [if_neg h]
    unfold aN
    by_cases h1 : 1 ≤ j' ∧ j' ≤ n ∧ ln (j' - 1) ≤ t'
    · rw [if_pos h1, if_pos h1]
      unfold FaP
      by_cases h2 : t' - ln (j' - 1) = T
      · have h3 : j' - 1 ≠ j := fun e => h ⟨by omega, by rw [← e]; omega⟩
        by_cases h4 : j' - 1 < j
        · rw [if_pos (Or.inr ⟨h2, by omega⟩), if_pos (Or.inr ⟨h2, h4⟩)]
        · rw [if_neg (by omega), if_neg (by omega)]
      · by_cases h4 : t' - ln (j' - 1) < T
        · rw [if_pos (Or.inl h4), if_pos (Or.inl h4)]
        · rw [if_neg (by omega), if_neg (by omega)]
    · rw [if_neg h1, if_neg h1]
theorem aN_stepL {T j j' t' : Nat} (hj : n ≤ j) : aN n ln (FaP n ln fq ls pu T (j + 1)) j' t' = aN n ln (FaP n ln fq ls pu T j) j' t' := by
  unfold aN
  by_cases h1 : 1 ≤ j' ∧ j' ≤ n ∧ ln (j' - 1) ≤ t'
  · rw [if_pos h1, if_pos h1]
    unfold FaP
    by_cases h2 : t' - ln (j' - 1) = T
    · rw [if_pos (Or.inr ⟨h2, by omega⟩), if_pos (Or.inr ⟨h2, by omega⟩)]
    · by_cases h4 : t' - ln (j' - 1) < T
      · rw [if_pos (Or.inl h4), if_pos (Or.inl h4)]
      · rw [if_neg (by omega), if_neg (by omega)]
  · rw [if_neg h1, if_neg h1]
theorem aF_step {T j j' t' : Nat} (h0 : 1 ≤ j) (hj : j ≤ n) : aF n ln (NeP n ln fq ls pu T (j + 1)) j' t' = if j' = j - 1 ∧ t' = T + ln (j - 1) then Nw n ln fq ls pu j T else aF n ln (NeP n ln fq ls pu T j) j' t' := by
  by_cases h : j' = j - 1 ∧ t' = T + ln (j - 1)
  · rw [if_pos h]
    obtain ⟨rfl, rfl⟩ := h
    unfold aF
    rw [if_pos ⟨by omega, by omega⟩]
    unfold NeP
    rw [Nat.sub_add_cancel h0, Nat.add_sub_cancel, if_pos (Or.inr ⟨rfl, by omega⟩)]
  · rw [if_neg h]
    unfold aF
    by_cases h1 : j' < n ∧ ln j' ≤ t'
    · rw [if_pos h1, if_pos h1]
      unfold NeP
      by_cases h2 : t' - ln j' = T
      · have h3 : j' + 1 ≠ j := fun e => h ⟨by omega, by rw [show j - 1 = j' by omega]; omega⟩
        by_cases h4 : j' + 1 < j
        · rw [if_pos (Or.inr ⟨h2, by omega⟩), if_pos (Or.inr ⟨h2, h4⟩)]
        · rw [if_neg (by omega), if_neg (by omega)]
      · by_cases h4 : t' - ln j' < T
        · rw [if_pos (Or.inl h4), if_pos (Or.inl h4)]
        · rw [if_neg (by omega), if_neg (by omega)]
    · rw [if_neg h1, if_neg h1]
theorem aF_step0 {T j' t' : Nat} : aF n ln (NeP n ln fq ls pu T 1) j' t' = aF n ln (NeP n ln fq ls pu T 0) j' t' := by
  unfold aF
  by_cases h1 : j' < n ∧ ln j' ≤ t'
  · rw [if_pos h1, if_pos h1]
    unfold NeP
    by_cases h4 : t' - ln j' < T
    · rw [if_pos (Or.inl h4), if_pos (Or.inl h4)]
    · rw [if_neg (by omega), if_neg (by omega)]
  · rw [if_neg h1, if_neg h1]
theorem aN_next {T j' t' : Nat} : aN n ln (FaP n ln fq ls pu T (n + 1)) j' t' = aN n ln (FaP n ln fq ls pu (T + 1) 0) j' t' := by
  unfold aN
  by_cases h1 : 1 ≤ j' ∧ j' ≤ n ∧ ln (j' - 1) ≤ t'
  · rw [if_pos h1, if_pos h1]
    unfold FaP
    by_cases h4 : t' - ln (j' - 1) < T + 1
    · rw [if_pos (by omega), if_pos (by omega)]
    · rw [if_neg (by omega), if_neg (by omega)]
  · rw [if_neg h1, if_neg h1]
theorem aF_next {T j' t' : Nat} : aF n ln (NeP n ln fq ls pu T (n + 1)) j' t' = aF n ln (NeP n ln fq ls pu (T + 1) 0) j' t' := by
  unfold aF
  by_cases h1 : j' < n ∧ ln j' ≤ t'
  · rw [if_pos h1, if_pos h1]
    unfold NeP
    by_cases h4 : t' - ln j' < T + 1
    · rw [if_pos (by omega), if_pos (by omega)]
    · rw [if_neg (by omega), if_neg (by omega)]
  · rw [if_neg h1, if_neg h1]
theorem ev_back {a f : Nat} (ha : a < 1000000000) (hf : f ≤ 1000) : Cf_L_turnedBack (kL a) (kI f) = some (kL (bk a f)) := by
  unfold Cf_L_turnedBack
  have : a * f ≤ a * 1000 := Nat.mul_le_mul_left a hf
  simp only [nm_eq]
  rw [chk_true (by decide), kI_long (by omega), kL_mul, q64_1000, kL_div (by omega) (by omega)]
  rfl
end CW1
