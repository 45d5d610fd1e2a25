section ZB
variable {n : Nat} {ln fq : Nat → Nat} {ls : Nat} {pu : Nat → Nat}
theorem sm_s (f : Nat → Nat) (k : Nat) : sm f (k + 1) = sm f k + f k := rfl
theorem sm_p (f : Nat → Nat) {k : Nat} (h : 1 ≤ k) : sm f k = sm f (k - 1) + f (k - 1) := by
  obtain ⟨m, rfl⟩ : ∃ m, k = m + 1 := ⟨k - 1, by omega⟩
  rfl
theorem ZB (hl : ∀ j, j < n → 1 ≤ ln j) : ∀ t j, j ≤ n → t < sm ln j → Fa n ln fq ls pu j t = 0 ∧ Nw n ln fq ls pu j t = 0 := by
  intro t
  induction t using Nat.strongRecOn with
  | ind t ih =>
    intro j hj ht
    have hj0 : j ≠ 0 := by intro e; subst e; simp [sm] at ht
    have a1 : AN n ln fq ls pu j t = 0 := by
      unfold AN aN
      by_cases h : 1 ≤ j ∧ j ≤ n ∧ ln (j - 1) ≤ t
      · rw [if_pos h]
        have h1 := hl (j - 1) (by omega)
        have h2 := sm_p ln h.1
        exact (ih (t - ln (j - 1)) (by omega) (j - 1) (by omega) (by omega)).1
      · rw [if_neg h]
    have a2 : AF n ln fq ls pu j t = 0 := by
      unfold AF aF
      by_cases h : j < n ∧ ln j ≤ t
      · rw [if_pos h]
        have h1 := hl j (by omega)
        exact (ih (t - ln j) (by omega) (j + 1) (by omega) (by rw [sm_s]; omega)).2
      · rw [if_neg h]
    constructor
    · rw [Fa_eq hl]
      unfold GF
      rw [a1, a2, bk_zero, if_neg hj0, kp_zero, ite_self]
    · rw [Ne_eq hl]
      unfold GN
      rw [a1, a2, bk_zero, kp_zero, ite_self]
theorem AN_early (hl : ∀ j, j < n → 1 ≤ ln j) {t j : Nat} (hj : j ≤ n) (ht : t < sm ln j) : AN n ln fq ls pu j t = 0 := by
  unfold AN aN
  by_cases h : 1 ≤ j ∧ j ≤ n ∧ ln (j - 1) ≤ t
  · rw [if_pos h]
    have h2 := sm_p ln h.1
    exact (ZB hl (t - ln (j - 1)) (j - 1) (by omega) (by omega)).1
  · rw [if_neg h]
end ZB
section CA
variable {n : Nat} {ln fq ln' fq' : Nat → Nat} {ls : Nat} {pu : Nat → Nat} {len : Nat}
theorem CA_end (hl' : ∀ j, j < n + 1 → 1 ≤ ln' j) (e2 : ln' n = len) (e3 : sm ln' n = sm ln n) {t : Nat} (ht : t < 2 * (sm ln n + len) - sm ln n) : AF (n + 1) ln' fq' ls pu n t = 0 := by
  unfold AF aF
  by_cases h : n < n + 1 ∧ ln' n ≤ t
  · rw [if_pos h]
    exact (ZB hl' (t - ln' n) (n + 1) (by omega) (by rw [sm_s, e2, e3]; omega)).2
  · rw [if_neg h]
theorem CA (hl : ∀ j, j < n → 1 ≤ ln j) (hlen : 1 ≤ len) (e1 : ∀ j, j < n → ln' j = ln j) (e2 : ln' n = len) (f1 : ∀ j, j ≤ n → fq' j = fq j) : ∀ t j, j ≤ n → t < 2 * (sm ln n + len) - sm ln j → (j < n → Fa (n + 1) ln' fq' ls pu j t = Fa n ln fq ls pu j t) ∧ (1 ≤ j → Nw (n + 1) ln' fq' ls pu j t = Nw n ln fq ls pu j t) := by
  have hl' : ∀ j, j < n + 1 → 1 ≤ ln' j := fun j hj => by
    by_cases q : j = n
    · rw [q, e2]; exact hlen
    · rw [e1 j (by omega)]; exact hl j (by omega)
  have e3 : sm ln' n = sm ln n := sm_congr e1
  intro t
  induction t using Nat.strongRecOn with
  | ind t ih =>
    intro j hj ht
    have b0 : ∀ k, k ≤ n → sm ln k ≤ sm ln n := fun k hk => sm_mono ln hk
    have a1 : AN (n + 1) ln' fq' ls pu j t = AN n ln fq ls pu j t := by
      unfold AN aN
      by_cases h : 1 ≤ j ∧ j ≤ n ∧ ln (j - 1) ≤ t
      · rw [if_pos h, if_pos (show 1 ≤ j ∧ j ≤ n + 1 ∧ ln' (j - 1) ≤ t from ⟨h.1, by omega, by rw [e1 _ (by omega)]; exact h.2.2⟩), e1 _ (by omega)]
        have h1 := hl (j - 1) (by omega)
        have h2 := sm_p ln h.1
        exact (ih (t - ln (j - 1)) (by omega) (j - 1) (by omega) (by omega)).1 (by omega)
      · by_cases q : 1 ≤ j
        · rw [if_neg h, if_neg (show ¬ (1 ≤ j ∧ j ≤ n + 1 ∧ ln' (j - 1) ≤ t) from fun w => h ⟨w.1, hj, by rw [← e1 (j - 1) (by omega)]; exact w.2.2⟩)]
        · rw [if_neg h, if_neg (show ¬ (1 ≤ j ∧ j ≤ n + 1 ∧ ln' (j - 1) ≤ t) from fun w => q w.1)]
    have a2 : AF (n + 1) ln' fq' ls pu j t = AF n ln fq ls pu j t := by
      by_cases q : j = n
      · subst q
        rw [CA_end hl' e2 e3 ht]
        unfold AF aF
        rw [if_neg (by omega)]
      · unfold AF aF
        by_cases h : j < n ∧ ln j ≤ t
        · rw [if_pos h, if_pos (show j < n + 1 ∧ ln' j ≤ t from ⟨by omega, by rw [e1 j h.1]; exact h.2⟩), e1 j h.1]
          have h1 := hl j h.1
          have h2 := sm_s ln j
          have h3 := b0 (j + 1) (by omega)
          exact (ih (t - ln j) (by omega) (j + 1) (by omega) (by omega)).2 (by omega)
        · rw [if_neg h, if_neg (show ¬ (j < n + 1 ∧ ln' j ≤ t) from fun w => h ⟨by omega, by rw [← e1 j (by omega)]; exact w.2⟩)]
    constructor
    · intro q
      rw [Fa_eq hl', Fa_eq hl, if_pos q, if_pos (by omega)]
      unfold GF
      rw [a1, a2, f1 j hj]
    · intro q
      rw [Ne_eq hl', Ne_eq hl, if_pos (show 1 ≤ j ∧ j ≤ n + 1 from ⟨q, by omega⟩), if_pos (show 1 ≤ j ∧ j ≤ n from ⟨q, hj⟩)]
      unfold GN
      rw [a1, a2, f1 j hj]
theorem CA_AN (hl : ∀ j, j < n → 1 ≤ ln j) (hlen : 1 ≤ len) (e1 : ∀ j, j < n → ln' j = ln j) (e2 : ln' n = len) (f1 : ∀ j, j ≤ n → fq' j = fq j) {t j : Nat} (hj : j ≤ n) (h1 : 1 ≤ j) (ht : t ≤ 2 * (sm ln n + len) - sm ln j) : AN (n + 1) ln' fq' ls pu j t = AN n ln fq ls pu j t := by
  unfold AN aN
  have q1 := hl (j - 1) (by omega)
  have h2 := sm_p ln h1
  have h3 : sm ln j ≤ sm ln n := sm_mono ln hj
  by_cases h : ln (j - 1) ≤ t
  · rw [if_pos (show 1 ≤ j ∧ j ≤ n ∧ ln (j - 1) ≤ t from ⟨h1, hj, h⟩), if_pos (show 1 ≤ j ∧ j ≤ n + 1 ∧ ln' (j - 1) ≤ t from ⟨h1, by omega, by rw [e1 _ (by omega)]; exact h⟩), e1 _ (by omega)]
    exact (CA hl hlen e1 e2 f1 (t - ln (j - 1)) (j - 1) (by omega) (by omega)).1 (by omega)
  · rw [if_neg (show ¬ (1 ≤ j ∧ j ≤ n ∧ ln (j - 1) ≤ t) from fun w => h w.2.2), if_neg (show ¬ (1 ≤ j ∧ j ≤ n + 1 ∧ ln' (j - 1) ≤ t) from fun w => h (by rw [← e1 (j - 1) (by omega)]; exact w.2.2))]
end CA
section CB
variable (n : Nat) (ln fq : Nat → Nat) (ls : Nat) (pu : Nat → Nat) (len : Nat)
def beyond : Nat := if n = 0 then kp ls (pu 0) else kp ls (AN n ln fq ls pu n (sm ln n) - bk (AN n ln fq ls pu n (sm ln n)) (fq n))
def cb (p : Nat) : Nat → Nat
  | 0 => kp ls (bk (beyond n ln fq ls pu) p)
  | i + 1 => kp ls (bk (AN n ln fq ls pu (n - i) (2 * (sm ln n + len) - sm ln (n - i))) (fq (n - i)) + (cb p i - bk (cb p i) (fq (n - i))))
def eN (p : Nat) : Nat := cb n ln fq ls pu len p n - bk (cb n ln fq ls pu len p n) (fq 0)
variable {n ln fq ls pu len}
theorem cb_mono (hf : ∀ j, fq j ≤ 1000) {p q : Nat} (h : p ≤ q) : ∀ i, cb n ln fq ls pu len p i ≤ cb n ln fq ls pu len q i := by
  intro i
  induction i with
  | zero => exact kp_mono (bk_monof h)
  | succ i ih =>
    simp only [cb]
    exact kp_mono (Nat.add_le_add_left (pass_mono ih (hf _)) _)
theorem eN_mono (hf : ∀ j, fq j ≤ 1000) {p q : Nat} (h : p ≤ q) : eN n ln fq ls pu len p ≤ eN n ln fq ls pu len q := pass_mono (cb_mono hf h n) (hf 0)
variable {ln' fq' : Nat → Nat}
theorem beyond_eq (hl : ∀ j, j < n → 1 ≤ ln j) (hlen : 1 ≤ len) (e1 : ∀ j, j < n → ln' j = ln j) (e2 : ln' n = len) (f1 : ∀ j, j ≤ n → fq' j = fq j) : Fa (n + 1) ln' fq' ls pu n (sm ln n) = beyond n ln fq ls pu := by
  have hl' : ∀ j, j < n + 1 → 1 ≤ ln' j := fun j hj => by
    by_cases q : j = n
    · rw [q, e2]; exact hlen
    · rw [e1 j (by omega)]; exact hl j (by omega)
  have e3 : sm ln' n = sm ln n := sm_congr e1
  rw [Fa_eq hl', if_pos (by omega)]
  unfold GF beyond
  rw [CA_end hl' e2 e3 (by omega), bk_zero]
  by_cases h0 : n = 0
  · subst h0
    rw [if_pos rfl, if_pos rfl]
    have : AN (0 + 1) ln' fq' ls pu 0 (sm ln 0) = 0 := by unfold AN aN; rw [if_neg (by omega)]
    rw [this, bk_zero]
    simp [sm]
  · rw [if_neg h0, if_neg h0, CA_AN hl hlen e1 e2 f1 (Nat.le_refl n) (by omega) (by omega), f1 n (Nat.le_refl n)]
    simp
theorem cb_eq (hl : ∀ j, j < n → 1 ≤ ln j) (hlen : 1 ≤ len) (e1 : ∀ j, j < n → ln' j = ln j) (e2 : ln' n = len) (f1 : ∀ j, j ≤ n → fq' j = fq j) : ∀ i, i ≤ n → Nw (n + 1) ln' fq' ls pu (n + 1 - i) (2 * (sm ln n + len) - sm ln' (n + 1 - i)) = cb n ln fq ls pu len (fq' (n + 1)) i := by
  have hl' : ∀ j, j < n + 1 → 1 ≤ ln' j := fun j hj => by
    by_cases q : j = n
    · rw [q, e2]; exact hlen
    · rw [e1 j (by omega)]; exact hl j (by omega)
  have e3 : ∀ j, j ≤ n → sm ln' j = sm ln j := fun j hj => sm_congr fun k hk => e1 k (by omega)
  intro i
  induction i with
  | zero =>
    intro _
    rw [Nat.sub_zero, Ne_eq hl', if_pos (by omega), sm_s, e2, e3 n (Nat.le_refl n)]
    unfold GN
    have a1 : AF (n + 1) ln' fq' ls pu (n + 1) (2 * (sm ln n + len) - (sm ln n + len)) = 0 := by unfold AF aF; rw [if_neg (by omega)]
    have a2 : AN (n + 1) ln' fq' ls pu (n + 1) (2 * (sm ln n + len) - (sm ln n + len)) = beyond n ln fq ls pu := by
      rw [← beyond_eq hl hlen e1 e2 f1]
      unfold AN aN
      rw [Nat.add_sub_cancel, if_pos (by rw [e2]; omega), e2]
      congr 1
      omega
    rw [a1, a2, bk_zero]
    rfl
  | succ i ih =>
    intro hi
    have hi2 := ih (by omega)
    have b1 : sm ln (n - i) ≤ sm ln n := sm_mono ln (by omega)
    rw [show n + 1 - (i + 1) = n - i from by omega, e3 _ (by omega), Ne_eq hl', if_pos (by omega)]
    unfold GN
    rw [CA_AN hl hlen e1 e2 f1 (show n - i ≤ n by omega) (by omega) (Nat.le_refl _), f1 _ (by omega)]
    have a1 : AF (n + 1) ln' fq' ls pu (n - i) (2 * (sm ln n + len) - sm ln (n - i)) = cb n ln fq ls pu len (fq' (n + 1)) i := by
      rw [← hi2]
      have b2 : sm ln' (n + 1 - i) = sm ln' (n - i) + ln' (n - i) := by rw [show n + 1 - i = (n - i) + 1 from by omega, sm_s]
      have b3 : sm ln' (n + 1) = sm ln n + len := by rw [sm_s, e2, e3 n (Nat.le_refl n)]
      have b4 : sm ln' (n + 1 - i) ≤ sm ln' (n + 1) := sm_mono ln' (by omega)
      have b5 := e3 (n - i) (by omega)
      unfold AF aF
      rw [if_pos (show n - i < n + 1 ∧ ln' (n - i) ≤ 2 * (sm ln n + len) - sm ln (n - i) from ⟨by omega, by omega⟩), show n - i + 1 = n + 1 - i from by omega]
      congr 1
      omega
    rw [a1]
    rfl
theorem eN_eq (hl : ∀ j, j < n → 1 ≤ ln j) (hlen : 1 ≤ len) (e1 : ∀ j, j < n → ln' j = ln j) (e2 : ln' n = len) (f1 : ∀ j, j ≤ n → fq' j = fq j) : EC (n + 1) ln' fq' ls pu (2 * (sm ln n + len)) = eN n ln fq ls pu len (fq' (n + 1)) := by
  have e3 : ∀ j, j ≤ n → sm ln' j = sm ln j := fun j hj => sm_congr fun k hk => e1 k (by omega)
  have a : AF (n + 1) ln' fq' ls pu 0 (2 * (sm ln n + len)) = cb n ln fq ls pu len (fq' (n + 1)) n := by
    rw [← cb_eq hl hlen e1 e2 f1 n (Nat.le_refl n)]
    have b2 : sm ln' 1 = ln' 0 := by simp [sm]
    have b3 : sm ln' (n + 1) = sm ln n + len := by rw [sm_s, e2, e3 n (Nat.le_refl n)]
    have b4 : sm ln' 1 ≤ sm ln' (n + 1) := sm_mono ln' (by omega)
    unfold AF aF
    rw [if_pos (show 0 < n + 1 ∧ ln' 0 ≤ 2 * (sm ln n + len) from ⟨by omega, by omega⟩), show n + 1 - n = 0 + 1 from by omega]
    congr 1
    rw [show 0 + 1 = 1 from rfl, b2]
  unfold EC eN
  rw [a, f1 0 (Nat.zero_le n)]
end CB
