def sm (f : Nat → Nat) : Nat → Nat
  | 0 => 0
  | k + 1 => sm f k + f k
theorem sm_congr {f g : Nat → Nat} {k : Nat} (h : ∀ i, i < k → f i = g i) : sm f k = sm g k := by
  induction k with
  | zero => rfl
  | succ k ih => simp only [sm]; rw [ih (fun i hi => h i (by omega)), h k (by omega)]
theorem sm_zero {f : Nat → Nat} {k : Nat} (h : ∀ i, i < k → f i = 0) : sm f k = 0 := by
  induction k with
  | zero => rfl
  | succ k ih => simp only [sm]; rw [ih (fun i hi => h i (by omega)), h k (by omega)]
theorem sm_add (f g : Nat → Nat) (k : Nat) : sm (fun i => f i + g i) k = sm f k + sm g k := by
  induction k with
  | zero => rfl
  | succ k ih => simp only [sm]; omega
theorem sm_le {f g : Nat → Nat} {k : Nat} (h : ∀ i, i < k → f i ≤ g i) : sm f k ≤ sm g k := by
  induction k with
  | zero => exact Nat.le_refl _
  | succ k ih => simp only [sm]; have := ih (fun i hi => h i (by omega)); have := h k (by omega); omega
theorem sm_mono (f : Nat → Nat) {a b : Nat} (h : a ≤ b) : sm f a ≤ sm f b := by
  induction b with
  | zero => rw [Nat.le_zero.mp h]; exact Nat.le_refl _
  | succ b ih =>
    rcases Nat.lt_or_ge a (b + 1) with h1 | h1
    · simp only [sm]; have := ih (by omega); omega
    · rw [Nat.le_antisymm h h1]; exact Nat.le_refl _
theorem sm_swap (f : Nat → Nat → Nat) (a b : Nat) : sm (fun i => sm (fun j => f i j) b) a = sm (fun j => sm (fun i => f i j) a) b := by
  induction a with
  | zero => simp only [sm]; exact (sm_zero (fun _ _ => rfl)).symm
  | succ a ih => simp only [sm]; rw [ih, ← sm_add]
theorem sm_const (c k : Nat) : sm (fun _ => c) k = k * c := by
  induction k with
  | zero => simp [sm]
  | succ k ih => simp only [sm]; rw [ih, Nat.add_mul]; omega
def bk (a f : Nat) : Nat := a * f / 1000
def kp (ls e : Nat) : Nat := if e < ls then 0 else e
theorem bk_le {a f : Nat} (h : f ≤ 1000) : bk a f ≤ a := by
  unfold bk
  refine Nat.div_le_of_le_mul ?_
  rw [Nat.mul_comm 1000]
  exact Nat.mul_le_mul_left a h
theorem bk_mono {a b f : Nat} (h : a ≤ b) : bk a f ≤ bk b f := Nat.div_le_div_right (Nat.mul_le_mul_right f h)
theorem bk_monof {a f g : Nat} (h : f ≤ g) : bk a f ≤ bk a g := Nat.div_le_div_right (Nat.mul_le_mul_left a h)
theorem bk_zero (f : Nat) : bk 0 f = 0 := by simp [bk]
theorem bk_fzero (a : Nat) : bk a 0 = 0 := by simp [bk]
theorem pass_mono {a b f : Nat} (h : a ≤ b) (hf : f ≤ 1000) : a - bk a f ≤ b - bk b f := by
  have h1 : bk b f ≤ bk a f + (b - a) := by
    unfold bk
    have e : b * f ≤ a * f + (b - a) * 1000 := by
      have : b * f = a * f + (b - a) * f := by rw [← Nat.add_mul, Nat.add_sub_cancel' h]
      rw [this]
      exact Nat.add_le_add_left (Nat.mul_le_mul_left _ hf) _
    calc b * f / 1000 ≤ (a * f + (b - a) * 1000) / 1000 := Nat.div_le_div_right e
      _ = a * f / 1000 + (b - a) := by rw [Nat.add_mul_div_right _ _ (by decide)]
  have h2 := bk_le (a := a) hf
  have h3 := bk_le (a := b) hf
  omega
theorem mix_le {a b m f : Nat} (ha : a ≤ m) (hb : b ≤ m) (hf : f ≤ 1000) : bk a f + (b - bk b f) ≤ m := by
  have h1 := bk_mono (f := f) ha
  have h2 := pass_mono hb hf
  have h3 := bk_le (a := m) hf
  omega
theorem kp_le (ls e : Nat) : kp ls e ≤ e := by unfold kp; split <;> omega
theorem kp_mono {ls a b : Nat} (h : a ≤ b) : kp ls a ≤ kp ls b := by unfold kp; split <;> split <;> omega
theorem kp_zero (ls : Nat) : kp ls 0 = 0 := by unfold kp; split <;> rfl
section SPEC
variable (n : Nat) (ln fq : Nat → Nat) (ls : Nat) (pu : Nat → Nat)
def aN (F : Nat → Nat → Nat) (j t : Nat) : Nat := if 1 ≤ j ∧ j ≤ n ∧ ln (j - 1) ≤ t then F (j - 1) (t - ln (j - 1)) else 0
def aF (N : Nat → Nat → Nat) (j t : Nat) : Nat := if j < n ∧ ln j ≤ t then N (j + 1) (t - ln j) else 0
def gF (F N : Nat → Nat → Nat) (j t : Nat) : Nat := bk (aF n ln N j t) (fq j) + (aN n ln F j t - bk (aN n ln F j t) (fq j)) + if j = 0 then pu t else 0
def gN (F N : Nat → Nat → Nat) (j t : Nat) : Nat := bk (aN n ln F j t) (fq j) + (aF n ln N j t - bk (aF n ln N j t) (fq j))
def oF (F N : Nat → Nat → Nat) (j t : Nat) : Nat := if j < n then kp ls (gF n ln fq pu F N j t) else 0
def oN (F N : Nat → Nat → Nat) (j t : Nat) : Nat := if 1 ≤ j ∧ j ≤ n then kp ls (gN n ln fq F N j t) else 0
def sp : Nat → (Nat → Nat → Nat) × (Nat → Nat → Nat)
  | 0 => (fun _ _ => 0, fun _ _ => 0)
  | T + 1 => (fun j t => if t = T then oF n ln fq ls pu (sp T).1 (sp T).2 j T else (sp T).1 j t, fun j t => if t = T then oN n ln fq ls (sp T).1 (sp T).2 j T else (sp T).2 j t)
def Fa (j t : Nat) : Nat := (sp n ln fq ls pu (t + 1)).1 j t
def Nw (j t : Nat) : Nat := (sp n ln fq ls pu (t + 1)).2 j t
theorem sp_fst (T j t : Nat) : (sp n ln fq ls pu T).1 j t = if t < T then Fa n ln fq ls pu j t else 0 := by
  induction T with
  | zero => rfl
  | succ T ih =>
    by_cases h : t = T
    · subst h
      rw [if_pos (Nat.lt_succ_self t)]
      rfl
    · have e : (sp n ln fq ls pu (T + 1)).1 j t = (sp n ln fq ls pu T).1 j t := by simp only [sp, if_neg h]
      rw [e, ih]
      by_cases h2 : t < T
      · rw [if_pos h2, if_pos (by omega)]
      · rw [if_neg h2, if_neg (by omega)]
theorem sp_snd (T j t : Nat) : (sp n ln fq ls pu T).2 j t = if t < T then Nw n ln fq ls pu j t else 0 := by
  induction T with
  | zero => rfl
  | succ T ih =>
    by_cases h : t = T
    · subst h
      rw [if_pos (Nat.lt_succ_self t)]
      rfl
    · have e : (sp n ln fq ls pu (T + 1)).2 j t = (sp n ln fq ls pu T).2 j t := by simp only [sp, if_neg h]
      rw [e, ih]
      by_cases h2 : t < T
      · rw [if_pos h2, if_pos (by omega)]
      · rw [if_neg h2, if_neg (by omega)]
def AN (j t : Nat) : Nat := aN n ln (Fa n ln fq ls pu) j t
def AF (j t : Nat) : Nat := aF n ln (Nw n ln fq ls pu) j t
def GF (j t : Nat) : Nat := bk (AF n ln fq ls pu j t) (fq j) + (AN n ln fq ls pu j t - bk (AN n ln fq ls pu j t) (fq j)) + if j = 0 then pu t else 0
def GN (j t : Nat) : Nat := bk (AN n ln fq ls pu j t) (fq j) + (AF n ln fq ls pu j t - bk (AF n ln fq ls pu j t) (fq j))
variable {n ln fq ls pu}
theorem aN_sp (hl : ∀ j, j < n → 1 ≤ ln j) (j t : Nat) : aN n ln (sp n ln fq ls pu t).1 j t = AN n ln fq ls pu j t := by
  unfold AN aN
  by_cases h : 1 ≤ j ∧ j ≤ n ∧ ln (j - 1) ≤ t
  · rw [if_pos h, if_pos h, sp_fst, if_pos]
    have := hl (j - 1) (by omega)
    omega
  · rw [if_neg h, if_neg h]
theorem aF_sp (hl : ∀ j, j < n → 1 ≤ ln j) (j t : Nat) : aF n ln (sp n ln fq ls pu t).2 j t = AF n ln fq ls pu j t := by
  unfold AF aF
  by_cases h : j < n ∧ ln j ≤ t
  · rw [if_pos h, if_pos h, sp_snd, if_pos]
    have := hl j (by omega)
    omega
  · rw [if_neg h, if_neg h]
theorem Fa_eq (hl : ∀ j, j < n → 1 ≤ ln j) (j t : Nat) : Fa n ln fq ls pu j t = if j < n then kp ls (GF n ln fq ls pu j t) else 0 := by
  show (if t = t then oF n ln fq ls pu (sp n ln fq ls pu t).1 (sp n ln fq ls pu t).2 j t else _) = _
  rw [if_pos rfl]
  unfold oF gF GF
  rw [aN_sp hl, aF_sp hl]
theorem Ne_eq (hl : ∀ j, j < n → 1 ≤ ln j) (j t : Nat) : Nw n ln fq ls pu j t = if 1 ≤ j ∧ j ≤ n then kp ls (GN n ln fq ls pu j t) else 0 := by
  show (if t = t then oN n ln fq ls (sp n ln fq ls pu t).1 (sp n ln fq ls pu t).2 j t else _) = _
  rw [if_pos rfl]
  unfold oN gN GN
  rw [aN_sp hl, aF_sp hl]
theorem FN_le (hl : ∀ j, j < n → 1 ≤ ln j) (hf : ∀ j, fq j ≤ 1000) : ∀ t j, Fa n ln fq ls pu j t ≤ sm pu (t + 1) ∧ Nw n ln fq ls pu j t ≤ sm pu (t + 1) := by
  intro t
  induction t using Nat.strongRecOn with
  | ind t ih =>
    have hA : ∀ j, AN n ln fq ls pu j t ≤ sm pu t ∧ AF n ln fq ls pu j t ≤ sm pu t := fun j => by
      constructor
      · unfold AN aN
        by_cases h : 1 ≤ j ∧ j ≤ n ∧ ln (j - 1) ≤ t
        · rw [if_pos h]
          have h1 := hl (j - 1) (by omega)
          exact Nat.le_trans (ih (t - ln (j - 1)) (by omega) (j - 1)).1 (sm_mono pu (by omega))
        · rw [if_neg h]
          exact Nat.zero_le _
      · unfold AF aF
        by_cases h : j < n ∧ ln j ≤ t
        · rw [if_pos h]
          have h1 := hl j (by omega)
          exact Nat.le_trans (ih (t - ln j) (by omega) (j + 1)).2 (sm_mono pu (by omega))
        · rw [if_neg h]
          exact Nat.zero_le _
    intro j
    have e : sm pu (t + 1) = sm pu t + pu t := rfl
    constructor
    · rw [Fa_eq hl]
      by_cases h : j < n
      · rw [if_pos h]
        refine Nat.le_trans (kp_le _ _) ?_
        unfold GF
        have := mix_le (hA j).2 (hA j).1 (hf j)
        split <;> omega
      · rw [if_neg h]
        exact Nat.zero_le _
    · rw [Ne_eq hl]
      by_cases h : 1 ≤ j ∧ j ≤ n
      · rw [if_pos h]
        refine Nat.le_trans (kp_le _ _) ?_
        unfold GN
        have := mix_le (hA j).1 (hA j).2 (hf j)
        omega
      · rw [if_neg h]
        exact Nat.zero_le _
theorem AN_le (hl : ∀ j, j < n → 1 ≤ ln j) (hf : ∀ j, fq j ≤ 1000) {P : Nat} (hP : ∀ T, sm pu T ≤ P) (j t : Nat) : AN n ln fq ls pu j t ≤ P := by
  unfold AN aN
  split
  · exact Nat.le_trans (FN_le hl hf _ _).1 (hP _)
  · exact Nat.zero_le _
theorem AF_le (hl : ∀ j, j < n → 1 ≤ ln j) (hf : ∀ j, fq j ≤ 1000) {P : Nat} (hP : ∀ T, sm pu T ≤ P) (j t : Nat) : AF n ln fq ls pu j t ≤ P := by
  unfold AF aF
  split
  · exact Nat.le_trans (FN_le hl hf _ _).2 (hP _)
  · exact Nat.zero_le _
end SPEC
