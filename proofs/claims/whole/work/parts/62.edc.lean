def addB (b : Bn) (l p : Nat) : Bn := (Bn.mk (b.n + 1) (upN b.ln b.n l) (upN b.fr b.n p) b.ft b.ls b.wn b.np b.pt b.pe)
def setB (b : Bn) (k l p : Nat) : Bn := (Bn.mk b.n (upN b.ln k l) (upN b.fr k p) b.ft b.ls b.wn b.np b.pt b.pe)
def cutB (b : Bn) (k : Nat) : Bn := (Bn.mk (b.n - 1) (fun j => if k ≤ j ∧ j < b.n - 1 then b.ln (j + 1) else b.ln j) (fun j => if k ≤ j ∧ j < b.n - 1 then b.fr (j + 1) else b.fr j) b.ft b.ls b.wn b.np b.pt b.pe)
def splB (b : Bn) (k a p : Nat) : Bn := (Bn.mk (b.n + 1) (fun j => if j = k then a else if j = k + 1 then b.ln k - a else if k < j ∧ j ≤ b.n then b.ln (j - 1) else b.ln j) (fun j => if j = k then p else if k < j ∧ j ≤ b.n then b.fr (j - 1) else b.fr j) b.ft b.ls b.wn b.np b.pt b.pe)
def revB (b : Bn) : Bn := (Bn.mk b.n (fun j => if j < b.n then b.ln (b.n - 1 - j) else b.ln j) (fun j => if j + 1 < b.n then b.fr (b.n - 2 - j) else b.fr j) b.ft b.ls b.wn b.np b.pt b.pe)
def apB (b : Bn) (t e : Nat) : Bn := (Bn.mk b.n b.ln b.fr b.ft b.ls b.wn (b.np + 1) (upN b.pt b.np t) (upN b.pe b.np e))
def cpB (b : Bn) (k : Nat) : Bn := (Bn.mk b.n b.ln b.fr b.ft b.ls b.wn (b.np - 1) (fun j => if k ≤ j ∧ j < b.np - 1 then b.pt (j + 1) else b.pt j) (fun j => if k ≤ j ∧ j < b.np - 1 then b.pe (j + 1) else b.pe j))
section OKS
variable {b : Bn} (hb : b.OK)
theorem addB_OK (hb : b.OK) {l p : Nat} (hn : b.n < 8) (h1 : 1 ≤ l) (h2 : l ≤ 20) (h3 : p ≤ 1000) : (addB b l p).OK := by
  obtain ⟨a1, a2, a3, a4, a5, a6, a7⟩ := hb
  exact ⟨hn, (LnOK_step ⟨a1, a2⟩ hn h1 h2 h3).2, a3, a4, a5, a6, a7⟩
theorem setB_OK (hb : b.OK) {k l p : Nat} (hk : k < b.n) (h1 : 1 ≤ l) (h2 : l ≤ 20) (h3 : p ≤ 1000) : (setB b k l p).OK := by
  obtain ⟨a1, a2, a3, a4, a5, a6, a7⟩ := hb
  refine ⟨a1, fun j hj => ?_, a3, a4, a5, a6, a7⟩
  show 1 ≤ upN b.ln k l j ∧ upN b.ln k l j ≤ 20 ∧ upN b.fr k p j ≤ 1000
  by_cases e : j = k
  · subst e
    rw [upN_at, upN_at]
    exact ⟨h1, h2, h3⟩
  · rw [upN_ne e, upN_ne e]
    exact a2 j hj
theorem cutB_OK (hb : b.OK) {k : Nat} (hk : k < b.n) : (cutB b k).OK := by
  obtain ⟨a1, a2, a3, a4, a5, a6, a7⟩ := hb
  refine ⟨show b.n - 1 ≤ 8 by omega, fun j hj => ?_, a3, a4, a5, a6, a7⟩
  have hj' : j < b.n - 1 := hj
  show 1 ≤ (if k ≤ j ∧ j < b.n - 1 then b.ln (j + 1) else b.ln j) ∧ (if k ≤ j ∧ j < b.n - 1 then b.ln (j + 1) else b.ln j) ≤ 20 ∧ (if k ≤ j ∧ j < b.n - 1 then b.fr (j + 1) else b.fr j) ≤ 1000
  by_cases w : k ≤ j ∧ j < b.n - 1
  · rw [if_pos w, if_pos w]
    exact a2 _ (by omega)
  · rw [if_neg w, if_neg w]
    exact a2 _ (by omega)
theorem splB_OK (hb : b.OK) {k a p : Nat} (hk : k < b.n) (hn : b.n < 8) (h1 : 1 ≤ a) (h2 : a < b.ln k) (h3 : p ≤ 1000) : (splB b k a p).OK := by
  obtain ⟨a1, a2, a3, a4, a5, a6, a7⟩ := hb
  refine ⟨hn, fun j hj => ?_, a3, a4, a5, a6, a7⟩
  have hj' : j < b.n + 1 := hj
  have hk2 := a2 k hk
  show 1 ≤ (if j = k then a else if j = k + 1 then b.ln k - a else if k < j ∧ j ≤ b.n then b.ln (j - 1) else b.ln j) ∧ (if j = k then a else if j = k + 1 then b.ln k - a else if k < j ∧ j ≤ b.n then b.ln (j - 1) else b.ln j) ≤ 20 ∧ (if j = k then p else if k < j ∧ j ≤ b.n then b.fr (j - 1) else b.fr j) ≤ 1000
  by_cases e : j = k
  · rw [if_pos e, if_pos e]
    omega
  · rw [if_neg e, if_neg e]
    by_cases e1 : j = k + 1
    · rw [if_pos e1, if_pos (by omega)]
      have := a2 (j - 1) (by omega)
      omega
    · rw [if_neg e1]
      by_cases e2 : k < j ∧ j ≤ b.n
      · rw [if_pos e2, if_pos e2]
        exact a2 _ (by omega)
      · rw [if_neg e2, if_neg e2]
        exact a2 _ (by omega)
theorem revB_OK (hb : b.OK) : (revB b).OK := by
  obtain ⟨a1, a2, a3, a4, a5, a6, a7⟩ := hb
  refine ⟨a1, fun j hj => ?_, a3, a4, a5, a6, a7⟩
  have hj' : j < b.n := hj
  show 1 ≤ (if j < b.n then b.ln (b.n - 1 - j) else b.ln j) ∧ (if j < b.n then b.ln (b.n - 1 - j) else b.ln j) ≤ 20 ∧ (if j + 1 < b.n then b.fr (b.n - 2 - j) else b.fr j) ≤ 1000
  rw [if_pos hj']
  have q1 := a2 (b.n - 1 - j) (by omega)
  refine ⟨q1.1, q1.2.1, ?_⟩
  by_cases w : j + 1 < b.n
  · rw [if_pos w]
    exact (a2 _ (by omega)).2.2
  · rw [if_neg w]
    exact (a2 _ (by omega)).2.2
theorem apB_OK (hb : b.OK) {t e : Nat} (hn : b.np < 4) (h1 : t ≤ 100) (h2 : 1 ≤ e) (h3 : e ≤ 1000000) : (apB b t e).OK := by
  obtain ⟨a1, a2, a3, a4, a5, a6, a7, a8⟩ := hb
  refine ⟨a1, a2, a3, a4, a5, show 1 ≤ b.np + 1 by omega, hn, fun j hj => ?_⟩
  have hj' : j < b.np + 1 := hj
  show upN b.pt b.np t j ≤ 100 ∧ 1 ≤ upN b.pe b.np e j ∧ upN b.pe b.np e j ≤ 1000000
  by_cases q : j = b.np
  · subst q
    rw [upN_at, upN_at]
    exact ⟨h1, h2, h3⟩
  · rw [upN_ne q, upN_ne q]
    exact a8 j (by omega)
theorem cpB_OK (hb : b.OK) {k : Nat} (hk : k < b.np) (hn : 2 ≤ b.np) : (cpB b k).OK := by
  obtain ⟨a1, a2, a3, a4, a5, a6, a7, a8⟩ := hb
  refine ⟨a1, a2, a3, a4, a5, show 1 ≤ b.np - 1 by omega, show b.np - 1 ≤ 4 by omega, fun j hj => ?_⟩
  have hj' : j < b.np - 1 := hj
  show (if k ≤ j ∧ j < b.np - 1 then b.pt (j + 1) else b.pt j) ≤ 100 ∧ 1 ≤ (if k ≤ j ∧ j < b.np - 1 then b.pe (j + 1) else b.pe j) ∧ (if k ≤ j ∧ j < b.np - 1 then b.pe (j + 1) else b.pe j) ≤ 1000000
  by_cases w : k ≤ j ∧ j < b.np - 1
  · rw [if_pos w, if_pos w]
    exact a8 _ (by omega)
  · rw [if_neg w, if_neg w]
    exact a8 _ (by omega)
end OKS
section EDC
variable {ℓ φ : Nat → Int32} {n k : Nat} {x2 x3 : Int32}
theorem ev_appendN (hn : n < 8) : Cf_B_append_n (kI n) ℓ φ x2 x3 = some (kI (n + 1), upd ℓ n x2, upd φ n x3, kI (n + 1)) := by
  unfold Cf_B_append_n Cf_B_append_n_39
  simp (disch := omega) only [↓nm_eq, ↓bd_x, bdx_s, ↓bx_x, bxx_r, bxx_l, ↓bn_x, bnx_r, chk_t, ↓reduceIte, q32, q64, kI_lt_t, kI_lt_f, kI_le_t, kI_le_f, kI_eq_t, kI_eq_f, kL_lt_t, kL_lt_f, kL_le_t, kL_le_f, kL_eq_t, kL_eq_f, kI_m1, kI_m1', m1_m1, kI_n1, kI_n1', n1_add', eq_self, inb_t, kI_nat, kI_add, kI_mul, kI_sub, kI_div, kI_mod, kI_long, kL_add, kL_mul, kL_sub, kL_div, kL_mod, kL_int, n1_add, not_false_eq_true, not_true_eq_false, and_true, true_and, and_false, false_and, or_true, true_or, or_false, false_or, Nat.reduceEqDiff, IN, IM]
theorem ev_replaceN (hk : k < 8) : Cf_B_replace_n ℓ φ (kI k) x2 x3 = some (upd ℓ k x2, upd φ k x3, φ k) := by
  unfold Cf_B_replace_n
  simp (disch := omega) only [↓nm_eq, ↓bd_x, bdx_s, ↓bx_x, bxx_r, bxx_l, ↓bn_x, bnx_r, chk_t, ↓reduceIte, q32, q64, kI_lt_t, kI_lt_f, kI_le_t, kI_le_f, kI_eq_t, kI_eq_f, kL_lt_t, kL_lt_f, kL_le_t, kL_le_f, kL_eq_t, kL_eq_f, kI_m1, kI_m1', m1_m1, kI_n1, kI_n1', n1_add', eq_self, inb_t, kI_nat, kI_add, kI_mul, kI_sub, kI_div, kI_mod, kI_long, kL_add, kL_mul, kL_sub, kL_div, kL_mod, kL_int, n1_add, not_false_eq_true, not_true_eq_false, and_true, true_and, and_false, false_and, or_true, true_or, or_false, false_or, Nat.reduceEqDiff, IN, IM]
theorem shift_step {α : Type} (f : Nat → α) (k i N : Nat) (hk : k ≤ i) (u : (Nat → α) → Nat → α → Nat → α) (hu : ∀ g i v j, u g i v j = if j = i then v else g j) : u (fun j => if k ≤ j ∧ j < i then f (j + 1) else f j) i (f (i + 1)) = fun j => if k ≤ j ∧ j < i + 1 then f (j + 1) else f j := by
  funext j
  rw [hu]
  by_cases e : j = i
  · subst e
    rw [if_pos rfl, if_pos (by omega)]
  · rw [if_neg e]
    by_cases q : k ≤ j ∧ j < i
    · rw [if_pos q, if_pos (by omega)]
    · rw [if_neg q, if_neg (by omega)]
theorem upd_if (g : Nat → Int32) (i : Nat) (v : Int32) (j : Nat) : upd g i v j = if j = i then v else g j := by unfold upd; rfl
theorem updL_if (g : Nat → Int64) (i : Nat) (v : Int64) (j : Nat) : vp_updL g i v j = if j = i then v else g j := by unfold vp_updL; rfl
theorem ev_cutN (hk : k < n) (hn : n ≤ 8) : Cf_B_cut_n (kI n) ℓ φ (kI k) = some (kI (n - 1), (fun j => if k ≤ j ∧ j < n - 1 then ℓ (j + 1) else ℓ j), (fun j => if k ≤ j ∧ j < n - 1 then φ (j + 1) else φ j), kI (n - 1)) := by
  obtain ⟨a, e, q⟩ := loop_gen (L := fun fu (s : (Nat → Int32) × (Nat → Int32)) x => Cl_B_cut_n_2 (kI n) fu s.1 s.2 x) (fun i s => k ≤ i ∧ s = ((fun j => if k ≤ j ∧ j < i then ℓ (j + 1) else ℓ j), (fun j => if k ≤ j ∧ j < i then φ (j + 1) else φ j))) (fun s => s = ((fun j => if k ≤ j ∧ j < n - 1 then ℓ (j + 1) else ℓ j), (fun j => if k ≤ j ∧ j < n - 1 then φ (j + 1) else φ j))) (n - 1) (fun fu i s hi hs => by
      obtain ⟨hs1, hs⟩ := hs
      refine Or.inr ⟨_, ?_, by omega, rfl⟩
      subst hs
      simp only [Cl_B_cut_n_2]
      have e1 : (if k ≤ i + 1 ∧ i + 1 < i then ℓ (i + 1 + 1) else ℓ (i + 1)) = ℓ (i + 1) := if_neg (by omega)
      have e2 : (if k ≤ i + 1 ∧ i + 1 < i then φ (i + 1 + 1) else φ (i + 1)) = φ (i + 1) := if_neg (by omega)
      simp (disch := omega) only [↓nm_eq, ↓bd_x, bdx_s, ↓bx_x, bxx_r, bxx_l, ↓bn_x, bnx_r, chk_t, ↓reduceIte, q32, q64, kI_lt_t, kI_lt_f, kI_le_t, kI_le_f, kI_eq_t, kI_eq_f, kL_lt_t, kL_lt_f, kL_le_t, kL_le_f, kL_eq_t, kL_eq_f, kI_m1, kI_m1', m1_m1, kI_n1, kI_n1', n1_add', eq_self, inb_t, kI_nat, kI_add, kI_mul, kI_sub, kI_div, kI_mod, kI_long, kL_add, kL_mul, kL_sub, kL_div, kL_mod, kL_int, n1_add, not_false_eq_true, not_true_eq_false, and_true, true_and, and_false, false_and, or_true, true_or, or_false, false_or, Nat.reduceEqDiff, IN, IM, e1, e2, shift_step ℓ k i n hs1 upd upd_if, shift_step φ k i n hs1 upd upd_if])
    (fun fu s hs => ⟨s, by simp only [Cl_B_cut_n_2]; simp (disch := omega) only [↓nm_eq, ↓bd_x, bdx_s, ↓bx_x, bxx_r, bxx_l, ↓bn_x, bnx_r, chk_t, ↓reduceIte, q32, q64, kI_lt_t, kI_lt_f, kI_le_t, kI_le_f, kI_eq_t, kI_eq_f, kL_lt_t, kL_lt_f, kL_le_t, kL_le_f, kL_eq_t, kL_eq_f, kI_m1, kI_m1', m1_m1, kI_n1, kI_n1', n1_add', eq_self, inb_t, kI_nat, kI_add, kI_mul, kI_sub, kI_div, kI_mod, kI_long, kL_add, kL_mul, kL_sub, kL_div, kL_mod, kL_int, n1_add, not_false_eq_true, not_true_eq_false, and_true, true_and, and_false, false_and, or_true, true_or, or_false, false_or, Nat.reduceEqDiff, IN, IM], hs.2⟩) FUEL k (ℓ, φ) (by have : FUEL = 4096 := rfl; omega) (by omega) ⟨Nat.le_refl k, by
      refine Prod.ext (funext fun j => ?_) (funext fun j => ?_)
      · exact (if_neg (by omega)).symm
      · exact (if_neg (by omega)).symm⟩
  subst q
  unfold Cf_B_cut_n
  rw [bd_e e]
  simp (disch := omega) only [↓nm_eq, ↓bd_x, bdx_s, ↓bx_x, bxx_r, bxx_l, ↓bn_x, bnx_r, chk_t, ↓reduceIte, q32, q64, kI_lt_t, kI_lt_f, kI_le_t, kI_le_f, kI_eq_t, kI_eq_f, kL_lt_t, kL_lt_f, kL_le_t, kL_le_f, kL_eq_t, kL_eq_f, kI_m1, kI_m1', m1_m1, kI_n1, kI_n1', n1_add', eq_self, inb_t, kI_nat, kI_add, kI_mul, kI_sub, kI_div, kI_mod, kI_long, kL_add, kL_mul, kL_sub, kL_div, kL_mod, kL_int, n1_add, not_false_eq_true, not_true_eq_false, and_true, true_and, and_false, false_and, or_true, true_or, or_false, false_or, Nat.reduceEqDiff, IN, IM]
theorem ev_cutPulseN (hk : k < n) (hn : n ≤ 4) : Cf_B_cutPulse_n (kI n) ℓ φ (kI k) = some (kI (n - 1), (fun j => if k ≤ j ∧ j < n - 1 then ℓ (j + 1) else ℓ j), (fun j => if k ≤ j ∧ j < n - 1 then φ (j + 1) else φ j), kI (n - 1)) := by
  obtain ⟨a, e, q⟩ := loop_gen (L := fun fu (s : (Nat → Int32) × (Nat → Int32)) x => Cl_B_cutPulse_n_2 (kI n) fu s.1 s.2 x) (fun i s => k ≤ i ∧ s = ((fun j => if k ≤ j ∧ j < i then ℓ (j + 1) else ℓ j), (fun j => if k ≤ j ∧ j < i then φ (j + 1) else φ j))) (fun s => s = ((fun j => if k ≤ j ∧ j < n - 1 then ℓ (j + 1) else ℓ j), (fun j => if k ≤ j ∧ j < n - 1 then φ (j + 1) else φ j))) (n - 1) (fun fu i s hi hs => by
      obtain ⟨hs1, hs⟩ := hs
      refine Or.inr ⟨_, ?_, by omega, rfl⟩
      subst hs
      simp only [Cl_B_cutPulse_n_2]
      have e1 : (if k ≤ i + 1 ∧ i + 1 < i then ℓ (i + 1 + 1) else ℓ (i + 1)) = ℓ (i + 1) := if_neg (by omega)
      have e2 : (if k ≤ i + 1 ∧ i + 1 < i then φ (i + 1 + 1) else φ (i + 1)) = φ (i + 1) := if_neg (by omega)
      simp (disch := omega) only [↓nm_eq, ↓bd_x, bdx_s, ↓bx_x, bxx_r, bxx_l, ↓bn_x, bnx_r, chk_t, ↓reduceIte, q32, q64, kI_lt_t, kI_lt_f, kI_le_t, kI_le_f, kI_eq_t, kI_eq_f, kL_lt_t, kL_lt_f, kL_le_t, kL_le_f, kL_eq_t, kL_eq_f, kI_m1, kI_m1', m1_m1, kI_n1, kI_n1', n1_add', eq_self, inb_t, kI_nat, kI_add, kI_mul, kI_sub, kI_div, kI_mod, kI_long, kL_add, kL_mul, kL_sub, kL_div, kL_mod, kL_int, n1_add, not_false_eq_true, not_true_eq_false, and_true, true_and, and_false, false_and, or_true, true_or, or_false, false_or, Nat.reduceEqDiff, IN, IM, e1, e2, shift_step ℓ k i n hs1 upd upd_if, shift_step φ k i n hs1 upd upd_if])
    (fun fu s hs => ⟨s, by simp only [Cl_B_cutPulse_n_2]; simp (disch := omega) only [↓nm_eq, ↓bd_x, bdx_s, ↓bx_x, bxx_r, bxx_l, ↓bn_x, bnx_r, chk_t, ↓reduceIte, q32, q64, kI_lt_t, kI_lt_f, kI_le_t, kI_le_f, kI_eq_t, kI_eq_f, kL_lt_t, kL_lt_f, kL_le_t, kL_le_f, kL_eq_t, kL_eq_f, kI_m1, kI_m1', m1_m1, kI_n1, kI_n1', n1_add', eq_self, inb_t, kI_nat, kI_add, kI_mul, kI_sub, kI_div, kI_mod, kI_long, kL_add, kL_mul, kL_sub, kL_div, kL_mod, kL_int, n1_add, not_false_eq_true, not_true_eq_false, and_true, true_and, and_false, false_and, or_true, true_or, or_false, false_or, Nat.reduceEqDiff, IN, IM], hs.2⟩) FUEL k (ℓ, φ) (by have : FUEL = 4096 := rfl; omega) (by omega) ⟨Nat.le_refl k, by
      refine Prod.ext (funext fun j => ?_) (funext fun j => ?_)
      · exact (if_neg (by omega)).symm
      · exact (if_neg (by omega)).symm⟩
  subst q
  unfold Cf_B_cutPulse_n
  rw [bd_e e]
  simp (disch := omega) only [↓nm_eq, ↓bd_x, bdx_s, ↓bx_x, bxx_r, bxx_l, ↓bn_x, bnx_r, chk_t, ↓reduceIte, q32, q64, kI_lt_t, kI_lt_f, kI_le_t, kI_le_f, kI_eq_t, kI_eq_f, kL_lt_t, kL_lt_f, kL_le_t, kL_le_f, kL_eq_t, kL_eq_f, kI_m1, kI_m1', m1_m1, kI_n1, kI_n1', n1_add', eq_self, inb_t, kI_nat, kI_add, kI_mul, kI_sub, kI_div, kI_mod, kI_long, kL_add, kL_mul, kL_sub, kL_div, kL_mod, kL_int, n1_add, not_false_eq_true, not_true_eq_false, and_true, true_and, and_false, false_and, or_true, true_or, or_false, false_or, Nat.reduceEqDiff, IN, IM]
theorem ev_appendPulseN (hn : n < 4) : Cf_B_appendPulse_n (kI n) ℓ φ x2 x3 = some (kI (n + 1), upd ℓ n x2, upd φ n x3, kI (n + 1)) := by
  unfold Cf_B_appendPulse_n Cf_B_appendPulse_n_38
  simp (disch := omega) only [↓nm_eq, ↓bd_x, bdx_s, ↓bx_x, bxx_r, bxx_l, ↓bn_x, bnx_r, chk_t, ↓reduceIte, q32, q64, kI_lt_t, kI_lt_f, kI_le_t, kI_le_f, kI_eq_t, kI_eq_f, kL_lt_t, kL_lt_f, kL_le_t, kL_le_f, kL_eq_t, kL_eq_f, kI_m1, kI_m1', m1_m1, kI_n1, kI_n1', n1_add', eq_self, inb_t, kI_nat, kI_add, kI_mul, kI_sub, kI_div, kI_mod, kI_long, kL_add, kL_mul, kL_sub, kL_div, kL_mod, kL_int, n1_add, not_false_eq_true, not_true_eq_false, and_true, true_and, and_false, false_and, or_true, true_or, or_false, false_or, Nat.reduceEqDiff, IN, IM]
theorem back_step {α : Type} (f : Nat → α) (i n : Nat) (hi : i + 1 ≤ n) (u : (Nat → α) → Nat → α → Nat → α) (hu : ∀ g i v j, u g i v j = if j = i then v else g j) : u (fun j => if i + 1 < j ∧ j ≤ n then f (j - 1) else f j) (i + 1) (f i) = fun j => if i < j ∧ j ≤ n then f (j - 1) else f j := by
  funext j
  rw [hu]
  by_cases e : j = i + 1
  · subst e
    rw [if_pos rfl, if_pos (by omega), Nat.add_sub_cancel]
  · rw [if_neg e]
    by_cases q : i + 1 < j ∧ j ≤ n
    · rw [if_pos q, if_pos (by omega)]
    · rw [if_neg q, if_neg (by omega)]
theorem ev_divLoop (hk : k < n) (hn : n < 8) {x5 x6 : Int32} : ∀ d fu, d < fu → k + d ≤ n → Cl_B_divide_n_15 (kI k) x5 x6 fu (fun j => if k + d < j ∧ j ≤ n then ℓ (j - 1) else ℓ j) (fun j => if k + d < j ∧ j ≤ n then φ (j - 1) else φ j) (kI (k + d)) = some ((fun j => if k < j ∧ j ≤ n then ℓ (j - 1) else ℓ j), (fun j => if k < j ∧ j ≤ n then φ (j - 1) else φ j)) := by
  intro d
  induction d with
  | zero =>
    intro fu h1 h2
    obtain ⟨g, rfl⟩ : ∃ g, fu = g + 1 := ⟨fu - 1, by omega⟩
    simp only [Cl_B_divide_n_15]
    simp (disch := omega) only [↓nm_eq, ↓bd_x, bdx_s, ↓bx_x, bxx_r, bxx_l, ↓bn_x, bnx_r, chk_t, ↓reduceIte, q32, q64, kI_lt_t, kI_lt_f, kI_le_t, kI_le_f, kI_eq_t, kI_eq_f, kL_lt_t, kL_lt_f, kL_le_t, kL_le_f, kL_eq_t, kL_eq_f, kI_m1, kI_m1', m1_m1, kI_n1, kI_n1', n1_add', eq_self, inb_t, kI_nat, kI_add, kI_mul, kI_sub, kI_div, kI_mod, kI_long, kL_add, kL_mul, kL_sub, kL_div, kL_mod, kL_int, n1_add, not_false_eq_true, not_true_eq_false, and_true, true_and, and_false, false_and, or_true, true_or, or_false, false_or, Nat.reduceEqDiff, IN, IM, Nat.add_zero]
  | succ d ih =>
    intro fu h1 h2
    obtain ⟨g, rfl⟩ : ∃ g, fu = g + 1 := ⟨fu - 1, by omega⟩
    simp only [Cl_B_divide_n_15]
    have e0 : k + (d + 1) = k + d + 1 := by omega
    have e1 : (if k + d + 1 < k + d ∧ k + d ≤ n then ℓ (k + d - 1) else ℓ (k + d)) = ℓ (k + d) := if_neg (by omega)
    have e2 : (if k + d + 1 < k + d ∧ k + d ≤ n then φ (k + d - 1) else φ (k + d)) = φ (k + d) := if_neg (by omega)
    have e3 : k + d + 1 - 1 = k + d := by omega
    rw [e0]
    simp (disch := omega) only [↓nm_eq, ↓bd_x, bdx_s, ↓bx_x, bxx_r, bxx_l, ↓bn_x, bnx_r, chk_t, ↓reduceIte, q32, q64, kI_lt_t, kI_lt_f, kI_le_t, kI_le_f, kI_eq_t, kI_eq_f, kL_lt_t, kL_lt_f, kL_le_t, kL_le_f, kL_eq_t, kL_eq_f, kI_m1, kI_m1', m1_m1, kI_n1, kI_n1', n1_add', eq_self, inb_t, kI_nat, kI_add, kI_mul, kI_sub, kI_div, kI_mod, kI_long, kL_add, kL_mul, kL_sub, kL_div, kL_mod, kL_int, n1_add, not_false_eq_true, not_true_eq_false, and_true, true_and, and_false, false_and, or_true, true_or, or_false, false_or, Nat.reduceEqDiff, IN, IM, e1, e2, e3, back_step ℓ (k + d) n (by omega) upd upd_if, back_step φ (k + d) n (by omega) upd upd_if]
    exact ih g (by omega) (by omega)
theorem ev_divideN (hk : k < n) (hn : n < 8) {x5 x6 : Int32} : Cf_B_divide_n (kI n) ℓ φ (kI k) x5 x6 = some (kI (n + 1), upd (upd (fun j => if k < j ∧ j ≤ n then ℓ (j - 1) else ℓ j) k x5) (k + 1) (ℓ k - x5), upd (fun j => if k < j ∧ j ≤ n then φ (j - 1) else φ j) k x6, kI (n + 1)) := by
  have e := ev_divLoop (ℓ := ℓ) (φ := φ) hk hn (x5 := x5) (x6 := x6) (n - k) FUEL (by have : FUEL = 4096 := rfl; omega) (by omega)
  rw [show k + (n - k) = n from by omega] at e
  have z1 : (fun j => if n < j ∧ j ≤ n then ℓ (j - 1) else ℓ j) = ℓ := funext fun j => if_neg (by omega)
  have z2 : (fun j => if n < j ∧ j ≤ n then φ (j - 1) else φ j) = φ := funext fun j => if_neg (by omega)
  rw [z1, z2] at e
  have e1 : upd (fun j => if k < j ∧ j ≤ n then ℓ (j - 1) else ℓ j) k x5 (k + 1) = ℓ k := by
    rw [up32_ne (by omega), if_pos (by omega), Nat.add_sub_cancel]
  unfold Cf_B_divide_n Cf_B_divide_n_95
  simp (disch := omega) only [↓nm_eq, ↓bd_x, bdx_s, ↓bx_x, bxx_r, bxx_l, ↓bn_x, bnx_r, chk_t, ↓reduceIte, q32, q64, kI_lt_t, kI_lt_f, kI_le_t, kI_le_f, kI_eq_t, kI_eq_f, kL_lt_t, kL_lt_f, kL_le_t, kL_le_f, kL_eq_t, kL_eq_f, kI_m1, kI_m1', m1_m1, kI_n1, kI_n1', n1_add', eq_self, inb_t, kI_nat, kI_add, kI_mul, kI_sub, kI_div, kI_mod, kI_long, kL_add, kL_mul, kL_sub, kL_div, kL_mod, kL_int, n1_add, not_false_eq_true, not_true_eq_false, and_true, true_and, and_false, false_and, or_true, true_or, or_false, false_or, Nat.reduceEqDiff, IN, IM, e, e1]
end EDC
def sw {α : Type} (f : Nat → α) (N i : Nat) : Nat → α := fun j => if j < N ∧ (j < i ∨ N ≤ j + i) then f (N - 1 - j) else f j
theorem sw_step {α : Type} (f : Nat → α) {N i : Nat} (h : 2 * i + 1 < N) (u : (Nat → α) → Nat → α → Nat → α) (hu : ∀ g i v j, u g i v j = if j = i then v else g j) : u (u (sw f N i) i (f (N - 1 - i))) (N - 1 - i) (f i) = sw f N (i + 1) := by
  funext j
  rw [hu]
  unfold sw
  by_cases e : j = N - 1 - i
  · rw [if_pos e, if_pos (by omega)]
    congr 1
    omega
  · rw [if_neg e, hu]
    by_cases e2 : j = i
    · rw [if_pos e2, if_pos (by omega), e2]
    · rw [if_neg e2]
      by_cases q : j < N ∧ (j < i ∨ N ≤ j + i)
      · rw [if_pos q, if_pos (by omega)]
      · rw [if_neg q, if_neg (by omega)]
theorem sw_lo {α : Type} (f : Nat → α) {N i : Nat} (h : 2 * i + 1 < N) : sw f N i i = f i := if_neg (by omega)
theorem sw_hi {α : Type} (f : Nat → α) {N i : Nat} (h : 2 * i + 1 < N) : sw f N i (N - 1 - i) = f (N - 1 - i) := if_neg (by omega)
theorem sw_0 {α : Type} (f : Nat → α) (N : Nat) : sw f N 0 = f := funext fun j => if_neg (by omega)
theorem sw_end {α : Type} (f : Nat → α) {N j : Nat} (h : j < N) : sw f N (N / 2) j = f (N - 1 - j) := by
  unfold sw
  by_cases q : j < N ∧ (j < N / 2 ∨ N ≤ j + N / 2)
  · rw [if_pos q]
  · rw [if_neg q]
    congr 1
    omega
theorem sw_out {α : Type} (f : Nat → α) {N i j : Nat} (h : N ≤ j) : sw f N i j = f j := if_neg (by omega)
section SW
variable {ℓ φ : Nat → Int32} {N : Nat}
theorem ev_swapL1 (h1 : 1 ≤ N) (hN : N ≤ 8) : Cf_B_swapEnds_n_lengths ℓ (kI N) = some (sw ℓ N (N / 2)) := by
  have hl : ∀ fu i, 2 * i ≤ N → N / 2 - i < fu → Cl_B_swapEnds_n_lengths_6 fu (sw ℓ N i) (kI i) (kI (N - 1 - i)) = some (sw ℓ N (N / 2)) := by
    intro fu
    induction fu with
    | zero => intro i _ h; omega
    | succ fu ih =>
      intro i h2 h3
      simp only [Cl_B_swapEnds_n_lengths_6]
      by_cases c : 2 * i + 1 < N
      · have e1 : N - 1 - i - 1 = N - 1 - (i + 1) := by omega
        simp (disch := omega) only [↓nm_eq, ↓bd_x, bdx_s, ↓bx_x, bxx_r, bxx_l, ↓bn_x, bnx_r, chk_t, ↓reduceIte, q32, q64, kI_lt_t, kI_lt_f, kI_le_t, kI_le_f, kI_eq_t, kI_eq_f, kL_lt_t, kL_lt_f, kL_le_t, kL_le_f, kL_eq_t, kL_eq_f, kI_m1, kI_m1', m1_m1, kI_n1, kI_n1', n1_add', eq_self, inb_t, kI_nat, kI_add, kI_mul, kI_sub, kI_div, kI_mod, kI_long, kL_add, kL_mul, kL_sub, kL_div, kL_mod, kL_int, n1_add, not_false_eq_true, not_true_eq_false, and_true, true_and, and_false, false_and, or_true, true_or, or_false, false_or, Nat.reduceEqDiff, IN, IM, sw_lo ℓ c, sw_hi ℓ c, sw_step ℓ c upd upd_if, e1]
        exact ih (i + 1) (by omega) (by omega)
      · simp (disch := omega) only [↓nm_eq, ↓bd_x, bdx_s, ↓bx_x, bxx_r, bxx_l, ↓bn_x, bnx_r, chk_t, ↓reduceIte, q32, q64, kI_lt_t, kI_lt_f, kI_le_t, kI_le_f, kI_eq_t, kI_eq_f, kL_lt_t, kL_lt_f, kL_le_t, kL_le_f, kL_eq_t, kL_eq_f, kI_m1, kI_m1', m1_m1, kI_n1, kI_n1', n1_add', eq_self, inb_t, kI_nat, kI_add, kI_mul, kI_sub, kI_div, kI_mod, kI_long, kL_add, kL_mul, kL_sub, kL_div, kL_mod, kL_int, n1_add, not_false_eq_true, not_true_eq_false, and_true, true_and, and_false, false_and, or_true, true_or, or_false, false_or, Nat.reduceEqDiff, IN, IM]
        rw [show i = N / 2 from by omega]
  have h0 := hl FUEL 0 (by omega) (by have : FUEL = 4096 := rfl; omega)
  rw [sw_0, Nat.sub_zero] at h0
  unfold Cf_B_swapEnds_n_lengths
  simp (disch := omega) only [↓nm_eq, ↓bd_x, bdx_s, ↓bx_x, bxx_r, bxx_l, ↓bn_x, bnx_r, chk_t, ↓reduceIte, q32, q64, kI_lt_t, kI_lt_f, kI_le_t, kI_le_f, kI_eq_t, kI_eq_f, kL_lt_t, kL_lt_f, kL_le_t, kL_le_f, kL_eq_t, kL_eq_f, kI_m1, kI_m1', m1_m1, kI_n1, kI_n1', n1_add', eq_self, inb_t, kI_nat, kI_add, kI_mul, kI_sub, kI_div, kI_mod, kI_long, kL_add, kL_mul, kL_sub, kL_div, kL_mod, kL_int, n1_add, not_false_eq_true, not_true_eq_false, and_true, true_and, and_false, false_and, or_true, true_or, or_false, false_or, Nat.reduceEqDiff, IN, IM, h0]
theorem ev_swapF1 (h1 : 1 ≤ N) (hN : N ≤ 8) : Cf_B_swapEnds_n_fractions ℓ (kI N) = some (sw ℓ N (N / 2)) := by
  have hl : ∀ fu i, 2 * i ≤ N → N / 2 - i < fu → Cl_B_swapEnds_n_fractions_6 fu (sw ℓ N i) (kI i) (kI (N - 1 - i)) = some (sw ℓ N (N / 2)) := by
    intro fu
    induction fu with
    | zero => intro i _ h; omega
    | succ fu ih =>
      intro i h2 h3
      simp only [Cl_B_swapEnds_n_fractions_6]
      by_cases c : 2 * i + 1 < N
      · have e1 : N - 1 - i - 1 = N - 1 - (i + 1) := by omega
        simp (disch := omega) only [↓nm_eq, ↓bd_x, bdx_s, ↓bx_x, bxx_r, bxx_l, ↓bn_x, bnx_r, chk_t, ↓reduceIte, q32, q64, kI_lt_t, kI_lt_f, kI_le_t, kI_le_f, kI_eq_t, kI_eq_f, kL_lt_t, kL_lt_f, kL_le_t, kL_le_f, kL_eq_t, kL_eq_f, kI_m1, kI_m1', m1_m1, kI_n1, kI_n1', n1_add', eq_self, inb_t, kI_nat, kI_add, kI_mul, kI_sub, kI_div, kI_mod, kI_long, kL_add, kL_mul, kL_sub, kL_div, kL_mod, kL_int, n1_add, not_false_eq_true, not_true_eq_false, and_true, true_and, and_false, false_and, or_true, true_or, or_false, false_or, Nat.reduceEqDiff, IN, IM, sw_lo ℓ c, sw_hi ℓ c, sw_step ℓ c upd upd_if, e1]
        exact ih (i + 1) (by omega) (by omega)
      · simp (disch := omega) only [↓nm_eq, ↓bd_x, bdx_s, ↓bx_x, bxx_r, bxx_l, ↓bn_x, bnx_r, chk_t, ↓reduceIte, q32, q64, kI_lt_t, kI_lt_f, kI_le_t, kI_le_f, kI_eq_t, kI_eq_f, kL_lt_t, kL_lt_f, kL_le_t, kL_le_f, kL_eq_t, kL_eq_f, kI_m1, kI_m1', m1_m1, kI_n1, kI_n1', n1_add', eq_self, inb_t, kI_nat, kI_add, kI_mul, kI_sub, kI_div, kI_mod, kI_long, kL_add, kL_mul, kL_sub, kL_div, kL_mod, kL_int, n1_add, not_false_eq_true, not_true_eq_false, and_true, true_and, and_false, false_and, or_true, true_or, or_false, false_or, Nat.reduceEqDiff, IN, IM]
        rw [show i = N / 2 from by omega]
  have h0 := hl FUEL 0 (by omega) (by have : FUEL = 4096 := rfl; omega)
  rw [sw_0, Nat.sub_zero] at h0
  unfold Cf_B_swapEnds_n_fractions
  simp (disch := omega) only [↓nm_eq, ↓bd_x, bdx_s, ↓bx_x, bxx_r, bxx_l, ↓bn_x, bnx_r, chk_t, ↓reduceIte, q32, q64, kI_lt_t, kI_lt_f, kI_le_t, kI_le_f, kI_eq_t, kI_eq_f, kL_lt_t, kL_lt_f, kL_le_t, kL_le_f, kL_eq_t, kL_eq_f, kI_m1, kI_m1', m1_m1, kI_n1, kI_n1', n1_add', eq_self, inb_t, kI_nat, kI_add, kI_mul, kI_sub, kI_div, kI_mod, kI_long, kL_add, kL_mul, kL_sub, kL_div, kL_mod, kL_int, n1_add, not_false_eq_true, not_true_eq_false, and_true, true_and, and_false, false_and, or_true, true_or, or_false, false_or, Nat.reduceEqDiff, IN, IM, h0]
theorem ev_turnRound (hN : N ≤ 8) : ∃ ℓ' φ', Cf_B_turnRound_n (kI N) ℓ φ = some (ℓ', φ') ∧ (∀ j, j < N → ℓ' j = ℓ (N - 1 - j)) ∧ ∀ j, j < N → φ' j = if j + 1 < N then φ (N - 2 - j) else φ j := by
  unfold Cf_B_turnRound_n
  by_cases h0 : N = 0
  · subst h0
    refine ⟨ℓ, φ, ?_, fun j hj => by omega, fun j hj => by omega⟩
    rfl
  · by_cases h1 : N = 1
    · subst h1
      refine ⟨ℓ, φ, ?_, fun j hj => by rw [show j = 0 from by omega], fun j hj => by rw [if_neg (by omega)]⟩
      rfl
    · refine ⟨_, _, by simp (disch := omega) only [↓nm_eq, ↓bd_x, bdx_s, ↓bx_x, bxx_r, bxx_l, ↓bn_x, bnx_r, chk_t, ↓reduceIte, q32, q64, kI_lt_t, kI_lt_f, kI_le_t, kI_le_f, kI_eq_t, kI_eq_f, kL_lt_t, kL_lt_f, kL_le_t, kL_le_f, kL_eq_t, kL_eq_f, kI_m1, kI_m1', m1_m1, kI_n1, kI_n1', n1_add', eq_self, inb_t, kI_nat, kI_add, kI_mul, kI_sub, kI_div, kI_mod, kI_long, kL_add, kL_mul, kL_sub, kL_div, kL_mod, kL_int, n1_add, not_false_eq_true, not_true_eq_false, and_true, true_and, and_false, false_and, or_true, true_or, or_false, false_or, Nat.reduceEqDiff, IN, IM, ev_swapL1, ev_swapF1]; rfl, fun j hj => sw_end ℓ hj, fun j hj => ?_⟩
      by_cases q : j + 1 < N
      · rw [if_pos q, sw_end φ (by omega)]
        congr 1
      · rw [if_neg q, sw_out φ (by omega)]
end SW
