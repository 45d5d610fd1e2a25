section CW4
variable {n : Nat} {ln fq : Nat → Nat} {ls : Nat} {np : Nat} {pt pe : Nat → Nat} {win : Nat} {b0 : Nat → Nat}
theorem ev_pulses {T e0 c0 : Nat} (hP : POK np pt pe) (hT : T ≤ 200) (he : e0 ≤ 4000000) (hc : c0 ≤ 1) {ptc pec : Nat → Int32} (h1 : ∀ i, i < np → ptc i = kI (pt i)) (h2 : ∀ i, i < np → pec i = kI (pe i)) :
    Cl_W_meetFront_w_n_46 (kI np) ptc pec (kI T) FUEL (kL e0) (kI c0) 0 = some (kL (e0 + puP np pt pe T), kI (c0 + pcP np pt T)) := by
  have hn := hP.1
  obtain ⟨a, g1, g2⟩ := loop_gen (L := fun fu (s : Int64 × Int32) x => Cl_W_meetFront_w_n_46 (kI np) ptc pec (kI T) fu s.1 s.2 x) (fun k s => s = (kL (e0 + sm (fun i => if pt i = T then pe i else 0) k), kI (c0 + sm (fun i => if pt i = T then 1 else 0) k))) (fun s => s = (kL (e0 + puP np pt pe T), kI (c0 + pcP np pt T))) np (fun fu k s hk hs => by
      have hb := hP.2 k hk
      subst hs
      refine Or.inr ⟨_, ?_, rfl⟩
      simp only [Cl_W_meetFront_w_n_46, nm_eq, Cf_W_meetFront_w_n_82]
      rw [if_neg (by rw [kI_le (by omega) (by omega)]; omega), chk_true ((inb_kI (by omega)).mpr (by omega)), kI_nat (by omega), h1 k hk, h2 k hk]
      by_cases c : pt k = T
      · rw [if_pos (by rw [c]), chk_true ((inb_kI (by omega)).mpr (by omega)), kI_long (by omega), kL_add, q32_1, kI_add, kI_add]
        simp only [sm]
        rw [if_pos c, if_pos c, Nat.add_assoc, Nat.add_assoc]
      · rw [if_neg (by rw [kI_eq (by omega) (by omega)]; exact c), q32_1, kI_add]
        simp only [sm]
        rw [if_neg c, if_neg c]
        rfl)
    (fun fu s hs => ⟨s, by simp only [Cl_W_meetFront_w_n_46]; rw [if_pos (by rw [kI_le (by omega) (by omega)]; omega)], hs⟩) FUEL 0 (kL e0, kI c0) (by have : FUEL = 4096 := rfl; omega) (by omega) rfl
  rw [g2] at g1
  rw [q32_0]
  exact g1
theorem AN0 (t : Nat) (pu : Nat → Nat) : AN n ln fq ls pu 0 t = 0 := by
  unfold AN aN
  rw [if_neg (by omega)]
theorem ev_front (hL : LOK n ln fq ls (puP np pt pe)) (hP : POK np pt pe) (hn0 : 0 < n) (hw : win ≤ 200) {T : Nat} (hT : T ≤ win) {ℓc ptc pec : Nat → Int32} (hℓ : ∀ k, k < n → ℓc k = kI (ln k)) (h1 : ∀ i, i < np → ptc i = kI (pt i)) (h2 : ∀ i, i < np → pec i = kI (pe i)) {cN cF : Nat → Nat → Int64} {ech tot : Nat → Int64}
    (h : CWI n ln fq ls (puP np pt pe) (pcP np pt) win b0 T 0 cN cF ech tot) : ∃ cN' cF' ech' tot', Cf_W_meetFront_w_n (kI (fq 0)) (kI ls) (kI win) (kI np) ℓc ptc pec cN cF ech tot (kI T) = some (cN', cF', ech', tot') ∧ CWI n ln fq ls (puP np pt pe) (pcP np pt) win b0 T 1 cN' cF' ech' tot' := by
  have hl1 := hL.l1
  obtain ⟨hn, hll, hff, hls, hPs⟩ := id hL
  obtain ⟨g1, g2, g3, g4⟩ := h
  have eF : cF 0 T = kL (AF n ln fq ls (puP np pt pe) 0 T) := by rw [g2 0 T (by omega) (by omega), if_pos hT, aF_read hl1]
  have bF := AF_le (ls := ls) hl1 hff hPs 0 T
  have c2 := bk_le (a := AF n ln fq ls (puP np pt pe) 0 T) (hff 0)
  have bpu := puP_le hP (Nat.le_refl np) T
  have bpc := pcP_le (np := np) (pt := pt) T np
  have hn4 := hP.1
  have eGF : GF n ln fq ls (puP np pt pe) 0 T = bk (AF n ln fq ls (puP np pt pe) 0 T) (fq 0) + puP np pt pe T := by
    unfold GF
    rw [AN0, bk_zero, if_pos rfl]
    omega
  have main : ∀ s0 : Nat, s0 = (if 0 < bk (AF n ln fq ls (puP np pt pe) 0 T) (fq 0) then 1 else 0) → ∃ cN' cF' ech' tot', Cf_W_meetFront_w_n_31 (kI ls) (kI win) (kI np) ℓc ptc pec cN cF ech tot (kI T) (kL (AF n ln fq ls (puP np pt pe) 0 T)) (kL (bk (AF n ln fq ls (puP np pt pe) 0 T) (fq 0))) (kI s0) = some (cN', cF', ech', tot') ∧ CWI n ln fq ls (puP np pt pe) (pcP np pt) win b0 T 1 cN' cF' ech' tot' := by
    intro s0 hs0
    have hs1 : s0 ≤ 1 := by rw [hs0]; split <;> omega
    unfold Cf_W_meetFront_w_n_31
    simp only [nm_eq]
    rw [chk_true ((inb_kI (by omega)).mpr (by omega)), kL_sub c2, kI_nat (by omega), ev_pulses hP (by omega) (by omega) hs1 h1 h2, bd_s]
    dsimp only
    have fin : ∀ tot1 : Nat → Int64, (∀ i, tot1 i = tot i + kL (if i = 5 then mF n ln fq ls (puP np pt pe) (pcP np pt) 0 T else 0)) → ∃ cN' cF' ech' tot', Cf_W_meetFront_w_n_104 (kI ls) (kI win) ℓc cN cF (vp_updL ech T (kL (AF n ln fq ls (puP np pt pe) 0 T - bk (AF n ln fq ls (puP np pt pe) 0 T) (fq 0)))) tot1 (kI T) (kL (bk (AF n ln fq ls (puP np pt pe) 0 T) (fq 0) + puP np pt pe T)) = some (cN', cF', ech', tot') ∧ CWI n ln fq ls (puP np pt pe) (pcP np pt) win b0 T 1 cN' cF' ech' tot' := by
      intro tot1 ht1
      unfold Cf_W_meetFront_w_n_104
      rw [← eGF]
      have bG := GF0_le hL T
      obtain ⟨cN1, t4, e4, f4, m4⟩ := ev_setOutF (ls := ls) (win := win) (k := 0) (t := T) (e := GF n ln fq ls (puP np pt pe) 0 T) (ℓc := ℓc) (ln := ln) (cN := cN) (cF := cF) (tot := tot1) (by omega) (hℓ _ hn0) (hll _ hn0).2 hls hw (by omega) (by omega)
      rw [q32_0, e4, bd_s]
      refine ⟨_, _, _, _, rfl, fun j' t' a1 a2 => ?_, fun j' t' a1 a2 => ?_, fun t ht => ?_, fun i hi => ?_⟩
      · rw [f4 j' t', g1 j' t' a1 a2, aN_step hn0, Fa_eq hl1, if_pos hn0]
        exact put_eq aN_old
      · rw [g2 j' t' a1 a2, aF_step0]
      · by_cases e : t = T
        · subst e
          rw [up_at, if_pos (Or.inr ⟨rfl, by omega⟩)]
          rfl
        · rw [up_ne e, g3 t ht]
          by_cases e2 : t < T
          · rw [if_pos (Or.inl e2), if_pos (Or.inl e2)]
          · rw [if_neg (by omega), if_neg (by omega)]
      · have eD : dJ n ln fq ls (puP np pt pe) (pcP np pt) win 0 T i = dSet ls win (T + ln 0) (GF n ln fq ls (puP np pt pe) 0 T) i + (if i = 5 then mF n ln fq ls (puP np pt pe) (pcP np pt) 0 T else 0) := by
          unfold dJ dN dF dL
          rw [if_neg (show ¬ 1 ≤ 0 by omega), if_pos hn0, if_neg (show ¬ (i = 2 ∧ 0 = n) by omega)]
          omega
        rw [tt_succ, eD, m4, ht1, g4 i hi, kL_add, kL_add]
        congr 1
        omega
    have hm : mF n ln fq ls (puP np pt pe) (pcP np pt) 0 T = if 1 < s0 + pcP np pt T then 1 else 0 := by
      unfold mF
      rw [if_pos rfl, hs0]
    have bpc' : pcP np pt T ≤ np := bpc
    by_cases c : s0 + pcP np pt T ≤ 1
    · rw [if_pos (by rw [q32_1, kI_le (by omega) (by omega)]; exact c)]
      refine fin tot (fun i => ?_)
      rw [hm, if_neg (show ¬ 1 < s0 + pcP np pt T by omega)]
      by_cases e : i = 5
      · rw [if_pos e, kL0_add]
      · rw [if_neg e, kL0_add]
    · rw [if_neg (by rw [q32_1, kI_le (by omega) (by omega)]; exact c), chk_true (by decide), chk_true (by decide), t32_5]
      refine fin _ (fun i => ?_)
      rw [hm, if_pos (show 1 < s0 + pcP np pt T by omega)]
      by_cases e : i = 5
      · subst e
        rw [up_at, if_pos rfl]
        rfl
      · rw [up_ne e, if_neg e, kL0_add]
  unfold Cf_W_meetFront_w_n
  rw [chk_true (by decide), chk_true ((inb_kI (by omega)).mpr (by omega)), nm_eq, t32_0, kI_nat (by omega), eF, ev_back (by omega) (hff 0), bd_s]
  by_cases c : bk (AF n ln fq ls (puP np pt pe) 0 T) (fq 0) = 0
  · rw [if_pos (by rw [q64_0, kL_le (by omega) (by omega)]; omega), q32_0]
    exact main 0 (by rw [if_neg (by omega)])
  · rw [if_neg (by rw [q64_0, kL_le (by omega) (by omega)]; omega), q32_1]
    exact main 1 (by rw [if_pos (by omega)])
theorem ev_joints (hL : LOK n ln fq ls (puP np pt pe)) (hw : win ≤ 200) {T : Nat} (hT : T ≤ win) {ℓc φc : Nat → Int32} (hℓ : ∀ k, k < n → ℓc k = kI (ln k)) (hφ : ∀ k, k < n → φc k = kI (fq (k + 1))) {cN cF : Nat → Nat → Int64} {ech tot : Nat → Int64} (h : CWI n ln fq ls (puP np pt pe) (pcP np pt) win b0 T 1 cN cF ech tot) :
    ∃ cN' cF' tot', Cl_W_spread_w_n_47 (kI n) (kI ls) (kI win) ℓc φc (kI T) FUEL cN cF tot 1 = some (cN', cF', tot') ∧ CWI n ln fq ls (puP np pt pe) (pcP np pt) win b0 T (n + 1) cN' cF' ech tot' := by
  have hn := hL.1
  obtain ⟨⟨a, b, c⟩, g1, g2⟩ := loop_gen (L := fun fu (s : (Nat → Nat → Int64) × (Nat → Nat → Int64) × (Nat → Int64)) x => Cl_W_spread_w_n_47 (kI n) (kI ls) (kI win) ℓc φc (kI T) fu s.1 s.2.1 s.2.2 x) (fun j s => 1 ≤ j ∧ CWI n ln fq ls (puP np pt pe) (pcP np pt) win b0 T j s.1 s.2.1 ech s.2.2) (fun s => CWI n ln fq ls (puP np pt pe) (pcP np pt) win b0 T (n + 1) s.1 s.2.1 ech s.2.2) (n + 1) (fun fu j s hj hs => by
      obtain ⟨a, b, c, e1, e2⟩ := ev_joint hL hw hT hs.1 (by omega) hℓ hφ hs.2
      refine Or.inr ⟨(a, b, c), ?_, by omega, e2⟩
      simp only [Cl_W_spread_w_n_47]
      rw [if_neg (by rw [kI_lt (by omega) (by omega)]; omega), e1, bd_s, nm_eq, q32_1, kI_add])
    (fun fu s hs => ⟨s, by simp only [Cl_W_spread_w_n_47]; rw [if_pos (by rw [kI_lt (by omega) (by omega)]; omega)], hs.2⟩) FUEL 1 (cN, cF, tot) (by have : FUEL = 4096 := rfl; omega) (by omega) ⟨by omega, h⟩
  exact ⟨a, b, c, by rw [q32_1]; exact g1, g2⟩
theorem ev_times (hL : LOK n ln fq ls (puP np pt pe)) (hP : POK np pt pe) (hn0 : 0 < n) (hw : win ≤ 200) {ℓc φc ptc pec : Nat → Int32} (hℓ : ∀ k, k < n → ℓc k = kI (ln k)) (hφ : ∀ k, k < n → φc k = kI (fq (k + 1))) (h1 : ∀ i, i < np → ptc i = kI (pt i)) (h2 : ∀ i, i < np → pec i = kI (pe i)) {cN cF : Nat → Nat → Int64} {ech tot : Nat → Int64}
    (h : CWI n ln fq ls (puP np pt pe) (pcP np pt) win b0 0 0 cN cF ech tot) : ∃ cN' cF' ech' tot', Cl_W_spread_w_n_31 (kI n) (kI (fq 0)) (kI ls) (kI win) (kI np) ℓc φc ptc pec FUEL cN cF ech tot 0 = some (cN', cF', ech', tot') ∧ CWI n ln fq ls (puP np pt pe) (pcP np pt) win b0 (win + 1) 0 cN' cF' ech' tot' := by
  obtain ⟨⟨a, b, c, d⟩, g1, g2⟩ := loop_gen (L := fun fu (s : (Nat → Nat → Int64) × (Nat → Nat → Int64) × (Nat → Int64) × (Nat → Int64)) x => Cl_W_spread_w_n_31 (kI n) (kI (fq 0)) (kI ls) (kI win) (kI np) ℓc φc ptc pec fu s.1 s.2.1 s.2.2.1 s.2.2.2 x) (fun T s => CWI n ln fq ls (puP np pt pe) (pcP np pt) win b0 T 0 s.1 s.2.1 s.2.2.1 s.2.2.2) (fun s => CWI n ln fq ls (puP np pt pe) (pcP np pt) win b0 (win + 1) 0 s.1 s.2.1 s.2.2.1 s.2.2.2) (win + 1) (fun fu T s hT hs => by
      obtain ⟨a, b, c, d, e1, e2⟩ := ev_front hL hP hn0 hw (show T ≤ win by omega) hℓ h1 h2 hs
      obtain ⟨a', b', d', e3, e4⟩ := ev_joints hL hw (show T ≤ win by omega) hℓ hφ e2
      refine Or.inr ⟨(a', b', c, d'), ?_, e4.next⟩
      simp only [Cl_W_spread_w_n_31]
      rw [if_neg (by rw [kI_lt (by omega) (by omega)]; omega), e1, bd_s]
      dsimp only
      rw [e3, bd_s, nm_eq, q32_1, kI_add])
    (fun fu s hs => ⟨s, by simp only [Cl_W_spread_w_n_31]; rw [if_pos (by rw [kI_lt (by omega) (by omega)]; omega)], hs⟩) FUEL 0 (cN, cF, ech, tot) (by have : FUEL = 4096 := rfl; omega) (by omega) h
  exact ⟨a, b, c, d, by rw [q32_0]; exact g1, g2⟩
end CW4
