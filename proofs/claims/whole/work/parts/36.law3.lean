def AllSt (E : Nat → Nat → Nat) (T : Nat → ClassId) (x m o9 : Nat) (I : va_W → va_W → Prop) : Prop := St_addPart E T x m o9 I ∧ St_setPart E T x m o9 I ∧ St_removePart E T x m o9 I ∧ St_splitPart E T x m o9 I ∧ St_reverse E T x m o9 I ∧ St_setBench E T x m o9 I ∧ St_addPulse E T x m o9 I ∧ St_removePulse E T x m o9 I ∧ St_part E T x m o9 I ∧ St_bench E T x m o9 I ∧ St_echo E T x m o9 I ∧ St_echoTime E T x m o9 I ∧ St_total E T x m o9 I ∧ St_arrival E T x m o9 I ∧ St_echoByte E T x m o9 I ∧ St_keepSound E T x m o9 I ∧ St_differences E T x m o9 I ∧ St_fault E T x m o9 I ∧ St_observe E T x m o9 I ∧ St_setObserved E T x m o9 I ∧ St_observed E T x m o9 I ∧ St_peel E T x m o9 I ∧ St_found E T x m o9 I ∧ St_adopt E T x m o9 I ∧ St_type E T x m o9 I ∧ St_clearScript E T x m o9 I ∧ St_run E T x m o9 I ∧ St_undo E T x m o9 I ∧ St_digest E T x m o9 I
theorem and31 (x : Int32) : ∃ j : Nat, j < 32 ∧ (x &&& 31).toInt = (j : Int) := by
  have h1 : (x &&& 31).toBitVec.toNat ≤ 31 := by
    rw [Int32.toBitVec_and, BitVec.toNat_and]
    exact Nat.and_le_right
  refine ⟨(x &&& 31).toBitVec.toNat, by omega, ?_⟩
  have c := BitVec.toInt_eq_toNat_cond (x &&& 31).toBitVec
  have e : (x &&& 31).toInt = (x &&& 31).toBitVec.toInt := rfl
  rw [e]
  split at c <;> omega
theorem len4 {L : Nat} (hL : L ≤ 2048) : (Int32.ofNat L - 4).toInt = (L : Int) - 4 := by
  rw [Int32.toInt_sub, show (Int32.ofNat L).toInt = (L : Int) from Int32.toInt_ofNat_of_lt (by omega), show (4 : Int32).toInt = 4 from by decide]
  exact Int.bmod_eq_of_le (by omega) (by omega)
theorem add4 {i : Int32} {q : Nat} (hq : q ≤ 512) (hi : i.toInt = 4 * (q : Int)) : (i + 4).toInt = 4 * ((q + 1 : Nat) : Int) := by
  rw [Int32.toInt_add, hi, show (4 : Int32).toInt = 4 from by decide]
  rw [Int.bmod_eq_of_le (by omega) (by omega)]
  omega
set_option maxHeartbeats 4000000 in
theorem law_loop {X : CxT} {T : Nat → ClassId} {E : Nat → Nat → Nat} {b L x m o9 : Nat} {xs : Nat → Int32} {I : va_W → va_W → Prop} (C : Cx X (SFG E) T cL_law RL (some .boolean) 8 12 460) (hs : ScrOK X b L xs) (hcap : CapOK X 601024 7293034) (hL : L ≤ 2048) (hI : FirstOK x m I) (st : AllSt E T x m o9 I) (hend : ∀ k n ws lv, k ≤ 601024 → n ≤ 7293034 → V X k n ws lv 1642 []) :
    ∀ (f q : Nat) (i : Int32) (wl wr : va_W) (c : Nat → Int64), i.toInt = 4 * (q : Int) → q + f = 513 → I wl wr → V X (200 + q) (20000 + 6 * q) ((wl ++ [ocell o9 T c]) ++ wr) [(0, .ref b), (1, .ref x), (2, .ref m), (3, .ref o9), (4, .int i)] 23 [] := by
  intro f
  induction f with
  | zero =>
    intro q i wl wr c hi hf hinv
    refine v_iload 4 C dL_law_23 rfl ?_
    refine v_aload_n 0 C dL_law_25 rfl rfl ?_
    refine l_slen C hs dL_law_26 ?_
    refine v_iconst (v := 4) C dL_law_27 (by decide) ?_
    refine v_isub (K := fun z => z) (o := Int32.ofNat L - 4) C dL_law_28 rfl (fun z hz => ?_)
    subst hz
    refine v_icmp_gt (e1 := ()) (e2 := ()) (o := ()) 1642 C dL_law_29 (by decide) (by split <;> rfl) (fun h9 _ => ?_) (fun h9 _ => ?_)
    · exact hend _ _ _ _ (by omega) (by omega)
    have h8 : i.toInt ≤ (L : Int) - 4 := by
      have e := len4 hL
      rw [Int32.lt_iff_toInt_lt, e] at h9
      omega
    omega
  | succ f ih =>
    intro q i wl wr c hi hf hinv
    refine v_iload 4 C dL_law_23 rfl ?_
    refine v_aload_n 0 C dL_law_25 rfl rfl ?_
    refine l_slen C hs dL_law_26 ?_
    refine v_iconst (v := 4) C dL_law_27 (by decide) ?_
    refine v_isub (K := fun z => z) (o := Int32.ofNat L - 4) C dL_law_28 rfl (fun z hz => ?_)
    subst hz
    refine v_icmp_gt (e1 := ()) (e2 := ()) (o := ()) 1642 C dL_law_29 (by decide) (by split <;> rfl) (fun h9 _ => ?_) (fun h9 _ => ?_)
    · exact hend _ _ _ _ (by omega) (by omega)
    have h8 : i.toInt ≤ (L : Int) - 4 := by
      have e := len4 hL
      rw [Int32.lt_iff_toInt_lt, e] at h9
      omega
    refine v_aload_n 0 C dL_law_32 rfl rfl ?_
    refine v_iload 4 C dL_law_33 rfl ?_
    refine l_sld C hs (vp_in_iff.mpr ⟨by omega, by omega⟩) dL_law_35 ?_
    refine v_bipush (v := 31) C dL_law_36 (by decide) ?_
    refine v_iand (K := fun z => z) (o := (xs i.toNatClampNeg) &&& 31) C dL_law_38 rfl (fun z hz => ?_)
    subst hz
    have kk : ∀ wl' wr' c', I wl' wr' → V X (200 + q + 1) (20000 + 6 * q + 6) ((wl' ++ [ocell o9 T c']) ++ wr') [(0, .ref b), (1, .ref x), (2, .ref m), (3, .ref o9), (4, .int i)] 1636 [] := fun wl' wr' c' hi9 => by
      refine v_iinc (j := 4) (K := fun z => z) (o := i + 4) (dv := 4) (fun v => [(0, .ref b), (1, .ref x), (2, .ref m), (3, .ref o9), (4, .int v)]) [1, 2, 3, 4, 0] C dL_law_1636 rfl (by decide) (by decide) (fun v => rfl) rfl (fun v hv => ?_)
      subst hv
      refine v_goto 23 C dL_law_1639 (by decide) ?_
      refine v_widen (k' := 200 + (q + 1)) (n' := 20000 + 6 * (q + 1)) (by omega) (by omega) ?_
      exact ih (q + 1) (i + 4) wl' wr' c' (add4 (by omega) hi) (by omega) hi9
    have hcap9 : CapOK X (200 + q + 1) (20000 + 6 * q + 6) := hcap.mono (by omega) (by omega)
    obtain ⟨j, hj, ej⟩ := and31 (xs i.toNatClampNeg)
    have hdef : 28 < j → V X (200 + q) (20000 + 6 * q) ((wl ++ [ocell o9 T c]) ++ wr) [(0, .ref b), (1, .ref x), (2, .ref m), (3, .ref o9), (4, .int i)] 39 [.int ((xs i.toNatClampNeg) &&& 31)] := fun h => v_tableOut 1636 C dL_law_39 (Or.inr (by rw [ej]; omega)) (by decide) (v_widen (by omega) (by omega) (kk _ _ _ hinv))
    rcases (show j = 0 ∨ j = 1 ∨ j = 2 ∨ j = 3 ∨ j = 4 ∨ j = 5 ∨ j = 6 ∨ j = 7 ∨ j = 8 ∨ j = 9 ∨ j = 10 ∨ j = 11 ∨ j = 12 ∨ j = 13 ∨ j = 14 ∨ j = 15 ∨ j = 16 ∨ j = 17 ∨ j = 18 ∨ j = 19 ∨ j = 20 ∨ j = 21 ∨ j = 22 ∨ j = 23 ∨ j = 24 ∨ j = 25 ∨ j = 26 ∨ j = 27 ∨ j = 28 ∨ 28 < j by omega) with rfl | rfl | rfl | rfl | rfl | rfl | rfl | rfl | rfl | rfl | rfl | rfl | rfl | rfl | rfl | rfl | rfl | rfl | rfl | rfl | rfl | rfl | rfl | rfl | rfl | rfl | rfl | rfl | rfl | hj9
    · exact v_tableIn (off := 129) 168 C dL_law_39 (by rw [ej]; decide) (by rw [ej]; decide) (by rw [ej]; rfl) (by decide) (Lk_addPart C hs hcap9 hI hinv (by omega) (by omega) hL st.1 kk)
    · exact v_tableIn (off := 197) 236 C dL_law_39 (by rw [ej]; decide) (by rw [ej]; decide) (by rw [ej]; rfl) (by decide) (Lk_setPart C hs hcap9 hI hinv (by omega) (by omega) hL st.2.1 kk)
    · exact v_tableIn (off := 277) 316 C dL_law_39 (by rw [ej]; decide) (by rw [ej]; decide) (by rw [ej]; rfl) (by decide) (Lk_removePart C hs hcap9 hI hinv (by omega) (by omega) hL st.2.2.1 kk)
    · exact v_tableIn (off := 333) 372 C dL_law_39 (by rw [ej]; decide) (by rw [ej]; decide) (by rw [ej]; rfl) (by decide) (Lk_splitPart C hs hcap9 hI hinv (by omega) (by omega) hL st.2.2.2.1 kk)
    · exact v_tableIn (off := 413) 452 C dL_law_39 (by rw [ej]; decide) (by rw [ej]; decide) (by rw [ej]; rfl) (by decide) (Lk_reverse C hs hcap9 hI hinv (by omega) (by omega) hL st.2.2.2.2.1 kk)
    · exact v_tableIn (off := 426) 465 C dL_law_39 (by rw [ej]; decide) (by rw [ej]; decide) (by rw [ej]; rfl) (by decide) (Lk_setBench C hs hcap9 hI hinv (by omega) (by omega) hL st.2.2.2.2.2.1 kk)
    · exact v_tableIn (off := 506) 545 C dL_law_39 (by rw [ej]; decide) (by rw [ej]; decide) (by rw [ej]; rfl) (by decide) (Lk_addPulse C hs hcap9 hI hinv (by omega) (by omega) hL st.2.2.2.2.2.2.1 kk)
    · exact v_tableIn (off := 574) 613 C dL_law_39 (by rw [ej]; decide) (by rw [ej]; decide) (by rw [ej]; rfl) (by decide) (Lk_removePulse C hs hcap9 hI hinv (by omega) (by omega) hL st.2.2.2.2.2.2.2.1 kk)
    · exact v_tableIn (off := 630) 669 C dL_law_39 (by rw [ej]; decide) (by rw [ej]; decide) (by rw [ej]; rfl) (by decide) (Lk_part C hs hcap9 hI hinv (by omega) (by omega) hL st.2.2.2.2.2.2.2.2.1 kk)
    · exact v_tableIn (off := 698) 737 C dL_law_39 (by rw [ej]; decide) (by rw [ej]; decide) (by rw [ej]; rfl) (by decide) (Lk_bench C hs hcap9 hI hinv (by omega) (by omega) hL st.2.2.2.2.2.2.2.2.2.1 kk)
    · exact v_tableIn (off := 754) 793 C dL_law_39 (by rw [ej]; decide) (by rw [ej]; decide) (by rw [ej]; rfl) (by decide) (Lk_echo C hs hcap9 hI hinv (by omega) (by omega) hL st.2.2.2.2.2.2.2.2.2.2.1 kk)
    · exact v_tableIn (off := 809) 848 C dL_law_39 (by rw [ej]; decide) (by rw [ej]; decide) (by rw [ej]; rfl) (by decide) (Lk_echoTime C hs hcap9 hI hinv (by omega) (by omega) hL st.2.2.2.2.2.2.2.2.2.2.2.1 kk)
    · exact v_tableIn (off := 865) 904 C dL_law_39 (by rw [ej]; decide) (by rw [ej]; decide) (by rw [ej]; rfl) (by decide) (Lk_total C hs hcap9 hI hinv (by omega) (by omega) hL st.2.2.2.2.2.2.2.2.2.2.2.2.1 kk)
    · exact v_tableIn (off := 920) 959 C dL_law_39 (by rw [ej]; decide) (by rw [ej]; decide) (by rw [ej]; rfl) (by decide) (Lk_arrival C hs hcap9 hI hinv (by omega) (by omega) hL st.2.2.2.2.2.2.2.2.2.2.2.2.2.1 kk)
    · exact v_tableIn (off := 1015) 1054 C dL_law_39 (by rw [ej]; decide) (by rw [ej]; decide) (by rw [ej]; rfl) (by decide) (Lk_echoByte C hs hcap9 hI hinv (by omega) (by omega) hL st.2.2.2.2.2.2.2.2.2.2.2.2.2.2.1 kk)
    · exact v_tableIn (off := 1071) 1110 C dL_law_39 (by rw [ej]; decide) (by rw [ej]; decide) (by rw [ej]; rfl) (by decide) (Lk_keepSound C hs hcap9 hI hinv (by omega) (by omega) hL st.2.2.2.2.2.2.2.2.2.2.2.2.2.2.2.1 kk)
    · exact v_tableIn (off := 1084) 1123 C dL_law_39 (by rw [ej]; decide) (by rw [ej]; decide) (by rw [ej]; rfl) (by decide) (Lk_differences C hs hcap9 hI hinv (by omega) (by omega) hL st.2.2.2.2.2.2.2.2.2.2.2.2.2.2.2.2.1 kk)
    · exact v_tableIn (off := 1097) 1136 C dL_law_39 (by rw [ej]; decide) (by rw [ej]; decide) (by rw [ej]; rfl) (by decide) (Lk_fault C hs hcap9 hI hinv (by omega) (by omega) hL st.2.2.2.2.2.2.2.2.2.2.2.2.2.2.2.2.2.1 kk)
    · exact v_tableIn (off := 1153) 1192 C dL_law_39 (by rw [ej]; decide) (by rw [ej]; decide) (by rw [ej]; rfl) (by decide) (Lk_observe C hs hcap9 hI hinv (by omega) (by omega) hL st.2.2.2.2.2.2.2.2.2.2.2.2.2.2.2.2.2.2.1 kk)
    · exact v_tableIn (off := 1166) 1205 C dL_law_39 (by rw [ej]; decide) (by rw [ej]; decide) (by rw [ej]; rfl) (by decide) (Lk_setObserved C hs hcap9 hI hinv (by omega) (by omega) hL st.2.2.2.2.2.2.2.2.2.2.2.2.2.2.2.2.2.2.2.1 kk)
    · exact v_tableIn (off := 1265) 1304 C dL_law_39 (by rw [ej]; decide) (by rw [ej]; decide) (by rw [ej]; rfl) (by decide) (Lk_observed C hs hcap9 hI hinv (by omega) (by omega) hL st.2.2.2.2.2.2.2.2.2.2.2.2.2.2.2.2.2.2.2.2.1 kk)
    · exact v_tableIn (off := 1320) 1359 C dL_law_39 (by rw [ej]; decide) (by rw [ej]; decide) (by rw [ej]; rfl) (by decide) (Lk_peel C hs hcap9 hI hinv (by omega) (by omega) hL st.2.2.2.2.2.2.2.2.2.2.2.2.2.2.2.2.2.2.2.2.2.1 kk)
    · exact v_tableIn (off := 1376) 1415 C dL_law_39 (by rw [ej]; decide) (by rw [ej]; decide) (by rw [ej]; rfl) (by decide) (Lk_found C hs hcap9 hI hinv (by omega) (by omega) hL st.2.2.2.2.2.2.2.2.2.2.2.2.2.2.2.2.2.2.2.2.2.2.1 kk)
    · exact v_tableIn (off := 1444) 1483 C dL_law_39 (by rw [ej]; decide) (by rw [ej]; decide) (by rw [ej]; rfl) (by decide) (Lk_adopt C hs hcap9 hI hinv (by omega) (by omega) hL st.2.2.2.2.2.2.2.2.2.2.2.2.2.2.2.2.2.2.2.2.2.2.2.1 kk)
    · exact v_tableIn (off := 1457) 1496 C dL_law_39 (by rw [ej]; decide) (by rw [ej]; decide) (by rw [ej]; rfl) (by decide) (Lk_type C hs hcap9 hI hinv (by omega) (by omega) hL st.2.2.2.2.2.2.2.2.2.2.2.2.2.2.2.2.2.2.2.2.2.2.2.2.1 kk)
    · exact v_tableIn (off := 1513) 1552 C dL_law_39 (by rw [ej]; decide) (by rw [ej]; decide) (by rw [ej]; rfl) (by decide) (Lk_clearScript C hs hcap9 hI hinv (by omega) (by omega) hL st.2.2.2.2.2.2.2.2.2.2.2.2.2.2.2.2.2.2.2.2.2.2.2.2.2.1 kk)
    · exact v_tableIn (off := 1526) 1565 C dL_law_39 (by rw [ej]; decide) (by rw [ej]; decide) (by rw [ej]; rfl) (by decide) (Lk_run C hs hcap9 hI hinv (by omega) (by omega) hL st.2.2.2.2.2.2.2.2.2.2.2.2.2.2.2.2.2.2.2.2.2.2.2.2.2.2.1 kk)
    · exact v_tableIn (off := 1539) 1578 C dL_law_39 (by rw [ej]; decide) (by rw [ej]; decide) (by rw [ej]; rfl) (by decide) (Lk_undo C hs hcap9 hI hinv (by omega) (by omega) hL st.2.2.2.2.2.2.2.2.2.2.2.2.2.2.2.2.2.2.2.2.2.2.2.2.2.2.2.1 kk)
    · exact v_tableIn (off := 1583) 1622 C dL_law_39 (by rw [ej]; decide) (by rw [ej]; decide) (by rw [ej]; rfl) (by decide) (Lk_digest C hs hcap9 hI hinv (by omega) (by omega) hL st.2.2.2.2.2.2.2.2.2.2.2.2.2.2.2.2.2.2.2.2.2.2.2.2.2.2.2.2 kk)
    · exact hdef hj9
