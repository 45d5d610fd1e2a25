theorem va_eqr {args : Array Value} {s : State} {t u : Term} {a : Nat} (h : (Cond.eq t u).before args s = true) (hu : u.eval args s none [] s = some (.ref a)) : t.eval args s none [] s = some (.ref a) := by
  cases hv : t.eval args s none [] s with
  | none => simp [Cond.before, Cond.holds, Cond.value, hv] at h
  | some w =>
    simp only [Cond.before, Cond.holds, Cond.value, hv, hu] at h
    cases w <;> simp_all
theorem va_Z.same {C n d : String} {v v' : Value} {A : Nat → Prop} {U : State} {H : Heap} (h : va_Z C n d v A U H) (h' : va_Z C n d v' A U H) : v = v' := by
  obtain ⟨cf, kf, fi, f, a, cell, e1, e2, e3, e4, e5, e6, e7, -⟩ := h
  obtain ⟨cf', kf', fi', f', a', cell', g1, g2, g3, g4, g5, g6, g7, -⟩ := h'
  rw [e1] at g1
  cases g1
  rw [e4] at g4
  cases g4
  rw [e5] at g5
  cases g5
  rw [e7] at g7
  cases g7
  rfl
set_option maxHeartbeats 2000000 in
theorem st_comm {args : Array Value} {s : State} {A : Nat → Prop} (hts : ∀ w ∈ lw_tbl, w.before args s = true) (hs : ∀ w ∈ flatC (Jvm.Cond.and given_1 narrow_1), w.before args s = true) (hA : ∀ a : Nat, a < s.heap.size → ¬ A a) : ∃ ad : Nat → Nat, va_En "LineEchoes$Command" "LLineEchoes$Command;" cmdNm cmdF ad A s s.heap := by
  refine va_Enof (fun i hi => ?_) (hts _ (seg1 (List.mem_of_getElem? (i := 7) rfl))) (fun i hi => ?_) (fun q hq i hi => ?_) (fun i j hi hj hij => ?_) hA
  · have hi : i < 8 := hi
    rcases (show i = 0 ∨ i = 1 ∨ i = 2 ∨ i = 3 ∨ i = 4 ∨ i = 5 ∨ i = 6 ∨ i = 7 by omega) with rfl | rfl | rfl | rfl | rfl | rfl | rfl | rfl
    · exact (hts _ (seg1 (List.mem_of_getElem? (i := 143) rfl)))
    · exact (hts _ (seg4 (List.mem_of_getElem? (i := 51) rfl)))
    · exact (hts _ (seg4 (List.mem_of_getElem? (i := 60) rfl)))
    · exact (hts _ (seg4 (List.mem_of_getElem? (i := 69) rfl)))
    · exact (hts _ (seg4 (List.mem_of_getElem? (i := 87) rfl)))
    · exact (hts _ (seg2 (List.mem_of_getElem? (i := 54) rfl)))
    · exact (hts _ (seg2 (List.mem_of_getElem? (i := 196) rfl)))
    · exact (hts _ (seg2 (List.mem_of_getElem? (i := 202) rfl)))
  · have hi : i < 8 := hi
    rcases (show i = 0 ∨ i = 1 ∨ i = 2 ∨ i = 3 ∨ i = 4 ∨ i = 5 ∨ i = 6 ∨ i = 7 by omega) with rfl | rfl | rfl | rfl | rfl | rfl | rfl | rfl
    · exact (hs _ (List.mem_of_getElem? (i := 4) (by decide +kernel)))
    · exact (hs _ (List.mem_of_getElem? (i := 87) (by decide +kernel)))
    · exact (hs _ (List.mem_of_getElem? (i := 99) (by decide +kernel)))
    · exact (hs _ (List.mem_of_getElem? (i := 112) (by decide +kernel)))
    · exact (hs _ (List.mem_of_getElem? (i := 126) (by decide +kernel)))
    · exact (hs _ (List.mem_of_getElem? (i := 8) (by decide +kernel)))
    · exact (hs _ (List.mem_of_getElem? (i := 24) (by decide +kernel)))
    · exact (hs _ (List.mem_of_getElem? (i := 30) (by decide +kernel)))
  · have hi : i < 8 := hi
    rcases List.mem_cons.mp hq with rfl | hq
    · rcases (show i = 0 ∨ i = 1 ∨ i = 2 ∨ i = 3 ∨ i = 4 ∨ i = 5 ∨ i = 6 ∨ i = 7 by omega) with rfl | rfl | rfl | rfl | rfl | rfl | rfl | rfl
      · exact (hs _ (List.mem_of_getElem? (i := 5) (by decide +kernel)))
      · exact (hs _ (List.mem_of_getElem? (i := 88) (by decide +kernel)))
      · exact (hs _ (List.mem_of_getElem? (i := 100) (by decide +kernel)))
      · exact (hs _ (List.mem_of_getElem? (i := 113) (by decide +kernel)))
      · exact (hs _ (List.mem_of_getElem? (i := 127) (by decide +kernel)))
      · exact (hs _ (List.mem_of_getElem? (i := 9) (by decide +kernel)))
      · exact (hs _ (List.mem_of_getElem? (i := 25) (by decide +kernel)))
      · exact (hs _ (List.mem_of_getElem? (i := 31) (by decide +kernel)))
    · rcases List.mem_singleton.mp hq with rfl
      rcases (show i = 0 ∨ i = 1 ∨ i = 2 ∨ i = 3 ∨ i = 4 ∨ i = 5 ∨ i = 6 ∨ i = 7 by omega) with rfl | rfl | rfl | rfl | rfl | rfl | rfl | rfl
      · exact (hs _ (List.mem_of_getElem? (i := 7) (by decide +kernel)))
      · exact (hs _ (List.mem_of_getElem? (i := 90) (by decide +kernel)))
      · exact (hs _ (List.mem_of_getElem? (i := 102) (by decide +kernel)))
      · exact (hs _ (List.mem_of_getElem? (i := 115) (by decide +kernel)))
      · exact (hs _ (List.mem_of_getElem? (i := 129) (by decide +kernel)))
      · exact (hs _ (List.mem_of_getElem? (i := 11) (by decide +kernel)))
      · exact (hs _ (List.mem_of_getElem? (i := 27) (by decide +kernel)))
      · exact (hs _ (List.mem_of_getElem? (i := 33) (by decide +kernel)))
  · have hi : i < 8 := hi
    have hj : j < 8 := hj
    rcases (show i = 0 ∨ i = 1 ∨ i = 2 ∨ i = 3 ∨ i = 4 ∨ i = 5 ∨ i = 6 ∨ i = 7 by omega) with rfl | rfl | rfl | rfl | rfl | rfl | rfl | rfl <;> rcases (show j = 0 ∨ j = 1 ∨ j = 2 ∨ j = 3 ∨ j = 4 ∨ j = 5 ∨ j = 6 ∨ j = 7 by omega) with rfl | rfl | rfl | rfl | rfl | rfl | rfl | rfl
    · exact absurd rfl hij
    · exact Or.inl (hs _ (List.mem_of_getElem? (i := 91) (by decide +kernel)))
    · exact Or.inl (hs _ (List.mem_of_getElem? (i := 103) (by decide +kernel)))
    · exact Or.inl (hs _ (List.mem_of_getElem? (i := 116) (by decide +kernel)))
    · exact Or.inl (hs _ (List.mem_of_getElem? (i := 130) (by decide +kernel)))
    · exact Or.inl (hs _ (List.mem_of_getElem? (i := 12) (by decide +kernel)))
    · exact Or.inl (hs _ (List.mem_of_getElem? (i := 28) (by decide +kernel)))
    · exact Or.inl (hs _ (List.mem_of_getElem? (i := 34) (by decide +kernel)))
    · exact Or.inr (hs _ (List.mem_of_getElem? (i := 91) (by decide +kernel)))
    · exact absurd rfl hij
    · exact Or.inl (hs _ (List.mem_of_getElem? (i := 111) (by decide +kernel)))
    · exact Or.inl (hs _ (List.mem_of_getElem? (i := 124) (by decide +kernel)))
    · exact Or.inl (hs _ (List.mem_of_getElem? (i := 138) (by decide +kernel)))
    · exact Or.inr (hs _ (List.mem_of_getElem? (i := 92) (by decide +kernel)))
    · exact Or.inr (hs _ (List.mem_of_getElem? (i := 93) (by decide +kernel)))
    · exact Or.inr (hs _ (List.mem_of_getElem? (i := 94) (by decide +kernel)))
    · exact Or.inr (hs _ (List.mem_of_getElem? (i := 103) (by decide +kernel)))
    · exact Or.inr (hs _ (List.mem_of_getElem? (i := 111) (by decide +kernel)))
    · exact absurd rfl hij
    · exact Or.inl (hs _ (List.mem_of_getElem? (i := 125) (by decide +kernel)))
    · exact Or.inl (hs _ (List.mem_of_getElem? (i := 139) (by decide +kernel)))
    · exact Or.inr (hs _ (List.mem_of_getElem? (i := 104) (by decide +kernel)))
    · exact Or.inr (hs _ (List.mem_of_getElem? (i := 105) (by decide +kernel)))
    · exact Or.inr (hs _ (List.mem_of_getElem? (i := 106) (by decide +kernel)))
    · exact Or.inr (hs _ (List.mem_of_getElem? (i := 116) (by decide +kernel)))
    · exact Or.inr (hs _ (List.mem_of_getElem? (i := 124) (by decide +kernel)))
    · exact Or.inr (hs _ (List.mem_of_getElem? (i := 125) (by decide +kernel)))
    · exact absurd rfl hij
    · exact Or.inl (hs _ (List.mem_of_getElem? (i := 140) (by decide +kernel)))
    · exact Or.inr (hs _ (List.mem_of_getElem? (i := 117) (by decide +kernel)))
    · exact Or.inr (hs _ (List.mem_of_getElem? (i := 118) (by decide +kernel)))
    · exact Or.inr (hs _ (List.mem_of_getElem? (i := 119) (by decide +kernel)))
    · exact Or.inr (hs _ (List.mem_of_getElem? (i := 130) (by decide +kernel)))
    · exact Or.inr (hs _ (List.mem_of_getElem? (i := 138) (by decide +kernel)))
    · exact Or.inr (hs _ (List.mem_of_getElem? (i := 139) (by decide +kernel)))
    · exact Or.inr (hs _ (List.mem_of_getElem? (i := 140) (by decide +kernel)))
    · exact absurd rfl hij
    · exact Or.inr (hs _ (List.mem_of_getElem? (i := 131) (by decide +kernel)))
    · exact Or.inr (hs _ (List.mem_of_getElem? (i := 132) (by decide +kernel)))
    · exact Or.inr (hs _ (List.mem_of_getElem? (i := 133) (by decide +kernel)))
    · exact Or.inr (hs _ (List.mem_of_getElem? (i := 12) (by decide +kernel)))
    · exact Or.inl (hs _ (List.mem_of_getElem? (i := 92) (by decide +kernel)))
    · exact Or.inl (hs _ (List.mem_of_getElem? (i := 104) (by decide +kernel)))
    · exact Or.inl (hs _ (List.mem_of_getElem? (i := 117) (by decide +kernel)))
    · exact Or.inl (hs _ (List.mem_of_getElem? (i := 131) (by decide +kernel)))
    · exact absurd rfl hij
    · exact Or.inl (hs _ (List.mem_of_getElem? (i := 29) (by decide +kernel)))
    · exact Or.inl (hs _ (List.mem_of_getElem? (i := 35) (by decide +kernel)))
    · exact Or.inr (hs _ (List.mem_of_getElem? (i := 28) (by decide +kernel)))
    · exact Or.inl (hs _ (List.mem_of_getElem? (i := 93) (by decide +kernel)))
    · exact Or.inl (hs _ (List.mem_of_getElem? (i := 105) (by decide +kernel)))
    · exact Or.inl (hs _ (List.mem_of_getElem? (i := 118) (by decide +kernel)))
    · exact Or.inl (hs _ (List.mem_of_getElem? (i := 132) (by decide +kernel)))
    · exact Or.inr (hs _ (List.mem_of_getElem? (i := 29) (by decide +kernel)))
    · exact absurd rfl hij
    · exact Or.inl (hs _ (List.mem_of_getElem? (i := 36) (by decide +kernel)))
    · exact Or.inr (hs _ (List.mem_of_getElem? (i := 34) (by decide +kernel)))
    · exact Or.inl (hs _ (List.mem_of_getElem? (i := 94) (by decide +kernel)))
    · exact Or.inl (hs _ (List.mem_of_getElem? (i := 106) (by decide +kernel)))
    · exact Or.inl (hs _ (List.mem_of_getElem? (i := 119) (by decide +kernel)))
    · exact Or.inl (hs _ (List.mem_of_getElem? (i := 133) (by decide +kernel)))
    · exact Or.inr (hs _ (List.mem_of_getElem? (i := 35) (by decide +kernel)))
    · exact Or.inr (hs _ (List.mem_of_getElem? (i := 36) (by decide +kernel)))
    · exact absurd rfl hij
set_option maxHeartbeats 2000000 in
theorem st_verd {args : Array Value} {s : State} {A : Nat → Prop} (hts : ∀ w ∈ lw_tbl, w.before args s = true) (hs : ∀ w ∈ flatC (Jvm.Cond.and given_1 narrow_1), w.before args s = true) (hA : ∀ a : Nat, a < s.heap.size → ¬ A a) : ∃ ad : Nat → Nat, va_En "LineEchoes$Verdict" "LLineEchoes$Verdict;" verNm verF ad A s s.heap := by
  refine va_Enof (fun i hi => ?_) (hts _ (seg1 (List.mem_of_getElem? (i := 12) rfl))) (fun i hi => ?_) (fun q hq i hi => ?_) (fun i j hi hj hij => ?_) hA
  · have hi : i < 4 := hi
    rcases (show i = 0 ∨ i = 1 ∨ i = 2 ∨ i = 3 by omega) with rfl | rfl | rfl | rfl
    · exact (hts _ (seg3 (List.mem_of_getElem? (i := 83) rfl)))
    · exact (hts _ (seg3 (List.mem_of_getElem? (i := 91) rfl)))
    · exact (hts _ (seg3 (List.mem_of_getElem? (i := 81) rfl)))
    · exact (hts _ (seg3 (List.mem_of_getElem? (i := 85) rfl)))
  · have hi : i < 4 := hi
    rcases (show i = 0 ∨ i = 1 ∨ i = 2 ∨ i = 3 by omega) with rfl | rfl | rfl | rfl
    · exact (hs _ (List.mem_of_getElem? (i := 61) (by decide +kernel)))
    · exact (hs _ (List.mem_of_getElem? (i := 76) (by decide +kernel)))
    · exact (hs _ (List.mem_of_getElem? (i := 55) (by decide +kernel)))
    · exact (hs _ (List.mem_of_getElem? (i := 68) (by decide +kernel)))
  · have hi : i < 4 := hi
    · rcases List.mem_singleton.mp hq with rfl
      rcases (show i = 0 ∨ i = 1 ∨ i = 2 ∨ i = 3 by omega) with rfl | rfl | rfl | rfl
      · exact (hs _ (List.mem_of_getElem? (i := 62) (by decide +kernel)))
      · exact (hs _ (List.mem_of_getElem? (i := 77) (by decide +kernel)))
      · exact (hs _ (List.mem_of_getElem? (i := 56) (by decide +kernel)))
      · exact (hs _ (List.mem_of_getElem? (i := 69) (by decide +kernel)))
  · have hi : i < 4 := hi
    have hj : j < 4 := hj
    rcases (show i = 0 ∨ i = 1 ∨ i = 2 ∨ i = 3 by omega) with rfl | rfl | rfl | rfl <;> rcases (show j = 0 ∨ j = 1 ∨ j = 2 ∨ j = 3 by omega) with rfl | rfl | rfl | rfl
    · exact absurd rfl hij
    · exact Or.inl (hs _ (List.mem_of_getElem? (i := 83) (by decide +kernel)))
    · exact Or.inr (hs _ (List.mem_of_getElem? (i := 67) (by decide +kernel)))
    · exact Or.inl (hs _ (List.mem_of_getElem? (i := 75) (by decide +kernel)))
    · exact Or.inr (hs _ (List.mem_of_getElem? (i := 83) (by decide +kernel)))
    · exact absurd rfl hij
    · exact Or.inr (hs _ (List.mem_of_getElem? (i := 82) (by decide +kernel)))
    · exact Or.inr (hs _ (List.mem_of_getElem? (i := 84) (by decide +kernel)))
    · exact Or.inl (hs _ (List.mem_of_getElem? (i := 67) (by decide +kernel)))
    · exact Or.inl (hs _ (List.mem_of_getElem? (i := 82) (by decide +kernel)))
    · exact absurd rfl hij
    · exact Or.inl (hs _ (List.mem_of_getElem? (i := 74) (by decide +kernel)))
    · exact Or.inr (hs _ (List.mem_of_getElem? (i := 75) (by decide +kernel)))
    · exact Or.inl (hs _ (List.mem_of_getElem? (i := 84) (by decide +kernel)))
    · exact Or.inr (hs _ (List.mem_of_getElem? (i := 74) (by decide +kernel)))
    · exact absurd rfl hij
def wks : List Nat := [73, 79, 82, 85, 88, 91, 94, 97]
set_option maxHeartbeats 4000000 in
theorem st_words {args : Array Value} {s : State} {A : Nat → Prop} (hts : ∀ w ∈ lw_tbl, w.before args s = true) (hs : ∀ w ∈ flatC (Jvm.Cond.and given_1 narrow_1), w.before args s = true) (hA : ∀ a : Nat, a < s.heap.size → ¬ A a) : ∃ adK adV : Nat → Nat, vk_S 8 wlen wbyt adK adV A s s.heap ∧ ∀ i : Nat, i < 8 → (Term.string "LineEchoes$Command" (wks.getD i 0)).eval args s none [] s = some (.ref (adK i)) := by
  refine vk_Sof (tm := fun i => Term.string "LineEchoes$Command" (wks.getD i 0)) (fun i hi => ?_) (fun i hi => ?_) (fun i hi => ?_) (fun i hi => ?_) (fun i hi => ?_) (fun i hi j hj => ?_) (fun i j hi hj hij => ?_) hA
  · rcases (show i = 0 ∨ i = 1 ∨ i = 2 ∨ i = 3 ∨ i = 4 ∨ i = 5 ∨ i = 6 ∨ i = 7 by omega) with rfl | rfl | rfl | rfl | rfl | rfl | rfl | rfl <;> decide
  · rcases (show i = 0 ∨ i = 1 ∨ i = 2 ∨ i = 3 ∨ i = 4 ∨ i = 5 ∨ i = 6 ∨ i = 7 by omega) with rfl | rfl | rfl | rfl | rfl | rfl | rfl | rfl
    · exact (hs _ (List.mem_of_getElem? (i := 379) (by decide +kernel)))
    · exact (hs _ (List.mem_of_getElem? (i := 447) (by decide +kernel)))
    · exact (hs _ (List.mem_of_getElem? (i := 465) (by decide +kernel)))
    · exact (hs _ (List.mem_of_getElem? (i := 484) (by decide +kernel)))
    · exact (hs _ (List.mem_of_getElem? (i := 506) (by decide +kernel)))
    · exact (hs _ (List.mem_of_getElem? (i := 394) (by decide +kernel)))
    · exact (hs _ (List.mem_of_getElem? (i := 411) (by decide +kernel)))
    · exact (hs _ (List.mem_of_getElem? (i := 428) (by decide +kernel)))
  · rcases (show i = 0 ∨ i = 1 ∨ i = 2 ∨ i = 3 ∨ i = 4 ∨ i = 5 ∨ i = 6 ∨ i = 7 by omega) with rfl | rfl | rfl | rfl | rfl | rfl | rfl | rfl
    · exact (hs _ (List.mem_of_getElem? (i := 380) (by decide +kernel)))
    · exact (hs _ (List.mem_of_getElem? (i := 448) (by decide +kernel)))
    · exact (hs _ (List.mem_of_getElem? (i := 466) (by decide +kernel)))
    · exact (hs _ (List.mem_of_getElem? (i := 485) (by decide +kernel)))
    · exact (hs _ (List.mem_of_getElem? (i := 507) (by decide +kernel)))
    · exact (hs _ (List.mem_of_getElem? (i := 395) (by decide +kernel)))
    · exact (hs _ (List.mem_of_getElem? (i := 412) (by decide +kernel)))
    · exact (hs _ (List.mem_of_getElem? (i := 429) (by decide +kernel)))
  · rcases (show i = 0 ∨ i = 1 ∨ i = 2 ∨ i = 3 ∨ i = 4 ∨ i = 5 ∨ i = 6 ∨ i = 7 by omega) with rfl | rfl | rfl | rfl | rfl | rfl | rfl | rfl
    · exact (hs _ (List.mem_of_getElem? (i := 381) (by decide +kernel)))
    · exact (hs _ (List.mem_of_getElem? (i := 449) (by decide +kernel)))
    · exact (hs _ (List.mem_of_getElem? (i := 467) (by decide +kernel)))
    · exact (hs _ (List.mem_of_getElem? (i := 486) (by decide +kernel)))
    · exact (hs _ (List.mem_of_getElem? (i := 508) (by decide +kernel)))
    · exact (hs _ (List.mem_of_getElem? (i := 396) (by decide +kernel)))
    · exact (hs _ (List.mem_of_getElem? (i := 413) (by decide +kernel)))
    · exact (hs _ (List.mem_of_getElem? (i := 430) (by decide +kernel)))
  · rcases (show i = 0 ∨ i = 1 ∨ i = 2 ∨ i = 3 ∨ i = 4 ∨ i = 5 ∨ i = 6 ∨ i = 7 by omega) with rfl | rfl | rfl | rfl | rfl | rfl | rfl | rfl
    · exact (hs _ (List.mem_of_getElem? (i := 382) (by decide +kernel)))
    · exact (hs _ (List.mem_of_getElem? (i := 450) (by decide +kernel)))
    · exact (hs _ (List.mem_of_getElem? (i := 468) (by decide +kernel)))
    · exact (hs _ (List.mem_of_getElem? (i := 487) (by decide +kernel)))
    · exact (hs _ (List.mem_of_getElem? (i := 509) (by decide +kernel)))
    · exact (hs _ (List.mem_of_getElem? (i := 397) (by decide +kernel)))
    · exact (hs _ (List.mem_of_getElem? (i := 414) (by decide +kernel)))
    · exact (hs _ (List.mem_of_getElem? (i := 431) (by decide +kernel)))
  · rcases (show i = 0 ∨ i = 1 ∨ i = 2 ∨ i = 3 ∨ i = 4 ∨ i = 5 ∨ i = 6 ∨ i = 7 by omega) with rfl | rfl | rfl | rfl | rfl | rfl | rfl | rfl
    · have hj : j < 4 := hj
      rcases (show j = 0 ∨ j = 1 ∨ j = 2 ∨ j = 3 by omega) with rfl | rfl | rfl | rfl
      · exact (hs _ (List.mem_of_getElem? (i := 383) (by decide +kernel)))
      · exact (hs _ (List.mem_of_getElem? (i := 384) (by decide +kernel)))
      · exact (hs _ (List.mem_of_getElem? (i := 385) (by decide +kernel)))
      · exact (hs _ (List.mem_of_getElem? (i := 386) (by decide +kernel)))
    · have hj : j < 3 := hj
      rcases (show j = 0 ∨ j = 1 ∨ j = 2 by omega) with rfl | rfl | rfl
      · exact (hs _ (List.mem_of_getElem? (i := 451) (by decide +kernel)))
      · exact (hs _ (List.mem_of_getElem? (i := 452) (by decide +kernel)))
      · exact (hs _ (List.mem_of_getElem? (i := 453) (by decide +kernel)))
    · have hj : j < 3 := hj
      rcases (show j = 0 ∨ j = 1 ∨ j = 2 by omega) with rfl | rfl | rfl
      · exact (hs _ (List.mem_of_getElem? (i := 469) (by decide +kernel)))
      · exact (hs _ (List.mem_of_getElem? (i := 470) (by decide +kernel)))
      · exact (hs _ (List.mem_of_getElem? (i := 471) (by decide +kernel)))
    · have hj : j < 5 := hj
      rcases (show j = 0 ∨ j = 1 ∨ j = 2 ∨ j = 3 ∨ j = 4 by omega) with rfl | rfl | rfl | rfl | rfl
      · exact (hs _ (List.mem_of_getElem? (i := 488) (by decide +kernel)))
      · exact (hs _ (List.mem_of_getElem? (i := 489) (by decide +kernel)))
      · exact (hs _ (List.mem_of_getElem? (i := 490) (by decide +kernel)))
      · exact (hs _ (List.mem_of_getElem? (i := 491) (by decide +kernel)))
      · exact (hs _ (List.mem_of_getElem? (i := 492) (by decide +kernel)))
    · have hj : j < 5 := hj
      rcases (show j = 0 ∨ j = 1 ∨ j = 2 ∨ j = 3 ∨ j = 4 by omega) with rfl | rfl | rfl | rfl | rfl
      · exact (hs _ (List.mem_of_getElem? (i := 510) (by decide +kernel)))
      · exact (hs _ (List.mem_of_getElem? (i := 511) (by decide +kernel)))
      · exact (hs _ (List.mem_of_getElem? (i := 512) (by decide +kernel)))
      · exact (hs _ (List.mem_of_getElem? (i := 513) (by decide +kernel)))
      · exact (hs _ (List.mem_of_getElem? (i := 514) (by decide +kernel)))
    · have hj : j < 5 := hj
      rcases (show j = 0 ∨ j = 1 ∨ j = 2 ∨ j = 3 ∨ j = 4 by omega) with rfl | rfl | rfl | rfl | rfl
      · exact (hs _ (List.mem_of_getElem? (i := 398) (by decide +kernel)))
      · exact (hs _ (List.mem_of_getElem? (i := 399) (by decide +kernel)))
      · exact (hs _ (List.mem_of_getElem? (i := 400) (by decide +kernel)))
      · exact (hs _ (List.mem_of_getElem? (i := 401) (by decide +kernel)))
      · exact (hs _ (List.mem_of_getElem? (i := 402) (by decide +kernel)))
    · have hj : j < 4 := hj
      rcases (show j = 0 ∨ j = 1 ∨ j = 2 ∨ j = 3 by omega) with rfl | rfl | rfl | rfl
      · exact (hs _ (List.mem_of_getElem? (i := 415) (by decide +kernel)))
      · exact (hs _ (List.mem_of_getElem? (i := 416) (by decide +kernel)))
      · exact (hs _ (List.mem_of_getElem? (i := 417) (by decide +kernel)))
      · exact (hs _ (List.mem_of_getElem? (i := 418) (by decide +kernel)))
    · have hj : j < 5 := hj
      rcases (show j = 0 ∨ j = 1 ∨ j = 2 ∨ j = 3 ∨ j = 4 by omega) with rfl | rfl | rfl | rfl | rfl
      · exact (hs _ (List.mem_of_getElem? (i := 432) (by decide +kernel)))
      · exact (hs _ (List.mem_of_getElem? (i := 433) (by decide +kernel)))
      · exact (hs _ (List.mem_of_getElem? (i := 434) (by decide +kernel)))
      · exact (hs _ (List.mem_of_getElem? (i := 435) (by decide +kernel)))
      · exact (hs _ (List.mem_of_getElem? (i := 436) (by decide +kernel)))
  · rcases (show i = 0 ∨ i = 1 ∨ i = 2 ∨ i = 3 ∨ i = 4 ∨ i = 5 ∨ i = 6 ∨ i = 7 by omega) with rfl | rfl | rfl | rfl | rfl | rfl | rfl | rfl <;> rcases (show j = 0 ∨ j = 1 ∨ j = 2 ∨ j = 3 ∨ j = 4 ∨ j = 5 ∨ j = 6 ∨ j = 7 by omega) with rfl | rfl | rfl | rfl | rfl | rfl | rfl | rfl
    · exact absurd rfl hij
    · exact Or.inl (hs _ (List.mem_of_getElem? (i := 461) (by decide +kernel)))
    · exact Or.inl (hs _ (List.mem_of_getElem? (i := 479) (by decide +kernel)))
    · exact Or.inl (hs _ (List.mem_of_getElem? (i := 500) (by decide +kernel)))
    · exact Or.inl (hs _ (List.mem_of_getElem? (i := 522) (by decide +kernel)))
    · exact Or.inl (hs _ (List.mem_of_getElem? (i := 410) (by decide +kernel)))
    · exact Or.inl (hs _ (List.mem_of_getElem? (i := 426) (by decide +kernel)))
    · exact Or.inl (hs _ (List.mem_of_getElem? (i := 444) (by decide +kernel)))
    · exact Or.inr (hs _ (List.mem_of_getElem? (i := 461) (by decide +kernel)))
    · exact absurd rfl hij
    · exact Or.inl (hs _ (List.mem_of_getElem? (i := 483) (by decide +kernel)))
    · exact Or.inl (hs _ (List.mem_of_getElem? (i := 504) (by decide +kernel)))
    · exact Or.inl (hs _ (List.mem_of_getElem? (i := 526) (by decide +kernel)))
    · exact Or.inr (hs _ (List.mem_of_getElem? (i := 462) (by decide +kernel)))
    · exact Or.inr (hs _ (List.mem_of_getElem? (i := 463) (by decide +kernel)))
    · exact Or.inr (hs _ (List.mem_of_getElem? (i := 464) (by decide +kernel)))
    · exact Or.inr (hs _ (List.mem_of_getElem? (i := 479) (by decide +kernel)))
    · exact Or.inr (hs _ (List.mem_of_getElem? (i := 483) (by decide +kernel)))
    · exact absurd rfl hij
    · exact Or.inl (hs _ (List.mem_of_getElem? (i := 505) (by decide +kernel)))
    · exact Or.inl (hs _ (List.mem_of_getElem? (i := 527) (by decide +kernel)))
    · exact Or.inr (hs _ (List.mem_of_getElem? (i := 480) (by decide +kernel)))
    · exact Or.inr (hs _ (List.mem_of_getElem? (i := 481) (by decide +kernel)))
    · exact Or.inr (hs _ (List.mem_of_getElem? (i := 482) (by decide +kernel)))
    · exact Or.inr (hs _ (List.mem_of_getElem? (i := 500) (by decide +kernel)))
    · exact Or.inr (hs _ (List.mem_of_getElem? (i := 504) (by decide +kernel)))
    · exact Or.inr (hs _ (List.mem_of_getElem? (i := 505) (by decide +kernel)))
    · exact absurd rfl hij
    · exact Or.inl (hs _ (List.mem_of_getElem? (i := 528) (by decide +kernel)))
    · exact Or.inr (hs _ (List.mem_of_getElem? (i := 501) (by decide +kernel)))
    · exact Or.inr (hs _ (List.mem_of_getElem? (i := 502) (by decide +kernel)))
    · exact Or.inr (hs _ (List.mem_of_getElem? (i := 503) (by decide +kernel)))
    · exact Or.inr (hs _ (List.mem_of_getElem? (i := 522) (by decide +kernel)))
    · exact Or.inr (hs _ (List.mem_of_getElem? (i := 526) (by decide +kernel)))
    · exact Or.inr (hs _ (List.mem_of_getElem? (i := 527) (by decide +kernel)))
    · exact Or.inr (hs _ (List.mem_of_getElem? (i := 528) (by decide +kernel)))
    · exact absurd rfl hij
    · exact Or.inr (hs _ (List.mem_of_getElem? (i := 523) (by decide +kernel)))
    · exact Or.inr (hs _ (List.mem_of_getElem? (i := 524) (by decide +kernel)))
    · exact Or.inr (hs _ (List.mem_of_getElem? (i := 525) (by decide +kernel)))
    · exact Or.inr (hs _ (List.mem_of_getElem? (i := 410) (by decide +kernel)))
    · exact Or.inl (hs _ (List.mem_of_getElem? (i := 462) (by decide +kernel)))
    · exact Or.inl (hs _ (List.mem_of_getElem? (i := 480) (by decide +kernel)))
    · exact Or.inl (hs _ (List.mem_of_getElem? (i := 501) (by decide +kernel)))
    · exact Or.inl (hs _ (List.mem_of_getElem? (i := 523) (by decide +kernel)))
    · exact absurd rfl hij
    · exact Or.inl (hs _ (List.mem_of_getElem? (i := 427) (by decide +kernel)))
    · exact Or.inl (hs _ (List.mem_of_getElem? (i := 445) (by decide +kernel)))
    · exact Or.inr (hs _ (List.mem_of_getElem? (i := 426) (by decide +kernel)))
    · exact Or.inl (hs _ (List.mem_of_getElem? (i := 463) (by decide +kernel)))
    · exact Or.inl (hs _ (List.mem_of_getElem? (i := 481) (by decide +kernel)))
    · exact Or.inl (hs _ (List.mem_of_getElem? (i := 502) (by decide +kernel)))
    · exact Or.inl (hs _ (List.mem_of_getElem? (i := 524) (by decide +kernel)))
    · exact Or.inr (hs _ (List.mem_of_getElem? (i := 427) (by decide +kernel)))
    · exact absurd rfl hij
    · exact Or.inl (hs _ (List.mem_of_getElem? (i := 446) (by decide +kernel)))
    · exact Or.inr (hs _ (List.mem_of_getElem? (i := 444) (by decide +kernel)))
    · exact Or.inl (hs _ (List.mem_of_getElem? (i := 464) (by decide +kernel)))
    · exact Or.inl (hs _ (List.mem_of_getElem? (i := 482) (by decide +kernel)))
    · exact Or.inl (hs _ (List.mem_of_getElem? (i := 503) (by decide +kernel)))
    · exact Or.inl (hs _ (List.mem_of_getElem? (i := 525) (by decide +kernel)))
    · exact Or.inr (hs _ (List.mem_of_getElem? (i := 445) (by decide +kernel)))
    · exact Or.inr (hs _ (List.mem_of_getElem? (i := 446) (by decide +kernel)))
    · exact absurd rfl hij
set_option maxHeartbeats 4000000 in
theorem st_switch {args : Array Value} {s : State} {A : Nat → Prop} (hts : ∀ w ∈ lw_tbl, w.before args s = true) (hs : ∀ w ∈ flatC (Jvm.Cond.and given_1 narrow_1), w.before args s = true) (hA : ∀ a : Nat, a < s.heap.size → ¬ A a) : ∃ t : Nat, va_Z "LineEchoes$1" "$SwitchMap$LineEchoes$Command" "[I" (.ref t) A s s.heap ∧ va_T .int t 8 (fun j => .int (nI (j + 1))) A s s.heap := by
  have hel : ∀ j : Nat, j < 8 → (Term.elem (Term.static "LineEchoes$1" "$SwitchMap$LineEchoes$Command" "[I") (.int (Int32.ofNat j))).eval args s none [] s = some (.int (nI (j + 1))) := fun j hj => by
    rcases (show j = 0 ∨ j = 1 ∨ j = 2 ∨ j = 3 ∨ j = 4 ∨ j = 5 ∨ j = 6 ∨ j = 7 by omega) with rfl | rfl | rfl | rfl | rfl | rfl | rfl | rfl
    · exact va_eqt (z := 1) (hs _ (List.mem_of_getElem? (i := 16) (by decide +kernel)))
    · exact va_eqt (z := 2) (hs _ (List.mem_of_getElem? (i := 17) (by decide +kernel)))
    · exact va_eqt (z := 3) (hs _ (List.mem_of_getElem? (i := 18) (by decide +kernel)))
    · exact va_eqt (z := 4) (hs _ (List.mem_of_getElem? (i := 19) (by decide +kernel)))
    · exact va_eqt (z := 5) (hs _ (List.mem_of_getElem? (i := 20) (by decide +kernel)))
    · exact va_eqt (z := 6) (hs _ (List.mem_of_getElem? (i := 21) (by decide +kernel)))
    · exact va_eqt (z := 7) (hs _ (List.mem_of_getElem? (i := 22) (by decide +kernel)))
    · exact va_eqt (z := 8) (hs _ (List.mem_of_getElem? (i := 23) (by decide +kernel)))
  obtain ⟨t, ht, hT⟩ := va_Tof (tm := Term.static "LineEchoes$1" "$SwitchMap$LineEchoes$Command" "[I") (ty := .int) (N := 8) (f := fun j => .int (nI (j + 1))) (A := A) (by decide) (hs _ (List.mem_of_getElem? (i := 14) (by decide +kernel))) (va_eqt (z := 8) (hs _ (List.mem_of_getElem? (i := 15) (by decide +kernel)))) hel hA
  exact ⟨t, va_Zref (hts _ (seg2 (List.mem_of_getElem? (i := 60) rfl))) (hts _ (seg1 (List.mem_of_getElem? (i := 11) rfl))) ht hA, hT⟩
set_option maxHeartbeats 2000000 in
theorem st_eval {args : Array Value} {s : State} {A : Nat → Prop} (hts : ∀ w ∈ lw_tbl, w.before args s = true) (hs : ∀ w ∈ flatC (Jvm.Cond.and given_1 narrow_1), w.before args s = true) (hA : ∀ a : Nat, a < s.heap.size → ¬ A a) {ad : Nat → Nat} (hE : va_En "LineEchoes$Command" "LLineEchoes$Command;" cmdNm cmdF ad A s s.heap) : ∀ i : Nat, i < 8 → (Term.static "LineEchoes$Command" (cmdNm.getD i "") "LLineEchoes$Command;").eval args s none [] s = some (.ref (ad i)) := by
  intro i hi
  have hex : (Cond.exactly (.static "LineEchoes$Command" (cmdNm.getD i "") "LLineEchoes$Command;") "LineEchoes$Command").before args s = true := by
    rcases (show i = 0 ∨ i = 1 ∨ i = 2 ∨ i = 3 ∨ i = 4 ∨ i = 5 ∨ i = 6 ∨ i = 7 by omega) with rfl | rfl | rfl | rfl | rfl | rfl | rfl | rfl
    · exact (hs _ (List.mem_of_getElem? (i := 4) (by decide +kernel)))
    · exact (hs _ (List.mem_of_getElem? (i := 87) (by decide +kernel)))
    · exact (hs _ (List.mem_of_getElem? (i := 99) (by decide +kernel)))
    · exact (hs _ (List.mem_of_getElem? (i := 112) (by decide +kernel)))
    · exact (hs _ (List.mem_of_getElem? (i := 126) (by decide +kernel)))
    · exact (hs _ (List.mem_of_getElem? (i := 8) (by decide +kernel)))
    · exact (hs _ (List.mem_of_getElem? (i := 24) (by decide +kernel)))
    · exact (hs _ (List.mem_of_getElem? (i := 30) (by decide +kernel)))
  have hly : (Cond.laysStatic "LineEchoes$Command" (cmdNm.getD i "") "LLineEchoes$Command;").before args s = true := by
    rcases (show i = 0 ∨ i = 1 ∨ i = 2 ∨ i = 3 ∨ i = 4 ∨ i = 5 ∨ i = 6 ∨ i = 7 by omega) with rfl | rfl | rfl | rfl | rfl | rfl | rfl | rfl
    · exact (hts _ (seg1 (List.mem_of_getElem? (i := 143) rfl)))
    · exact (hts _ (seg4 (List.mem_of_getElem? (i := 51) rfl)))
    · exact (hts _ (seg4 (List.mem_of_getElem? (i := 60) rfl)))
    · exact (hts _ (seg4 (List.mem_of_getElem? (i := 69) rfl)))
    · exact (hts _ (seg4 (List.mem_of_getElem? (i := 87) rfl)))
    · exact (hts _ (seg2 (List.mem_of_getElem? (i := 54) rfl)))
    · exact (hts _ (seg2 (List.mem_of_getElem? (i := 196) rfl)))
    · exact (hts _ (seg2 (List.mem_of_getElem? (i := 202) rfl)))
  obtain ⟨a, c, cell, k, q1, -⟩ := Cond.exactly_spec hex
  have h2 := va_Zref (A := A) hly (hts _ (seg1 (List.mem_of_getElem? (i := 7) rfl))) q1 hA
  have h3 := ((hE.1 i hi).1).same h2
  cases h3
  exact q1
set_option maxHeartbeats 4000000 in
theorem st_all {args : Array Value} {s : State} {A : Nat → Prop} (hts : ∀ w ∈ lw_tbl, w.before args s = true) (hs : ∀ w ∈ flatC (Jvm.Cond.and given_1 narrow_1), w.before args s = true) (hA : ∀ a : Nat, a < s.heap.size → ¬ A a) {ad : Nat → Nat} (hE : va_En "LineEchoes$Command" "LLineEchoes$Command;" cmdNm cmdF ad A s s.heap) : ∃ t : Nat, va_Z "LineEchoes$Command" "ALL" "[LLineEchoes$Command;" (.ref t) A s s.heap ∧ va_T (.object "LineEchoes$Command") t 8 (fun j => .ref (ad j)) A s s.heap := by
  have hel : ∀ j : Nat, j < 8 → (Term.elem (Term.static "LineEchoes$Command" "ALL" "[LLineEchoes$Command;") (.int (Int32.ofNat j))).eval args s none [] s = some (.ref (ad j)) := fun j hj => by
    have h9 := st_eval hts hs hA hE j hj
    rcases (show j = 0 ∨ j = 1 ∨ j = 2 ∨ j = 3 ∨ j = 4 ∨ j = 5 ∨ j = 6 ∨ j = 7 by omega) with rfl | rfl | rfl | rfl | rfl | rfl | rfl | rfl
    · exact va_eqr (hs _ (List.mem_of_getElem? (i := 42) (by decide +kernel))) h9
    · exact va_eqr (hs _ (List.mem_of_getElem? (i := 43) (by decide +kernel))) h9
    · exact va_eqr (hs _ (List.mem_of_getElem? (i := 44) (by decide +kernel))) h9
    · exact va_eqr (hs _ (List.mem_of_getElem? (i := 45) (by decide +kernel))) h9
    · exact va_eqr (hs _ (List.mem_of_getElem? (i := 46) (by decide +kernel))) h9
    · exact va_eqr (hs _ (List.mem_of_getElem? (i := 47) (by decide +kernel))) h9
    · exact va_eqr (hs _ (List.mem_of_getElem? (i := 48) (by decide +kernel))) h9
    · exact va_eqr (hs _ (List.mem_of_getElem? (i := 49) (by decide +kernel))) h9
  obtain ⟨t, ht, hT⟩ := va_Tof (tm := Term.static "LineEchoes$Command" "ALL" "[LLineEchoes$Command;") (ty := .object "LineEchoes$Command") (N := 8) (f := fun j => .ref (ad j)) (A := A) (by decide) (hs _ (List.mem_of_getElem? (i := 39) (by decide +kernel))) (va_eqt (z := 8) (hs _ (List.mem_of_getElem? (i := 40) (by decide +kernel)))) hel hA
  exact ⟨t, va_Zref (hts _ (seg2 (List.mem_of_getElem? (i := 239) rfl))) (hts _ (seg1 (List.mem_of_getElem? (i := 7) rfl))) ht hA, hT⟩
set_option maxHeartbeats 4000000 in
theorem st_word {args : Array Value} {s : State} {A : Nat → Prop} (hts : ∀ w ∈ lw_tbl, w.before args s = true) (hs : ∀ w ∈ flatC (Jvm.Cond.and given_1 narrow_1), w.before args s = true) (hA : ∀ a : Nat, a < s.heap.size → ¬ A a) {ad adK : Nat → Nat} (hE : va_En "LineEchoes$Command" "LLineEchoes$Command;" cmdNm cmdF ad A s s.heap) (hK : ∀ i : Nat, i < 8 → (Term.string "LineEchoes$Command" (wks.getD i 0)).eval args s none [] s = some (.ref (adK i))) : ∀ i : Nat, i < 8 → va_OF "LineEchoes$Command" "word" "Ljava/lang/String;" (.ref (adK i)) (ad i) A s s.heap := by
  intro i hi
  refine vk_OFof (st_eval hts hs hA hE i hi) (va_eqr ?_ (hK i hi)) hA
  rcases (show i = 0 ∨ i = 1 ∨ i = 2 ∨ i = 3 ∨ i = 4 ∨ i = 5 ∨ i = 6 ∨ i = 7 by omega) with rfl | rfl | rfl | rfl | rfl | rfl | rfl | rfl
  · exact (hs _ (List.mem_of_getElem? (i := 6) (by decide +kernel)))
  · exact (hs _ (List.mem_of_getElem? (i := 89) (by decide +kernel)))
  · exact (hs _ (List.mem_of_getElem? (i := 101) (by decide +kernel)))
  · exact (hs _ (List.mem_of_getElem? (i := 114) (by decide +kernel)))
  · exact (hs _ (List.mem_of_getElem? (i := 128) (by decide +kernel)))
  · exact (hs _ (List.mem_of_getElem? (i := 10) (by decide +kernel)))
  · exact (hs _ (List.mem_of_getElem? (i := 26) (by decide +kernel)))
  · exact (hs _ (List.mem_of_getElem? (i := 32) (by decide +kernel)))
set_option maxHeartbeats 4000000 in
theorem st_msgs {args : Array Value} {s : State} {A : Nat → Prop} (hts : ∀ w ∈ lw_tbl, w.before args s = true) (hs : ∀ w ∈ flatC (Jvm.Cond.and given_1 narrow_1), w.before args s = true) (hA : ∀ a : Nat, a < s.heap.size → ¬ A a) : ∃ ad : Nat → Nat, ∀ q ∈ msgs, vk_R "LineEchoes" q.1 q.2 (ad q.1) s := by
  obtain ⟨a0, c0, cell0, k0, e0, -⟩ := Cond.exactly_spec (show (Cond.exactly (.string "LineEchoes" 376) "java/lang/String").before args s = true from (hs _ (List.mem_of_getElem? (i := 177) (by decide +kernel))))
  obtain ⟨a1, c1, cell1, k1, e1, -⟩ := Cond.exactly_spec (show (Cond.exactly (.string "LineEchoes" 368) "java/lang/String").before args s = true from (hs _ (List.mem_of_getElem? (i := 208) (by decide +kernel))))
  obtain ⟨a2, c2, cell2, k2, e2, -⟩ := Cond.exactly_spec (show (Cond.exactly (.string "LineEchoes" 382) "java/lang/String").before args s = true from (hs _ (List.mem_of_getElem? (i := 236) (by decide +kernel))))
  obtain ⟨a3, c3, cell3, k3, e3, -⟩ := Cond.exactly_spec (show (Cond.exactly (.string "LineEchoes" 125) "java/lang/String").before args s = true from (hs _ (List.mem_of_getElem? (i := 267) (by decide +kernel))))
  obtain ⟨a4, c4, cell4, k4, e4, -⟩ := Cond.exactly_spec (show (Cond.exactly (.string "LineEchoes" 388) "java/lang/String").before args s = true from (hs _ (List.mem_of_getElem? (i := 294) (by decide +kernel))))
  obtain ⟨a5, c5, cell5, k5, e5, -⟩ := Cond.exactly_spec (show (Cond.exactly (.string "LineEchoes" 227) "java/lang/String").before args s = true from (hs _ (List.mem_of_getElem? (i := 325) (by decide +kernel))))
  obtain ⟨a6, c6, cell6, k6, e6, -⟩ := Cond.exactly_spec (show (Cond.exactly (.string "LineEchoes" 259) "java/lang/String").before args s = true from (hs _ (List.mem_of_getElem? (i := 352) (by decide +kernel))))
  refine ⟨fun n => if n = 376 then a0 else if n = 368 then a1 else if n = 382 then a2 else if n = 125 then a3 else if n = 388 then a4 else if n = 227 then a5 else if n = 259 then a6 else 0, fun q hq => ?_⟩
  simp only [msgs, List.mem_cons, List.not_mem_nil, or_false] at hq
  rcases hq with rfl | rfl | rfl | rfl | rfl | rfl | rfl
  · exact vk_R.of (A := args) (hts _ (seg3 (List.mem_of_getElem? (i := 170) rfl))) e0
  · exact vk_R.of (A := args) (hts _ (seg4 (List.mem_of_getElem? (i := 17) rfl))) e1
  · exact vk_R.of (A := args) (hts _ (seg4 (List.mem_of_getElem? (i := 35) rfl))) e2
  · exact vk_R.of (A := args) (hts _ (seg4 (List.mem_of_getElem? (i := 98) rfl))) e3
  · exact vk_R.of (A := args) (hts _ (seg4 (List.mem_of_getElem? (i := 129) rfl))) e4
  · exact vk_R.of (A := args) (hts _ (seg4 (List.mem_of_getElem? (i := 196) rfl))) e5
  · exact vk_R.of (A := args) (hts _ (seg4 (List.mem_of_getElem? (i := 208) rfl))) e6
set_option maxHeartbeats 4000000 in
theorem st_sfk {args : Array Value} {s : State} {A : Nat → Prop} (hts : ∀ w ∈ lw_tbl, w.before args s = true) (hs : ∀ w ∈ flatC (Jvm.Cond.and given_1 narrow_1), w.before args s = true) (hA : ∀ a : Nat, a < s.heap.size → ¬ A a) : ∃ E : Nat → Nat → Nat, SFK E A s s.heap := by
  obtain ⟨a0, h0⟩ := st_comm hts hs hA
  obtain ⟨a1, h1⟩ := st_verd hts hs hA
  obtain ⟨a2, h2, h2'⟩ := st_switch hts hs hA
  obtain ⟨a3, h3⟩ := st_msgs hts hs hA
  obtain ⟨a4, a5, h4, h4'⟩ := st_words hts hs hA
  obtain ⟨a6, h6, h6'⟩ := st_all hts hs hA h0
  have h7 := st_word hts hs hA h0 h4'
  refine ⟨fun k => if k = 0 then a0 else if k = 1 then a1 else if k = 2 then (fun j => if j = 0 then a2 else a6) else if k = 3 then a3 else if k = 4 then a4 else a5, ⟨⟨h0, h1, h2, h2', ?_, ?_, ?_, ?_, h3⟩, h4, h7, ?_, ?_, h6, h6', ?_⟩, ?_, ?_⟩
  · exact vx_Zqof (hts _ (seg3 (List.mem_of_getElem? (i := 156) rfl))) (hts _ (seg1 (List.mem_of_getElem? (i := 13) rfl))) (hs _ (List.mem_of_getElem? (i := 85) (by decide +kernel))) hA
  · exact vx_Zqof (hts _ (seg3 (List.mem_of_getElem? (i := 158) rfl))) (hts _ (seg1 (List.mem_of_getElem? (i := 13) rfl))) (hs _ (List.mem_of_getElem? (i := 86) (by decide +kernel))) hA
  · exact ⟨(va_Nw.of rfl (hts _ (seg3 (List.mem_of_getElem? (i := 76) rfl)))), (va_Nw.of rfl (hts _ (seg2 (List.mem_of_getElem? (i := 94) rfl)))), (va_Nw.of rfl (hts _ (seg2 (List.mem_of_getElem? (i := 136) rfl)))), (va_Nw.of rfl (hts _ (seg2 (List.mem_of_getElem? (i := 156) rfl))))⟩
  · exact ⟨(va_Nw.of rfl (hts _ (seg3 (List.mem_of_getElem? (i := 133) rfl)))), (va_Nw.of rfl (hts _ (seg3 (List.mem_of_getElem? (i := 135) rfl)))), (va_Nw.of rfl (hts _ (seg3 (List.mem_of_getElem? (i := 137) rfl)))), (va_Nw.of rfl (hts _ (seg4 (List.mem_of_getElem? (i := 10) rfl)))), (va_Nw.of rfl (hts _ (seg3 (List.mem_of_getElem? (i := 131) rfl)))), (va_Nw.of rfl (hts _ (seg4 (List.mem_of_getElem? (i := 28) rfl))))⟩
  · exact va_Zof (hts _ (seg3 (List.mem_of_getElem? (i := 14) rfl))) (hts _ (seg1 (List.mem_of_getElem? (i := 22) rfl))) (va_eqt (hs _ (List.mem_of_getElem? (i := 50) (by decide +kernel)))) hA
  · exact va_Zqof (hts _ (seg3 (List.mem_of_getElem? (i := 30) rfl))) (hts _ (seg1 (List.mem_of_getElem? (i := 24) rfl))) (hs _ (List.mem_of_getElem? (i := 51) (by decide +kernel))) hA
  · exact ⟨(va_Nc.of (hs _ (List.mem_of_getElem? (i := 175) (by decide +kernel)))), (va_Nc.of (hs _ (List.mem_of_getElem? (i := 176) (by decide +kernel)))), (va_Nc.of (hs _ (List.mem_of_getElem? (i := 152) (by decide +kernel))))⟩
  · exact va_AO.of (hts _ (seg1 (List.mem_of_getElem? (i := 126) rfl)))
  · exact (hts _ (seg1 (List.mem_of_getElem? (i := 174) rfl)))
