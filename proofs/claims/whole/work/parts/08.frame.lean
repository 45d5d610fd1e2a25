/-! FRAMES: a contract over a world holds over every greater one -/
theorem va_D_iff {A : Nat → Prop} {ws : va_W} : va_D A ws ↔ (ws.map Prod.fst).Nodup ∧ ∀ q ∈ ws, A q.1 := by
  constructor
  · intro h
    refine ⟨?_, fun q hq => ?_⟩
    · refine List.pairwise_iff_getElem.mpr fun i j hi hj hij e => ?_
      rw [List.length_map] at hi hj
      rw [List.getElem_map, List.getElem_map] at e
      have := h.1 i j _ _ (List.getElem?_eq_getElem hi) (List.getElem?_eq_getElem hj) e
      omega
    · obtain ⟨k, hk⟩ := List.getElem?_of_mem hq
      exact h.2 k q hk
  · intro h
    refine ⟨fun i j p q hi hj e => ?_, fun k q hk => h.2 q (List.mem_of_getElem? hk)⟩
    have hn := List.pairwise_iff_getElem.mp h.1
    obtain ⟨li, e1⟩ := List.getElem?_eq_some_iff.mp hi
    obtain ⟨lj, e2⟩ := List.getElem?_eq_some_iff.mp hj
    have li2 : i < (ws.map Prod.fst).length := by rw [List.length_map]; exact li
    have lj2 : j < (ws.map Prod.fst).length := by rw [List.length_map]; exact lj
    rcases Nat.lt_trichotomy i j with h1 | h1 | h1
    · exact absurd (by rw [List.getElem_map, List.getElem_map, e1, e2]; exact e) (hn i j li2 lj2 h1)
    · exact h1
    · exact absurd (by rw [List.getElem_map, List.getElem_map, e1, e2]; exact e.symm) (hn j i lj2 li2 h1)
theorem va_P_iff {D : va_G} {cl : List vw_C} {ws : va_W} {H : Heap} : va_P D cl ws H ↔ ∀ q ∈ ws, va_at D cl q H := ⟨fun h q hq => by
  obtain ⟨k, hk⟩ := List.getElem?_of_mem hq
  exact h k q hk, fun h k q hk => h q (List.mem_of_getElem? hk)⟩
theorem va_A_iff {ws : va_W} {sz q : Nat} : va_A ws sz q ↔ (∃ x ∈ ws, x.1 = q) ∨ sz ≤ q := by
  constructor
  · rintro (⟨k, e, h⟩ | h)
    · exact Or.inl ⟨_, List.mem_of_getElem? h, rfl⟩
    · exact Or.inr h
  · rintro (⟨x, hx, rfl⟩ | h)
    · obtain ⟨k, hk⟩ := List.getElem?_of_mem hx
      exact Or.inl ⟨k, x.2, hk⟩
    · exact Or.inr h
theorem v_perm {X : CxT} {k n : Nat} {ws ws' : va_W} {lv : List (Nat × Value)} {pc : Nat} {st : List Value} (h : ws.Perm ws') (kk : V X k n ws' lv pc st) : V X k n ws lv pc st := by
  obtain ⟨p, l, e, R, s, m, args, below, meth, c, D, A, H0, nL, Q⟩ := X
  intro H locs ls hP hD hS hl
  refine kk H locs ls (va_P_iff.mpr fun q hq => va_P_iff.mp hP q (h.mem_iff.mpr hq)) ?_ hS hl
  have hD := va_D_iff.mp hD
  exact va_D_iff.mpr ⟨(h.map Prod.fst).nodup_iff.mp hD.1, fun q hq => hD.2 q (h.mem_iff.mpr hq)⟩
theorem v_widen {X : CxT} {k n k' n' : Nat} {ws : va_W} {lv : List (Nat × Value)} {pc : Nat} {st : List Value} (h1 : k ≤ k') (h2 : n ≤ n') (kk : V X k' n' ws lv pc st) : V X k n ws lv pc st := by
  obtain ⟨p, l, e, R, s, m, args, below, meth, c, D, A, H0, nL, Q⟩ := X
  intro H locs ls hP hD hS hl
  exact W.widen h1 h2 (kk H locs ls hP hD hS hl)
/-- what a callee on w may touch, beside a frame f -/
theorem frame_post {D : va_G} {w w' f : va_W} {sz : Nat} {H H1 : Heap} (hP : va_P D vwCl (w ++ f) H) (hD : va_D (fun _ => True) (w ++ f)) (hsz : H.size = sz) (hP1 : va_P D vwCl w' H1) (hD1 : va_D (va_A w sz) w') (hk : ∀ q : Nat, q < H.size → ¬ va_A w sz q → H1[q]? = H[q]?) : va_P D vwCl (w' ++ f) H1 ∧ va_D (va_A (w ++ f) sz) (w' ++ f) := by
  have hD := va_D_iff.mp hD
  have hf : ∀ x ∈ f, ¬ va_A w sz x.1 ∧ x.1 < H.size := fun x hx => by
    have hl := (va_P_iff.mp hP x (List.mem_append_right _ hx)).lt
    refine ⟨fun h => ?_, hl⟩
    rcases va_A_iff.mp h with ⟨y, hy, e⟩ | h
    · have hn := hD.1
      rw [List.map_append, List.nodup_append] at hn
      exact hn.2.2 y.1 (List.mem_map_of_mem hy) x.1 (List.mem_map_of_mem hx) e
    · omega
  have hD1' := va_D_iff.mp hD1
  constructor
  · refine va_P_iff.mpr fun q hq => ?_
    rcases List.mem_append.mp hq with h | h
    · exact va_P_iff.mp hP1 q h
    · exact (va_P_iff.mp hP q (List.mem_append_right _ h)).kept (hk q.1 (hf q h).2 (hf q h).1)
  · refine va_D_iff.mpr ⟨?_, fun q hq => ?_⟩
    · rw [List.map_append, List.nodup_append]
      have hn := hD.1
      rw [List.map_append, List.nodup_append] at hn
      refine ⟨hD1'.1, hn.2.1, fun a ha b hb e => ?_⟩
      obtain ⟨x, hx, rfl⟩ := List.mem_map.mp ha
      obtain ⟨y, hy, rfl⟩ := List.mem_map.mp hb
      exact (hf y hy).1 (e ▸ hD1'.2 x hx)
    · rcases List.mem_append.mp hq with h | h
      · rcases va_A_iff.mp (hD1'.2 q h) with ⟨y, hy, e⟩ | h
        · exact va_A_iff.mpr (Or.inl ⟨y, List.mem_append_left _ hy, e⟩)
        · exact Or.inr h
      · exact va_A_iff.mpr (Or.inl ⟨q, List.mem_append_right _ h, rfl⟩)
theorem va_A_app {w f : va_W} {sz q : Nat} (h : va_A w sz q) : va_A (w ++ f) sz q := by
  rcases va_A_iff.mp h with ⟨y, hy, e⟩ | h
  · exact va_A_iff.mpr (Or.inl ⟨y, List.mem_append_left _ hy, e⟩)
  · exact Or.inr h
theorem met_mono {l : Launch} {y : MethodName} {S : Spec} {P P' : Array Value → State → Prop} {Q Q' : Array Value → State → Outcome → State → Prop} (h : MetFree l y S P (fun _ _ _ _ _ => True) Q) (hP : ∀ a s, P' a s → P a s) (hQ : ∀ a s o t, P' a s → Q a s o t → Q' a s o t) : MetFree l y S P' (fun _ _ _ _ _ => True) Q' := by
  intro p e h1 h2 h3 s m args below h4 h5 h6 h7
  obtain ⟨n, o, a1, a2, a3, a4⟩ := h p e h1 h2 h3 s m args below h4 h5 (hP _ _ h6) trivial
  exact ⟨n, o, a1, a2, a3, hQ _ _ _ _ h6 a4⟩
theorem pre_frame {G : SG} (hG : Stat G) {D : va_G} {T : Nat → ClassId} {as : List Value} {w f : va_W} {sz : Nat} {a : Array Value} {s : State} (h : va_Pc as (fun U => U.heap.size = sz ∧ va_P D vwCl (w ++ f) U.heap ∧ va_K D vwCl (tysT T) U ∧ va_D (fun _ => True) (w ++ f) ∧ G (va_A (w ++ f) sz) U U.heap) a s) : va_Pc as (fun U => U.heap.size = sz ∧ va_P D vwCl w U.heap ∧ va_K D vwCl (tysT T) U ∧ va_D (fun _ => True) w ∧ G (va_A w sz) U U.heap) a s := by
  obtain ⟨h0, h1, h2, h3, h4, h5⟩ := h
  have hD := va_D_iff.mp h4
  refine ⟨h0, h1, va_P_iff.mpr fun q hq => va_P_iff.mp h2 q (List.mem_append_left _ hq), h3, va_D_iff.mpr ⟨?_, fun _ _ => trivial⟩, hG.2.2 _ _ _ _ h5 (fun q h => va_A_app h)⟩
  have hn := hD.1
  rw [List.map_append, List.nodup_append] at hn
  exact hn.1
theorem MetM.frame {G : SG} {y : MethodName} {cc : ByteArray} {nL : Nat} {ret : Option FieldType} {rm : Room} {D : va_G} {T : Nat → ClassId} {as : List Value} {w w' : va_W} {r : Option Value} (f : va_W) (h : MetM G y cc nL ret rm D T as w r w') : MetM G y cc nL ret rm D T as (w ++ f) r (w' ++ f) := by
  intro hG l htr sz
  refine met_mono (h hG l htr sz) (fun a s hp => pre_frame hG hp) (fun a s o t hp hq => ?_)
  obtain ⟨⟨h1, h2, h3, h4⟩, L, h5, h6⟩ := hq
  obtain ⟨p0, p1, p2, p3, p4, p5⟩ := hp
  obtain ⟨q1, q2⟩ := frame_post p2 p4 p1 h2 h3 h4.2
  exact ⟨⟨h1, q1, q2, h4.1, fun q hq hA => h4.2 q hq (fun z => hA (va_A_app z))⟩, L, h5, fun q hq => va_A_app (h6 q hq)⟩
theorem MetX.frame {G : SG} {y : MethodName} {cc : ByteArray} {nL : Nat} {ret : Option FieldType} {rm : Room} {D : va_G} {T : Nat → ClassId} {as : List Value} {w w' : va_W} {e9 : String} (f : va_W) (h : MetX G y cc nL ret rm D T as w e9 w') : MetX G y cc nL ret rm D T as (w ++ f) e9 (w' ++ f) := by
  intro hG l htr sz
  refine met_mono (h hG l htr sz) (fun a s hp => pre_frame hG hp) (fun a s o t hp hq => ?_)
  obtain ⟨p0, p1, p2, p3, p4, p5⟩ := hp
  rcases hq with ⟨hq, -⟩ | ⟨q, h1, E, ce, L, ⟨h2, h3, h4, h5⟩, h6, h7, h8, h9, h10, h11⟩
  · exact hq.elim
  · obtain ⟨q1, q2⟩ := frame_post p2 p4 p1 h3 h4 h5.2
    exact Or.inr ⟨q, h1, E, ce, L, ⟨h2, q1, q2, h5.1, fun q hq hA => h5.2 q hq (fun z => hA (va_A_app z))⟩, h6, h7, h8, h9, h10, fun z hz => va_A_app (h11 z hz)⟩
