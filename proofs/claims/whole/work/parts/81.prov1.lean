set_option maxRecDepth 100000 in
set_option maxHeartbeats 4000000 in
theorem PV_addPart {E : Nat → Nat → Nat} {T : Nat → ClassId} {ad ad' : Nat → Nat} {o9 : Nat} : St_addPart E T (ad 0) (ad' 0) o9 (PI E ad ad' T) := by
  rintro wl wr co x1 x2 ⟨σ, c, d, rfl, rfl, hC, hD⟩
  rcases nz_c (vd 0 σ.s.b x1 x2 (kI 0)) with hv | ⟨v, hv⟩
  · obtain ⟨r, cn, np, ℓ, φ, pt, pe, hp', g0, g1, g2, m', sv', e1, e2, q1, q2⟩ := OP_addPart hC hD hv
    exact ⟨0, _, _, r, _, fun D => Lw_addPart e1, fun D => Rm_addPart e2, fun D => Rm_thrown rfl, fun _ => up_at, PI_mk q1 q2 rfl rfl⟩
  · have hle := vd_3 0 σ.s.b x1 x2 (kI 0)
    have hne := vd_01 σ.s.b x1 x2 (kI 0)
    have hw : v = 1 ∨ v = 2 := by omega
    rcases hw with rfl | rfl
    · obtain ⟨e1, e2⟩ := OP_addPart_x hC hD hv
      exact ⟨1, _, _, _, _, fun D => Lx_addPart_1 e1, fun D => Rm_addPart e2, fun D => Rm_thrown rfl, fun h => absurd h (by decide), PI_q hC hD rfl rfl⟩
    · obtain ⟨e1, e2⟩ := OP_addPart_x hC hD hv
      exact ⟨2, _, _, _, _, fun D => Lx_addPart_2 e1, fun D => Rm_addPart e2, fun D => Rm_thrown rfl, fun h => absurd h (by decide), PI_q hC hD rfl rfl⟩
set_option maxRecDepth 100000 in
set_option maxHeartbeats 4000000 in
theorem PV_setPart {E : Nat → Nat → Nat} {T : Nat → ClassId} {ad ad' : Nat → Nat} {o9 : Nat} : St_setPart E T (ad 0) (ad' 0) o9 (PI E ad ad' T) := by
  rintro wl wr co x1 x2 x3 ⟨σ, c, d, rfl, rfl, hC, hD⟩
  rcases nz_c (vd 1 σ.s.b x1 x2 x3) with hv | ⟨v, hv⟩
  · obtain ⟨r, cn, np, ℓ, φ, pt, pe, hp', g0, g1, g2, m', sv', e1, e2, q1, q2⟩ := OP_setPart hC hD hv
    exact ⟨0, _, _, r, _, fun D => Lw_setPart e1, fun D => Rm_setPart e2, fun D => Rm_thrown rfl, fun _ => up_at, PI_mk q1 q2 rfl rfl⟩
  · have hle := vd_1le σ.s.b x1 x2 x3
    have hw : v = 0 ∨ v = 1 := by omega
    rcases hw with rfl | rfl
    · obtain ⟨e1, e2⟩ := OP_setPart_x hC hD hv
      exact ⟨1, _, _, _, _, fun D => Lx_setPart_0 e1, fun D => Rm_setPart e2, fun D => Rm_thrown rfl, fun h => absurd h (by decide), PI_q hC hD rfl rfl⟩
    · obtain ⟨e1, e2⟩ := OP_setPart_x hC hD hv
      exact ⟨2, _, _, _, _, fun D => Lx_setPart_1 e1, fun D => Rm_setPart e2, fun D => Rm_thrown rfl, fun h => absurd h (by decide), PI_q hC hD rfl rfl⟩
set_option maxRecDepth 100000 in
set_option maxHeartbeats 4000000 in
theorem PV_removePart {E : Nat → Nat → Nat} {T : Nat → ClassId} {ad ad' : Nat → Nat} {o9 : Nat} : St_removePart E T (ad 0) (ad' 0) o9 (PI E ad ad' T) := by
  rintro wl wr co x1 ⟨σ, c, d, rfl, rfl, hC, hD⟩
  rcases nz_c (vd 2 σ.s.b x1 (kI 0) (kI 0)) with hv | ⟨v, hv⟩
  · obtain ⟨r, cn, np, ℓ, φ, pt, pe, hp', g0, g1, g2, m', sv', e1, e2, q1, q2⟩ := OP_removePart hC hD hv
    exact ⟨0, _, _, r, _, fun D => Lw_removePart e1, fun D => Rm_removePart e2, fun D => Rm_thrown rfl, fun _ => up_at, PI_mk q1 q2 rfl rfl⟩
  · have hle := vd_2le σ.s.b x1 (kI 0) (kI 0)
    have hw : v = 0 := by omega
    subst hw
    obtain ⟨e1, e2⟩ := OP_removePart_x hC hD hv
    exact ⟨1, _, _, _, _, fun D => Lx_removePart_0 e1, fun D => Rm_removePart e2, fun D => Rm_thrown rfl, fun h => absurd h (by decide), PI_q hC hD rfl rfl⟩
set_option maxRecDepth 100000 in
set_option maxHeartbeats 4000000 in
theorem PV_splitPart {E : Nat → Nat → Nat} {T : Nat → ClassId} {ad ad' : Nat → Nat} {o9 : Nat} : St_splitPart E T (ad 0) (ad' 0) o9 (PI E ad ad' T) := by
  rintro wl wr co x1 x2 x3 ⟨σ, c, d, rfl, rfl, hC, hD⟩
  rcases nz_c (vd 3 σ.s.b x1 x2 x3) with hv | ⟨v, hv⟩
  · obtain ⟨r, cn, np, ℓ, φ, pt, pe, hp', g0, g1, g2, m', sv', e1, e2, q1, q2⟩ := OP_splitPart hC hD hv
    exact ⟨0, _, _, r, _, fun D => Lw_splitPart e1, fun D => Rm_splitPart e2, fun D => Rm_thrown rfl, fun _ => up_at, PI_mk q1 q2 rfl rfl⟩
  · have hle := vd_3 3 σ.s.b x1 x2 x3
    have hw : v = 0 ∨ v = 1 ∨ v = 2 := by omega
    rcases hw with rfl | rfl | rfl
    · obtain ⟨e1, e2⟩ := OP_splitPart_x hC hD hv
      exact ⟨1, _, _, _, _, fun D => Lx_splitPart_0 e1, fun D => Rm_splitPart e2, fun D => Rm_thrown rfl, fun h => absurd h (by decide), PI_q hC hD rfl rfl⟩
    · obtain ⟨e1, e2⟩ := OP_splitPart_x hC hD hv
      exact ⟨2, _, _, _, _, fun D => Lx_splitPart_1 e1, fun D => Rm_splitPart e2, fun D => Rm_thrown rfl, fun h => absurd h (by decide), PI_q hC hD rfl rfl⟩
    · obtain ⟨e1, e2⟩ := OP_splitPart_x hC hD hv
      exact ⟨3, _, _, _, _, fun D => Lx_splitPart_2 e1, fun D => Rm_splitPart e2, fun D => Rm_thrown rfl, fun h => absurd h (by decide), PI_q hC hD rfl rfl⟩
set_option maxRecDepth 100000 in
set_option maxHeartbeats 4000000 in
theorem PV_addPulse {E : Nat → Nat → Nat} {T : Nat → ClassId} {ad ad' : Nat → Nat} {o9 : Nat} : St_addPulse E T (ad 0) (ad' 0) o9 (PI E ad ad' T) := by
  rintro wl wr co x1 x2 ⟨σ, c, d, rfl, rfl, hC, hD⟩
  rcases nz_c (vd 4 σ.s.b x1 x2 (kI 0)) with hv | ⟨v, hv⟩
  · obtain ⟨r, cn, np, ℓ, φ, pt, pe, hp', g0, g1, g2, m', sv', e1, e2, q1, q2⟩ := OP_addPulse hC hD hv
    exact ⟨0, _, _, r, _, fun D => Lw_addPulse e1, fun D => Rm_addPulse e2, fun D => Rm_thrown rfl, fun _ => up_at, PI_mk q1 q2 rfl rfl⟩
  · have hle := vd_3 4 σ.s.b x1 x2 (kI 0)
    have hne := vd_41 σ.s.b x1 x2 (kI 0)
    have hw : v = 1 ∨ v = 2 := by omega
    rcases hw with rfl | rfl
    · obtain ⟨e1, e2⟩ := OP_addPulse_x hC hD hv
      exact ⟨1, _, _, _, _, fun D => Lx_addPulse_1 e1, fun D => Rm_addPulse e2, fun D => Rm_thrown rfl, fun h => absurd h (by decide), PI_q hC hD rfl rfl⟩
    · obtain ⟨e1, e2⟩ := OP_addPulse_x hC hD hv
      exact ⟨2, _, _, _, _, fun D => Lx_addPulse_2 e1, fun D => Rm_addPulse e2, fun D => Rm_thrown rfl, fun h => absurd h (by decide), PI_q hC hD rfl rfl⟩
set_option maxRecDepth 100000 in
set_option maxHeartbeats 4000000 in
theorem PV_reverse {E : Nat → Nat → Nat} {T : Nat → ClassId} {ad ad' : Nat → Nat} {o9 : Nat} : St_reverse E T (ad 0) (ad' 0) o9 (PI E ad ad' T) := by
  rintro wl wr ⟨σ, c, d, rfl, rfl, hC, hD⟩
  obtain ⟨r, ℓ, φ, hp', g0, g1, g2, m', sv', e1, e2, q1, q2⟩ := OP_reverse hC hD
  exact ⟨r, _, _, fun D => Cm_L_reverse e1, fun D => Rm_reverse e2, PI_mk q1 q2 rfl rfl⟩
set_option maxRecDepth 100000 in
set_option maxHeartbeats 4000000 in
theorem PV_setBench {E : Nat → Nat → Nat} {T : Nat → ClassId} {ad ad' : Nat → Nat} {o9 : Nat} : St_setBench E T (ad 0) (ad' 0) o9 (PI E ad ad' T) := by
  rintro wl wr co x1 x2 x3 ⟨σ, c, d, rfl, rfl, hC, hD⟩
  by_cases h : SB x1 x2 x3
  · obtain ⟨r, hp', g0, g1, g2, m', sv', e1, e2, q1, q2⟩ := OP_setBench hC hD h
    exact ⟨0, _, _, r, _, fun D => Lw_setBench e1, fun D => Rm_setBench e2, fun D => Rm_thrown rfl, fun _ => up_at, PI_mk q1 q2 rfl rfl⟩
  · obtain ⟨e1, e2⟩ := OP_setBench_x (c := c) hD h
    exact ⟨1, _, _, _, _, fun D => Lx_setBench_1 e1, fun D => Rm_setBench e2, fun D => Rm_thrown rfl, fun h => absurd h (by decide), PI_q hC hD rfl rfl⟩
set_option maxRecDepth 100000 in
set_option maxHeartbeats 4000000 in
theorem PV_removePulse {E : Nat → Nat → Nat} {T : Nat → ClassId} {ad ad' : Nat → Nat} {o9 : Nat} : St_removePulse E T (ad 0) (ad' 0) o9 (PI E ad ad' T) := by
  rintro wl wr co x1 ⟨σ, c, d, rfl, rfl, hC, hD⟩
  by_cases h : IM x1 0 σ.s.b.np
  · by_cases h1 : σ.s.b.np = 1
    · obtain ⟨e1, e2⟩ := OP_removePulse_x2 hC hD h h1
      exact ⟨2, _, _, _, _, fun D => Lx_removePulse_2 e1, fun D => Rm_removePulse e2, fun D => Rm_thrown rfl, fun h => absurd h (by decide), PI_q hC hD rfl rfl⟩
    · obtain ⟨r, np, pt, pe, hp', g0, g1, g2, m', sv', e1, e2, q1, q2⟩ := OP_removePulse hC hD h h1
      exact ⟨0, _, _, r, _, fun D => Lw_removePulse e1, fun D => Rm_removePulse e2, fun D => Rm_thrown rfl, fun _ => up_at, PI_mk q1 q2 rfl rfl⟩
  · obtain ⟨e1, e2⟩ := OP_removePulse_x0 hC hD h
    exact ⟨1, _, _, _, _, fun D => Lx_removePulse_0 e1, fun D => Rm_removePulse e2, fun D => Rm_thrown rfl, fun h => absurd h (by decide), PI_q hC hD rfl rfl⟩
set_option maxRecDepth 100000 in
set_option maxHeartbeats 4000000 in
theorem PV_setObserved {E : Nat → Nat → Nat} {T : Nat → ClassId} {ad ad' : Nat → Nat} {o9 : Nat} : St_setObserved E T (ad 0) (ad' 0) o9 (PI E ad ad' T) := by
  rintro wl wr co x1 y ⟨σ, c, d, rfl, rfl, hC, hD⟩
  by_cases h : SO x1 y
  · obtain ⟨σ', r, se, hp', g0, g1, g2, m', sv', e1, e2, q1, q2⟩ := OP_setObserved hC hD h
    exact ⟨0, _, _, r, _, fun D => Lw_setObserved e1, fun D => Rm_setObserved e2, fun D => Rm_thrown rfl, fun _ => up_at, PI_mk q1 q2 rfl rfl⟩
  · obtain ⟨e1, e2⟩ := OP_setObserved_x (c := c) hD h
    exact ⟨1, _, _, _, _, fun D => Lx_setObserved_1 e1, fun D => Rm_setObserved e2, fun D => Rm_thrown rfl, fun h => absurd h (by decide), PI_q hC hD rfl rfl⟩
set_option maxRecDepth 100000 in
set_option maxHeartbeats 4000000 in
theorem PV_undo {E : Nat → Nat → Nat} {T : Nat → ClassId} {ad ad' : Nat → Nat} {o9 : Nat} : St_undo E T (ad 0) (ad' 0) o9 (PI E ad ad' T) := by
  rintro wl wr co ⟨σ, c, d, rfl, rfl, hC, hD⟩
  by_cases h : ¬ σ.k = 0
  · obtain ⟨r, g, m', e1, e2, q1, q2⟩ := OP_undo hC hD h
    exact ⟨0, _, _, r, _, fun D => Lw_undo e1, fun D => Rm_undo e2, fun D => Rm_thrown rfl, fun _ => up_at, PI_mk q1 q2 rfl rfl⟩
  · obtain ⟨e1, e2⟩ := OP_undo_x hC hD (Decidable.not_not.mp h)
    exact ⟨1, _, _, _, _, fun D => Lx_undo_2 e1, fun D => Rm_undo e2, fun D => Rm_thrown rfl, fun h => absurd h (by decide), PI_q hC hD rfl rfl⟩
set_option maxRecDepth 100000 in
set_option maxHeartbeats 4000000 in
theorem PV_type {E : Nat → Nat → Nat} {T : Nat → ClassId} {ad ad' : Nat → Nat} {o9 : Nat} : St_type E T (ad 0) (ad' 0) o9 (PI E ad ad' T) := by
  rintro wl wr co x1 ⟨σ, c, d, rfl, rfl, hC, hD⟩
  by_cases h : IN x1 0 127
  · by_cases h1 : σ.L = 120
    · obtain ⟨e1, e2⟩ := OP_type_x2 hC hD h h1
      exact ⟨2, _, _, _, _, fun D => Lx_type_2 e1, fun D => Rm_type e2, fun D => Rm_thrown rfl, fun h => absurd h (by decide), PI_q hC hD rfl rfl⟩
    · obtain ⟨σ', r, sl, B, S', e1, e2, q1, q2⟩ := OP_type hC hD h h1
      exact ⟨0, _, _, r, _, fun D => Lw_type e1, fun D => Rm_type e2, fun D => Rm_thrown rfl, fun _ => up_at, PI_mk q1 q2 rfl rfl⟩
  · obtain ⟨e1, e2⟩ := OP_type_x1 (c := c) hD h
    exact ⟨1, _, _, _, _, fun D => Lx_type_1 e1, fun D => Rm_type e2, fun D => Rm_thrown rfl, fun h => absurd h (by decide), PI_q hC hD rfl rfl⟩
set_option maxRecDepth 100000 in
set_option maxHeartbeats 4000000 in
theorem PV_clearScript {E : Nat → Nat → Nat} {T : Nat → ClassId} {ad ad' : Nat → Nat} {o9 : Nat} : St_clearScript E T (ad 0) (ad' 0) o9 (PI E ad ad' T) := by
  rintro wl wr ⟨σ, c, d, rfl, rfl, hC, hD⟩
  obtain ⟨e1, e2, q1, q2⟩ := OP_clearScript hC hD
  exact ⟨_, _, _, fun D => Cm_L_clearScript e1, fun D => Rm_clearScript e2, PI_mk q1 q2 rfl rfl⟩
