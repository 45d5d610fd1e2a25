set_option maxRecDepth 100000 in
set_option maxHeartbeats 4000000 in
theorem PV_keepSound {E : Nat → Nat → Nat} {T : Nat → ClassId} {ad ad' : Nat → Nat} {o9 : Nat} : St_keepSound E T (ad 0) (ad' 0) o9 (PI E ad ad' T) := by
  rintro wl wr ⟨σ, c, d, rfl, rfl, hC, hD⟩
  obtain ⟨s', r, wf, pf, cn, np, ℓ, φ, pt, pe, so, se, a, b, e, t, res, et, q, a', b', e', t', hp', g0, g1, g2, m', sv', lp, ℓ1, φ1, pm, tm, en, far, near, ech, lf, dr, mg, ds, ct, pk', e1, e2, q1, q2⟩ := OP_keepSound hC hD
  exact ⟨r, _, _, fun D => Cm_L_keepSound e1, fun D => Rm_keepSound e2, PI_mk q1 q2 rfl rfl⟩
set_option maxRecDepth 100000 in
set_option maxHeartbeats 4000000 in
theorem PV_observe {E : Nat → Nat → Nat} {T : Nat → ClassId} {ad ad' : Nat → Nat} {o9 : Nat} : St_observe E T (ad 0) (ad' 0) o9 (PI E ad ad' T) := by
  rintro wl wr ⟨σ, c, d, rfl, rfl, hC, hD⟩
  obtain ⟨s', r, wf, pf, cn, np, ℓ, φ, pt, pe, so, se, a, b, e, t, res, et, q, a', b', e', t', hp', g0, g1, g2, m', sv', lp, ℓ1, φ1, pm, tm, en, far, near, ech, lf, dr, mg, ds, ct, pk', e1, e2, q1, q2⟩ := OP_observe hC hD
  exact ⟨r, _, _, fun D => Cm_L_observe e1, fun D => Rm_observe e2, PI_mk q1 q2 rfl rfl⟩
set_option maxRecDepth 100000 in
set_option maxHeartbeats 4000000 in
theorem PV_adopt {E : Nat → Nat → Nat} {T : Nat → ClassId} {ad ad' : Nat → Nat} {o9 : Nat} : St_adopt E T (ad 0) (ad' 0) o9 (PI E ad ad' T) := by
  rintro wl wr ⟨σ, c, d, rfl, rfl, hC, hD⟩
  obtain ⟨s', r, wf, pf, cn, np, ℓ, φ, pt, pe, so, se, a, b, e, t, res, et, q, a', b', e', t', hp', g0, g1, g2, m', sv', lp, ℓ1, φ1, pm, tm, en, far, near, ech, lf, dr, mg, ds, ct, pk', pr, pt1, ps, e1, e2, q1, q2⟩ := OP_adopt hC hD
  exact ⟨r, _, _, fun D => Cm_L_adopt e1, fun D => Rm_adopt e2, PI_mk q1 q2 rfl rfl⟩
set_option maxRecDepth 100000 in
set_option maxHeartbeats 4000000 in
theorem PV_run {E : Nat → Nat → Nat} {T : Nat → ClassId} {ad ad' : Nat → Nat} {o9 : Nat} : St_run E T (ad 0) (ad' 0) o9 (PI E ad ad' T) := by
  rintro wl wr ⟨σ, c, d, rfl, rfl, hC, hD⟩
  obtain ⟨σ', r, c', d', e1, e2, q1, q2⟩ := OP_run hC hD
  exact ⟨r, _, _, fun D => Cm_L_run e1, fun D => Rm_run e2, PI_mk q1 q2 rfl rfl⟩
set_option maxRecDepth 100000 in
set_option maxHeartbeats 4000000 in
theorem PV_digest {E : Nat → Nat → Nat} {T : Nat → ClassId} {ad ad' : Nat → Nat} {o9 : Nat} : St_digest E T (ad 0) (ad' 0) o9 (PI E ad ad' T) := by
  rintro wl wr ⟨σ, c, d, rfl, rfl, hC, hD⟩
  obtain ⟨x, wf, pf, a0, b0, e0, t0', res, et, q, a, b, e, t, lp, ℓ1, φ1, pm, tm, en, far, near, ech, lf, dr, mg, ds, ct, pk', pr, pt1, ps, e1, e2, q1⟩ := OP_digest hC hD
  exact ⟨x, _, _, fun D => Cm_L_digest e1, fun D => Rm_digest e2, PI_q q1 hD rfl rfl⟩
theorem provider : Provider := fun E T a a' o9 => ⟨PI E a a' T, first_ok, PI_00, PV_addPart, PV_setPart, PV_removePart, PV_splitPart, PV_reverse, PV_setBench, PV_addPulse, PV_removePulse, PV_part, PV_bench, PV_echo, PV_echoTime, PV_total, PV_arrival, PV_echoByte, PV_keepSound, PV_differences, PV_fault, PV_observe, PV_setObserved, PV_observed, PV_peel, PV_found, PV_adopt, PV_type, PV_clearScript, PV_run, PV_undo, PV_digest⟩
