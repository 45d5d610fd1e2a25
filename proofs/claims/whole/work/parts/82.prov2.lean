set_option maxRecDepth 100000 in
set_option maxHeartbeats 4000000 in
theorem PV_part {E : Nat → Nat → Nat} {T : Nat → ClassId} {ad ad' : Nat → Nat} {o9 : Nat} : St_part E T (ad 0) (ad' 0) o9 (PI E ad ad' T) := by
  rintro wl wr co x1 x2 ⟨σ, c, d, rfl, rfl, hC, hD⟩
  by_cases h : IM x1 0 σ.s.b.n
  · by_cases h2 : IN x2 0 2
    · obtain ⟨r, e1, e2⟩ := OP_part hC hD h h2
      exact ⟨0, _, _, r, _, fun D => Lw_part e1, fun D => Rm_part e2, fun D => Rm_thrown rfl, fun _ => up_at, PI_q hC hD rfl rfl⟩
    · obtain ⟨e1, e2⟩ := OP_part_x1 hC hD h h2
      exact ⟨2, _, _, _, _, fun D => Lx_part_1 e1, fun D => Rm_part e2, fun D => Rm_thrown rfl, fun h => absurd h (by decide), PI_q hC hD rfl rfl⟩
  · obtain ⟨e1, e2⟩ := OP_part_x0 hC hD h
    exact ⟨1, _, _, _, _, fun D => Lx_part_0 e1, fun D => Rm_part e2, fun D => Rm_thrown rfl, fun h => absurd h (by decide), PI_q hC hD rfl rfl⟩
set_option maxRecDepth 100000 in
set_option maxHeartbeats 4000000 in
theorem PV_bench {E : Nat → Nat → Nat} {T : Nat → ClassId} {ad ad' : Nat → Nat} {o9 : Nat} : St_bench E T (ad 0) (ad' 0) o9 (PI E ad ad' T) := by
  rintro wl wr co x1 ⟨σ, c, d, rfl, rfl, hC, hD⟩
  by_cases h : IN x1 0 5
  · obtain ⟨r, e1, e2⟩ := OP_bench hC hD h
    exact ⟨0, _, _, r, _, fun D => Lw_bench e1, fun D => Rm_bench e2, fun D => Rm_thrown rfl, fun _ => up_at, PI_q hC hD rfl rfl⟩
  · obtain ⟨e1, e2⟩ := OP_bench_x (c := c) (d := d) h
    exact ⟨1, _, _, _, _, fun D => Lx_bench_1 e1, fun D => Rm_bench e2, fun D => Rm_thrown rfl, fun h => absurd h (by decide), PI_q hC hD rfl rfl⟩
set_option maxRecDepth 100000 in
set_option maxHeartbeats 4000000 in
theorem PV_observed {E : Nat → Nat → Nat} {T : Nat → ClassId} {ad ad' : Nat → Nat} {o9 : Nat} : St_observed E T (ad 0) (ad' 0) o9 (PI E ad ad' T) := by
  rintro wl wr co x1 ⟨σ, c, d, rfl, rfl, hC, hD⟩
  by_cases h : IN x1 0 200
  · obtain ⟨r, e1, e2⟩ := OP_observed hC hD h
    exact ⟨0, _, _, r, _, fun D => Lw_observed e1, fun D => Rm_observed e2, fun D => Rm_thrown rfl, fun _ => up_at, PI_q hC hD rfl rfl⟩
  · obtain ⟨e1, e2⟩ := OP_observed_x (c := c) (d := d) h
    exact ⟨1, _, _, _, _, fun D => Lx_observed_1 e1, fun D => Rm_observed e2, fun D => Rm_thrown rfl, fun h => absurd h (by decide), PI_q hC hD rfl rfl⟩
set_option maxRecDepth 100000 in
set_option maxHeartbeats 4000000 in
theorem PV_echo {E : Nat → Nat → Nat} {T : Nat → ClassId} {ad ad' : Nat → Nat} {o9 : Nat} : St_echo E T (ad 0) (ad' 0) o9 (PI E ad ad' T) := by
  rintro wl wr co x1 ⟨σ, c, d, rfl, rfl, hC, hD⟩
  by_cases h : IN x1 0 σ.s.b.wn
  · obtain ⟨r, a, b, e, t, lp, ℓ, φ, pm, tm, en, far, near, ech, lf, dr, mg, ds, ct, pk, e1, e2, q1⟩ := OP_echo hC hD h
    exact ⟨0, _, _, r, _, fun D => Lw_echo e1, fun D => Rm_echo e2, fun D => Rm_thrown rfl, fun _ => up_at, PI_q (CR_w hC q1) hD rfl rfl⟩
  · obtain ⟨e1, e2⟩ := OP_echo_x hC hD h
    exact ⟨1, _, _, _, _, fun D => Lx_echo_1 e1, fun D => Rm_echo e2, fun D => Rm_thrown rfl, fun h => absurd h (by decide), PI_q hC hD rfl rfl⟩
set_option maxRecDepth 100000 in
set_option maxHeartbeats 4000000 in
theorem PV_total {E : Nat → Nat → Nat} {T : Nat → ClassId} {ad ad' : Nat → Nat} {o9 : Nat} : St_total E T (ad 0) (ad' 0) o9 (PI E ad ad' T) := by
  rintro wl wr co x1 ⟨σ, c, d, rfl, rfl, hC, hD⟩
  by_cases h : IN x1 0 8
  · obtain ⟨r, a, b, e, t, lp, ℓ, φ, pm, tm, en, far, near, ech, lf, dr, mg, ds, ct, pk, e1, e2, q1⟩ := OP_total hC hD h
    exact ⟨0, _, _, r, _, fun D => Lw_total e1, fun D => Rm_total e2, fun D => Rm_thrown rfl, fun _ => up_at, PI_q (CR_w hC q1) hD rfl rfl⟩
  · obtain ⟨e1, e2⟩ := OP_total_x (c := c) (d := d) h
    exact ⟨1, _, _, _, _, fun D => Lx_total_1 e1, fun D => Rm_total e2, fun D => Rm_thrown rfl, fun h => absurd h (by decide), PI_q hC hD rfl rfl⟩
set_option maxRecDepth 100000 in
set_option maxHeartbeats 4000000 in
theorem PV_echoTime {E : Nat → Nat → Nat} {T : Nat → ClassId} {ad ad' : Nat → Nat} {o9 : Nat} : St_echoTime E T (ad 0) (ad' 0) o9 (PI E ad ad' T) := by
  rintro wl wr co x1 ⟨σ, c, d, rfl, rfl, hC, hD⟩
  by_cases h : 0 ≤ x1.toInt
  · obtain ⟨r, a, b, e, t, lp, ℓ, φ, pm, tm, en, far, near, ech, lf, dr, mg, ds, ct, pk, e1, e2, q1⟩ := OP_echoTime hC hD h
    exact ⟨0, _, _, r, _, fun D => Lw_echoTime e1, fun D => Rm_echoTime e2, fun D => Rm_thrown rfl, fun _ => up_at, PI_q (CR_w hC q1) hD rfl rfl⟩
  · obtain ⟨e1, e2⟩ := OP_echoTime_x (c := c) (d := d) h
    exact ⟨1, _, _, _, _, fun D => Lx_echoTime_1 e1, fun D => Rm_echoTime e2, fun D => Rm_thrown rfl, fun h => absurd h (by decide), PI_q hC hD rfl rfl⟩
set_option maxRecDepth 100000 in
set_option maxHeartbeats 4000000 in
theorem PV_echoByte {E : Nat → Nat → Nat} {T : Nat → ClassId} {ad ad' : Nat → Nat} {o9 : Nat} : St_echoByte E T (ad 0) (ad' 0) o9 (PI E ad ad' T) := by
  rintro wl wr co x1 ⟨σ, c, d, rfl, rfl, hC, hD⟩
  by_cases h : 0 ≤ x1.toInt
  · obtain ⟨r, a, b, e, t, lp, ℓ, φ, pm, tm, en, far, near, ech, lf, dr, mg, ds, ct, pk, e1, e2, q1⟩ := OP_echoByte hC hD h
    exact ⟨0, _, _, r, _, fun D => Lw_echoByte e1, fun D => Rm_echoByte e2, fun D => Rm_thrown rfl, fun _ => up_at, PI_q (CR_w hC q1) hD rfl rfl⟩
  · obtain ⟨e1, e2⟩ := OP_echoByte_x (c := c) (d := d) h
    exact ⟨1, _, _, _, _, fun D => Lx_echoByte_1 e1, fun D => Rm_echoByte e2, fun D => Rm_thrown rfl, fun h => absurd h (by decide), PI_q hC hD rfl rfl⟩
set_option maxRecDepth 100000 in
set_option maxHeartbeats 4000000 in
theorem PV_fault {E : Nat → Nat → Nat} {T : Nat → ClassId} {ad ad' : Nat → Nat} {o9 : Nat} : St_fault E T (ad 0) (ad' 0) o9 (PI E ad ad' T) := by
  rintro wl wr co x1 ⟨σ, c, d, rfl, rfl, hC, hD⟩
  by_cases h : IN x1 0 3
  · obtain ⟨r, a, b, e, t, lp, ℓ, φ, pm, tm, en, far, near, ech, lf, dr, mg, ds, ct, pk, e1, e2, q1⟩ := OP_fault hC hD h
    exact ⟨0, _, _, r, _, fun D => Lw_fault e1, fun D => Rm_fault e2, fun D => Rm_thrown rfl, fun _ => up_at, PI_q (CR_w hC q1) hD rfl rfl⟩
  · obtain ⟨e1, e2⟩ := OP_fault_x (c := c) (d := d) h
    exact ⟨1, _, _, _, _, fun D => Lx_fault_1 e1, fun D => Rm_fault e2, fun D => Rm_thrown rfl, fun h => absurd h (by decide), PI_q hC hD rfl rfl⟩
set_option maxRecDepth 100000 in
set_option maxHeartbeats 4000000 in
theorem PV_arrival {E : Nat → Nat → Nat} {T : Nat → ClassId} {ad ad' : Nat → Nat} {o9 : Nat} : St_arrival E T (ad 0) (ad' 0) o9 (PI E ad ad' T) := by
  rintro wl wr co x1 x2 x3 ⟨σ, c, d, rfl, rfl, hC, hD⟩ h3
  by_cases h : IN x1 0 σ.s.b.n
  · by_cases h2 : IN x2 0 σ.s.b.wn
    · obtain ⟨r, a, b, e, t, lp, ℓ, φ, pm, tm, en, far, near, ech, lf, dr, mg, ds, ct, pk, e1, e2, q1⟩ := OP_arrival hC hD h h2 h3
      exact ⟨0, _, _, r, _, fun D => Lw_arrival e1, fun D => Rm_arrival e2, fun D => Rm_thrown rfl, fun _ => up_at, PI_q (CR_w hC q1) hD rfl rfl⟩
    · obtain ⟨e1, e2⟩ := OP_arrival_x1 hC hD h h2
      exact ⟨2, _, _, _, _, fun D => Lx_arrival_1 e1, fun D => Rm_arrival e2, fun D => Rm_thrown rfl, fun h => absurd h (by decide), PI_q hC hD rfl rfl⟩
  · obtain ⟨e1, e2⟩ := OP_arrival_x0 hC hD h
    exact ⟨1, _, _, _, _, fun D => Lx_arrival_0 e1, fun D => Rm_arrival e2, fun D => Rm_thrown rfl, fun h => absurd h (by decide), PI_q hC hD rfl rfl⟩
set_option maxRecDepth 100000 in
set_option maxHeartbeats 4000000 in
theorem PV_differences {E : Nat → Nat → Nat} {T : Nat → ClassId} {ad ad' : Nat → Nat} {o9 : Nat} : St_differences E T (ad 0) (ad' 0) o9 (PI E ad ad' T) := by
  rintro wl wr ⟨σ, c, d, rfl, rfl, hC, hD⟩
  obtain ⟨r, a, b, e, t, lp, ℓ, φ, pm, tm, en, far, near, ech, lf, dr, mg, ds, ct, pk, e1, e2, q1⟩ := OP_differences hC hD
  exact ⟨r, _, _, fun D => Cm_L_differences e1, fun D => Rm_differences e2, PI_q (CR_w hC q1) hD rfl rfl⟩
set_option maxRecDepth 100000 in
set_option maxHeartbeats 4000000 in
theorem PV_peel {E : Nat → Nat → Nat} {T : Nat → ClassId} {ad ad' : Nat → Nat} {o9 : Nat} : St_peel E T (ad 0) (ad' 0) o9 (PI E ad ad' T) := by
  rintro wl wr co x1 ⟨σ, c, d, rfl, rfl, hC, hD⟩
  by_cases h : IN x1 0 3
  · obtain ⟨x, res, et, q, a, b, e, t, lp, ℓ, φ, pm, tm, en, far, near, ech, lf, dr, mg, ds, ct, pk, pr, pt, ps, e1, e2, q1⟩ := OP_peel hC hD h
    exact ⟨0, _, _, x, _, fun D => Lw_peel e1, fun D => Rm_peel e2, fun D => Rm_thrown rfl, fun _ => up_at, PI_q (CR_p hC q1) hD rfl rfl⟩
  · obtain ⟨e1, e2⟩ := OP_peel_x (c := c) (d := d) h
    exact ⟨1, _, _, _, _, fun D => Lx_peel_1 e1, fun D => Rm_peel e2, fun D => Rm_thrown rfl, fun h => absurd h (by decide), PI_q hC hD rfl rfl⟩
set_option maxRecDepth 100000 in
set_option maxHeartbeats 4000000 in
theorem PV_found {E : Nat → Nat → Nat} {T : Nat → ClassId} {ad ad' : Nat → Nat} {o9 : Nat} : St_found E T (ad 0) (ad' 0) o9 (PI E ad ad' T) := by
  rintro wl wr co x1 x2 ⟨σ, c, d, rfl, rfl, hC, hD⟩
  by_cases h : 0 ≤ x1.toInt ∧ IN x2 0 1
  · obtain ⟨x, res, et, q, a, b, e, t, lp, ℓ, φ, pm, tm, en, far, near, ech, lf, dr, mg, ds, ct, pk, pr, pt, ps, e1, e2, q1⟩ := OP_found hC hD h.1 h.2
    exact ⟨0, _, _, x, _, fun D => Lw_found e1, fun D => Rm_found e2, fun D => Rm_thrown rfl, fun _ => up_at, PI_q (CR_p hC q1) hD rfl rfl⟩
  · obtain ⟨e1, e2⟩ := OP_found_x (c := c) (d := d) h
    exact ⟨1, _, _, _, _, fun D => Lx_found_1 e1, fun D => Rm_found e2, fun D => Rm_thrown rfl, fun h => absurd h (by decide), PI_q hC hD rfl rfl⟩
