abbrev CK.w (E : Nat → Nat → Nat) (ad : Nat → Nat) (T : Nat → ClassId) (c : CK) : va_W := wL E ad T c.waveIsFresh c.peelingIsFresh c.n.count c.n.front c.n.least c.n.window c.n.pulses c.n.lengths c.n.fractions c.n.pulseTimes c.n.pulseEnergies c.n.sound c.n.seen c.hcount c.hp c.h0.count c.h0.front c.h0.least c.h0.window c.h0.pulses c.h0.lengths c.h0.fractions c.h0.pulseTimes c.h0.pulseEnergies c.h0.sound c.h0.seen c.h1.count c.h1.front c.h1.least c.h1.window c.h1.pulses c.h1.lengths c.h1.fractions c.h1.pulseTimes c.h1.pulseEnergies c.h1.sound c.h1.seen c.h2.count c.h2.front c.h2.least c.h2.window c.h2.pulses c.h2.lengths c.h2.fractions c.h2.pulseTimes c.h2.pulseEnergies c.h2.sound c.h2.seen c.s_length c.s_command c.s_position c.s_fault c.s_bytes c.s_numbers c.w_near c.w_far c.w_echoes c.w_totals c.p_result c.p_endTime c.q.count c.q.front c.q.least c.q.window c.q.pulses c.q.lengths c.q.fractions c.q.pulseTimes c.q.pulseEnergies c.t_near c.t_far c.t_echoes c.t_totals
abbrev RK.w (ad : Nat → Nat) (T : Nat → ClassId) (d : RK) : va_W := wR ad T d.m d.saved d.savedCount d.script d.scriptLength d.code d.lineParts d.lengths d.fractions d.pulseMany d.times d.energies d.far d.near d.echoes d.left d.dropped d.merged d.drops d.contributions d.packet d.peelResult d.peelTime d.peelSum d.at_ d.commands d.draft d.hash
def PI (E : Nat → Nat → Nat) (ad ad' : Nat → Nat) (T : Nat → ClassId) (wl wr : va_W) : Prop := ∃ (σ : SS) (c : CK) (d : RK), wl = CK.w E ad T c ∧ wr = RK.w ad' T d ∧ CR σ c ∧ DL σ d
theorem PI_mk {E : Nat → Nat → Nat} {T : Nat → ClassId} {ad ad' : Nat → Nat} {wl wr : va_W} {σ : SS} {c : CK} {d : RK} (hC : CR σ c) (hD : DL σ d) (h1 : wl = CK.w E ad T c) (h2 : wr = RK.w ad' T d) : PI E ad ad' T wl wr := ⟨σ, c, d, h1, h2, hC, hD⟩
theorem PI_q {E : Nat → Nat → Nat} {T : Nat → ClassId} {ad ad' : Nat → Nat} {wl wr : va_W} {σ : SS} {c : CK} {d : RK} {c_code : Int32} {c_lineParts : Int32} {c_lengths : Nat → Int32} {c_fractions : Nat → Int32} {c_pulseMany : Int32} {c_times : Nat → Int32} {c_energies : Nat → Int64} {c_far : Nat → Int64} {c_near : Nat → Int64} {c_echoes : Nat → Int64} {c_left : Int64} {c_dropped : Int64} {c_merged : Int32} {c_drops : Int32} {c_contributions : Int32} {c_packet : Int64} {c_peelResult : Int32} {c_peelTime : Int32} {c_peelSum : Int32} {c_at : Int32} {c_commands : Int32} {c_draft : Nat → Int32} {c_hash : Int64} (hC : CR σ c) (hD : DL σ d) (h1 : wl = CK.w E ad T c) (h2 : wr = wR ad' T d.m d.saved d.savedCount d.script d.scriptLength c_code c_lineParts c_lengths c_fractions c_pulseMany c_times c_energies c_far c_near c_echoes c_left c_dropped c_merged c_drops c_contributions c_packet c_peelResult c_peelTime c_peelSum c_at c_commands c_draft c_hash) : PI E ad ad' T wl wr := ⟨σ, c, (RK.mk d.m d.saved d.savedCount d.script d.scriptLength c_code c_lineParts c_lengths c_fractions c_pulseMany c_times c_energies c_far c_near c_echoes c_left c_dropped c_merged c_drops c_contributions c_packet c_peelResult c_peelTime c_peelSum c_at c_commands c_draft c_hash), h1, h2, hC, hD⟩
theorem first_ok {E : Nat → Nat → Nat} {T : Nat → ClassId} {ad ad' : Nat → Nat} : FirstOK (ad 0) (ad' 0) (PI E ad ad' T) := by
  rintro wl wr ⟨σ, c, d, rfl, rfl, hC, hD⟩
  exact ⟨⟨_, rfl⟩, ⟨_, rfl⟩⟩
abbrev b00 : Bn := Bn.mk 0 (fun _ => 0) (fun _ => 0) 0 1 100 1 (fun _ => 0) (fun _ => 100000)
abbrev s00 : Sx := Sx.mk b00 (fun _ => 0) (fun _ => 0)
abbrev σ00 : SS := SS.mk s00 0 (fun _ => s00) 0 (fun _ => 0)
abbrev n00 : SC := SC.mk 0 0 1 100 1 (fun _ => 0) (fun _ => 0) (fun _ => 0) pe0 (fun _ => 0) (fun _ => 0)
abbrev q00 : QC := QC.mk 0 0 1 100 1 (fun _ => 0) (fun _ => 0) (fun _ => 0) pe0
abbrev c00 : CK := CK.mk 0 0 n00 0 (fun j => j) n00 n00 n00 0 0 0 (-1) (fun _ => 0) (fun _ => 0) (fun _ _ => 0) (fun _ _ => 0) (fun _ => 0) (fun _ => 0) 0 (-1) q00 (fun _ _ => 0) (fun _ _ => 0) (fun _ => 0) (fun _ => 0)
abbrev d00 : RK := RK.mk m00 (fun _ => 0) 0 (fun _ => 0) 0 0 0 (fun _ => 0) (fun _ => 0) 0 (fun _ => 0) (fun _ => 0) (fun _ => 0) (fun _ => 0) (fun _ => 0) 0 0 0 0 0 0 0 0 0 0 0 (fun _ => 0) 0
theorem one_lt {i : Nat} (h : i < 1) : i = 0 := by omega
theorem s00_ok : s00.OK := ⟨⟨Nat.zero_le _, fun k h => absurd h (Nat.not_lt_zero _), by decide, by decide, ⟨by decide, by decide⟩, by decide, by decide, fun i h => ⟨(by decide : 0 ≤ 100), (by decide : 1 ≤ 100000), (by decide : 100000 ≤ 1000000)⟩⟩, fun t h => ⟨Nat.zero_le _, Nat.zero_le _⟩⟩
theorem n00_R : n00.R s00 := ⟨⟨rfl, rfl, rfl, rfl, rfl, fun k h => absurd h (Nat.not_lt_zero _), fun k h => absurd h (Nat.not_lt_zero _), fun i h => rfl, fun i h => by rw [one_lt h]; rfl⟩, fun t h => rfl, fun t h => rfl⟩
theorem CR00 : CR σ00 c00 := ⟨⟨s00_ok, Nat.zero_le _, fun i h => absurd h (Nat.not_lt_zero _), Nat.zero_le _, fun u h => absurd h (Nat.not_lt_zero _)⟩, n00_R, ⟨Nat.zero_le _, rfl, fun i h => h, fun i j _ _ h => h, fun i h => absurd h (Nat.not_lt_zero _)⟩, ⟨rfl, fun u h => absurd h (Nat.not_lt_zero _)⟩, .inl rfl, .inl rfl⟩
theorem m00_far {j : Nat} (h : 22 < j) : m00 j = kL 0 := by
  unfold m00 vp_updL
  rw [if_neg (by omega), if_neg (by omega), if_neg (by omega), if_neg (by omega)]
  rfl
theorem DL00 : DL σ00 d00 := ⟨⟨rfl, fun k h => absurd h (Nat.not_lt_zero _), fun k h => absurd h (Nat.not_lt_zero _), rfl, rfl, rfl, rfl, fun i h => by rw [one_lt h]; rfl, fun i h => by rw [one_lt h]; rfl, fun t h => m00_far (by omega), fun t h => m00_far (by omega)⟩, ⟨Nat.zero_le _, rfl, fun i h => absurd h (Nat.not_lt_zero _)⟩, rfl, fun u h => absurd h (Nat.not_lt_zero _)⟩
theorem PI_00 {E : Nat → Nat → Nat} {T : Nat → ClassId} {ad ad' : Nat → Nat} : PI E ad ad' T (wL0 E ad T) (wR0 ad' T) := PI_mk CR00 DL00 rfl rfl
theorem nz_c (n : Nat) : n = 0 ∨ ∃ v, n = v + 1 := by
  cases n with
  | zero => exact .inl rfl
  | succ v => exact .inr ⟨v, rfl⟩
theorem vd_1le (b : Bn) (x1 x2 x3 : Int32) : vd 1 b x1 x2 x3 ≤ 2 := by
  unfold vd vSet
  rw [if_neg (by omega), if_pos rfl]
  repeat' split
  all_goals omega
theorem vd_2le (b : Bn) (x1 x2 x3 : Int32) : vd 2 b x1 x2 x3 ≤ 1 := by
  rw [vd_2]
  unfold vCut
  repeat' split
  all_goals omega
