
set_option maxHeartbeats 4000000 in
set_option maxRecDepth 100000 in
/-- the classes that the tables know, and what they say of nest mates and of arrays -/
theorem lw_ctx {args : Array Value} {s : State} (hts : ∀ w ∈ lw_tbl, w.before args s = true) : ∃ (D : va_G) (cy : Nat → ClassId), KW D cy s := by
  obtain ⟨c0, i0, k0⟩ := u_known (C := RX0) (T := TX0) (N := 7) (n := 7) hts lx_0 (hts (.instantiable RX0 7) (by decide +kernel))
  obtain ⟨c1, i1, k1⟩ := u_known (C := RX1) (T := TX1) (N := 3) (n := 3) hts lx_1 (hts (.instantiable RX1 3) (by decide +kernel))
  obtain ⟨c2, i2, k2⟩ := u_known (C := RX2) (T := TX2) (N := 6) (n := 6) hts lx_2 (hts (.instantiable RX2 6) (by decide +kernel))
  obtain ⟨c3, i3, k3⟩ := u_known (C := RX3) (T := TX3) (N := 6) (n := 6) hts lx_3 (hts (.instantiable RX3 6) (by decide +kernel))
  obtain ⟨c4, i4, k4⟩ := u_known (C := RX4) (T := TX4) (N := 10) (n := 10) hts lx_4 (hts (.instantiable RX4 10) (by decide +kernel))
  obtain ⟨c5, i5, k5⟩ := u_known (C := RX5) (T := TX5) (N := 16) (n := 16) hts lx_5 (hts (.instantiable RX5 16) (by decide +kernel))
  obtain ⟨c6, i6, k6⟩ := u_known (C := RX6) (T := TX6) (N := 15) (n := 15) hts lx_6 (hts (.instantiable RX6 15) (by decide +kernel))
  obtain ⟨c7, i7, k7⟩ := u_known (C := RX7) (T := TX7) (N := 8) (n := 8) hts lx_7 (hts (.instantiable RX7 8) (by decide +kernel))
  obtain ⟨c8, i8, k8⟩ := u_known (C := RX8) (T := TX8) (N := 2) (n := 2) hts lx_8 (hts (.instantiable RX8 2) (by decide +kernel))
  obtain ⟨c9, i9, k9⟩ := u_known (C := RX9) (T := TX9) (N := 7) (n := 7) hts lx_9 (hts (.instantiable RX9 7) (by decide +kernel))
  obtain ⟨c10, i10, k10⟩ := u_known (C := RX10) (T := TX10) (N := 4) (n := 4) hts lx_10 (hts (.instantiable RX10 4) (by decide +kernel))
  obtain ⟨c11, i11, k11⟩ := u_known (C := RX11) (T := TX11) (N := 7) (n := 7) hts lx_11 (hts (.instantiable RX11 7) (by decide +kernel))
  obtain ⟨c12, i12, k12⟩ := u_known (C := RX12) (T := TX12) (N := 64) (n := 64) hts lx_12 (hts (.instantiable RX12 64) (by decide +kernel))
  obtain ⟨d0, a0, m0, f0, g0, h0⟩ := Cond.arrayClass_spec (hts (.arrayClass .int) (by decide +kernel))
  obtain ⟨d1, a1, m1, f1, g1, h1⟩ := Cond.arrayClass_spec (hts (.arrayClass .byte) (by decide +kernel))
  obtain ⟨d2, a2, m2, f2, g2, h2⟩ := Cond.arrayClass_spec (hts (.arrayClass .boolean) (by decide +kernel))
  have o3 := va_AO.of (hts (.arrayOver (.object "ShoalClaims$Sea")) (by decide +kernel))
  obtain ⟨m3, d3, a3, p3, q3, f3, g3, h3⟩ := Cond.arrayOver_spec o3
  have o4 := va_AO.of (hts (.arrayOver (.object "ShoalClaims$Day")) (by decide +kernel))
  obtain ⟨m4, d4, a4, p4, q4, f4, g4, h4⟩ := Cond.arrayOver_spec o4
  have o5 := va_AO.of (hts (.arrayOver (.object "ShoalClaims$Dispute")) (by decide +kernel))
  obtain ⟨m5, d5, a5, p5, q5, f5, g5, h5⟩ := Cond.arrayOver_spec o5
  have o6 := va_AO.of (hts (.arrayOver (.object "ShoalClaims$Told")) (by decide +kernel))
  obtain ⟨m6, d6, a6, p6, q6, f6, g6, h6⟩ := Cond.arrayOver_spec o6
  refine ⟨(fun k => match k with | 0 => c0 | 1 => c1 | 2 => c2 | 3 => c3 | 4 => c4 | 5 => c5 | 6 => c6 | 7 => c7 | 8 => c8 | 9 => c9 | 10 => c10 | 11 => c11 | _ => c12, fun k => match k with | 0 => i0 | 1 => i1 | 2 => i2 | 3 => i3 | 4 => i4 | 5 => i5 | 6 => i6 | 7 => i7 | 8 => i8 | 9 => i9 | 10 => i10 | 11 => i11 | _ => i12), fun k => match k with | 0 => d0 | 1 => d1 | 2 => d2 | 3 => d3 | 4 => d4 | 5 => d5 | _ => d6, ⟨?_, ?_⟩, ?_⟩
  · intro k q hq
    match k, hq with
    | 0, hq => cases hq; exact k0
    | 1, hq => cases hq; exact k1
    | 2, hq => cases hq; exact k2
    | 3, hq => cases hq; exact k3
    | 4, hq => cases hq; exact k4
    | 5, hq => cases hq; exact k5
    | 6, hq => cases hq; exact k6
    | 7, hq => cases hq; exact k7
    | 8, hq => cases hq; exact k8
    | 9, hq => cases hq; exact k9
    | 10, hq => cases hq; exact k10
    | 11, hq => cases hq; exact k11
    | 12, hq => cases hq; exact k12
    | k + 13, hq => simp [vwCl] at hq
  · intro k q hq
    match k, hq with
    | 0, hq => cases hq; exact ⟨fun n z => ⟨fun k h => (by cases h), a0, g0, m0, h0⟩, f0⟩
    | 1, hq => cases hq; exact ⟨fun n z => ⟨fun k h => (by cases h), a1, g1, m1, h1⟩, f1⟩
    | 2, hq => cases hq; exact ⟨fun n z => ⟨fun k h => (by cases h), a2, g2, m2, h2⟩, f2⟩
    | 3, hq => cases hq; exact ⟨fun n z => ⟨fun k h => (by cases h), a3, f3, m3, g3⟩, a3, m3, f3, g3, p3, h3⟩
    | 4, hq => cases hq; exact ⟨fun n z => ⟨fun k h => (by cases h), a4, f4, m4, g4⟩, a4, m4, f4, g4, p4, h4⟩
    | 5, hq => cases hq; exact ⟨fun n z => ⟨fun k h => (by cases h), a5, f5, m5, g5⟩, a5, m5, f5, g5, p5, h5⟩
    | 6, hq => cases hq; exact ⟨fun n z => ⟨fun k h => (by cases h), a6, f6, m6, g6⟩, a6, m6, f6, g6, p6, h6⟩
    | k + 7, hq => simp [tyW] at hq
  · exact ⟨⟨va_Nw.of rfl (hts (nL RX11 9 yX9_init) (by decide +kernel)), va_Nw.of rfl (hts (nL RX11 22 yX4_init) (by decide +kernel)), va_Nw.of rfl (hts (nL RX11 29 yX5_init) (by decide +kernel)), va_Nw.of rfl (hts (nL RX11 36 yX10_init) (by decide +kernel)), va_Nw.of rfl (hts (nL RX11 43 yX0_init) (by decide +kernel)), va_Nw.of rfl (hts (nL RX11 50 yX3_init) (by decide +kernel))⟩, ⟨va_Nw.of rfl (hts (nL RX9 11 yX8_init) (by decide +kernel)), va_Nw.of rfl (hts (nL RX9 24 yX6_init) (by decide +kernel)), va_Nw.of rfl (hts (nL RX9 31 yX1_init) (by decide +kernel)), va_Nw.of rfl (hts (nL RX9 38 yX2_init) (by decide +kernel))⟩, ⟨va_Nw.of rfl (hts (nL RX4 11 yX6_init) (by decide +kernel)), va_Nw.of rfl (hts (nL RX4 20 yX1_init) (by decide +kernel)), va_Nw.of rfl (hts (nL RX4 27 yX2_init) (by decide +kernel))⟩, va_Nw.of rfl (hts (nL RX5 11 yX7_init) (by decide +kernel)), va_Nw.of rfl (hts (nL RX10 11 yX6_init) (by decide +kernel)), o3, o4, o5, o6⟩
