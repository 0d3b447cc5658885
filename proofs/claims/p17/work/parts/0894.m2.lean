section
/-! how it begins: the names of all cells, what they hold -/
def cdCl : List Nat := [1, 3, 4, 5, 6, 7, 20, 21, 22, 23, 24, 25, 26, 27, 30, 31, 32, 33, 34, 35, 36, 37, 8, 40, 41, 42, 50, 51, 52, 9, 60, 61, 62, 63, 64, 70, 71, 72, 73, 74, 2, 80, 90, 91, 92, 93, 94, 95, 96, 97, 100, 101, 102, 110, 111, 112, 113, 114, 120, 121, 130, 131, 132, 133, 134, 135, 136, 137, 138, 139, 140, 141, 150, 160, 161, 162, 163, 164, 165, 166, 167, 170, 171, 172, 173, 180, 181, 182, 183, 184, 185, 186]
def cdC (i : Nat) : Nat := cdCl.getD i 0
def cdRl : List Nat := [35, 0, 1, 2, 3, 4, 5, 6, 7, 8, 9, 10, 11, 12, 13, 14, 15, 20, 19, 16, 17, 18, 21, 22, 23, 24, 25, 27, 28, 26, 29, 30, 31, 32, 33, 34]
def cdR (i : Nat) : Nat := cdRl.getD i 0
theorem cdC_b : ∀ i : Fin 92, cdC i.1 < 1000 := by decide +kernel
theorem cdR_b : ∀ i : Fin 36, cdR i.1 < 1000000 := by decide +kernel
theorem cdC_j : zinj 92 cdC := by
  intro i j hi hj e
  have key : ∀ i j : Fin 92, cdC i.1 = cdC j.1 → i = j := by decide +kernel
  exact congrArg Fin.val (key ⟨i, hi⟩ ⟨j, hj⟩ e)
theorem cdR_j : zinj 36 cdR := by
  intro i j hi hj e
  have key : ∀ i j : Fin 36, cdR i.1 = cdR j.1 → i = j := by decide +kernel
  exact congrArg Fin.val (key ⟨i, hi⟩ ⟨j, hj⟩ e)
def h0C : yH := zhh zkds zTc cdC (fun _ _ => 0)
def g0R : yH := zhh zkdm zTr cdR (fun _ _ => 0)
def Th0 : Nat → Option Nat := zTh zTc cdC zNm0
def Xi0 : Nat → Option Nat := zTh zTr cdR (fun _ => none)
theorem h0_P : cP h0C := by
  have : ∀ p ∈ cPL, h0C p.1 p.2.1 = p.2.2 := by decide +kernel
  exact this
theorem h0_w : cPw h0C := by
  unfold cPw cSp
  decide +kernel
theorem g0_4 : ∀ j : Fin 12, g0R 4 j.1 = 0 := by decide +kernel
theorem h0_d : cDy h0C := by
  unfold cDy cPr cPc cPo
  decide +kernel
theorem h0_cW : cW h0C g0R := ⟨h0_w, (fun κ hκ => ⟨fun i _ w => by
  have := g0_4 ⟨3 * κ, by omega⟩
  simp only at this
  rw [this] at w
  omega, fun i _ w => by
  have := g0_4 ⟨3 * κ + 2, by omega⟩
  simp only at this
  rw [this] at w
  omega⟩), h0_d⟩
theorem g0_P : rP g0R := by
  have : g0R 35 1 = 0 ∧ g0R 35 2 = 1 ∧ g0R 35 3 = 2 ∧ g0R 35 4 = 3 ∧ g0R 35 5 = 4 ∧ g0R 35 6 = 5 ∧ g0R 35 7 = 6 ∧ g0R 35 8 = 7 ∧ g0R 35 18 = 8 ∧ g0R 35 19 = 9 := by decide +kernel
  exact this
theorem R0_0 : (h0C 4 1 = 0 ∧ g0R 1 0 = 0) ∧ (∀ j : Fin 3, h0C 6 j.1 = 0 ∧ g0R 4 j.1 = 0) ∧ (h0C 3 5 = 0 ∧ g0R 2 0 = 0) ∧ (h0C 3 6 = -1 ∧ g0R 3 0 = -1) ∧ (∀ k : Fin 3, g0R 34 k.1 = 0 ∧ h0C 2 k.1 = -1) := by decide +kernel
theorem R0_s : ∀ i : Fin 2, (∀ j : Fin 15, ¬ (j.1 = 5 ∨ j.1 = 7 ∨ j.1 = 8 ∨ j.1 = 9 ∨ j.1 = 11 ∨ j.1 = 12 ∨ j.1 = 13) → h0C (20 + 10 * i.1) j.1 = 0) ∧ (∀ j : Fin 12, h0C (20 + 10 * i.1 + 1) j.1 = 0) ∧ (∀ j : Fin 50, g0R 5 (50 * i.1 + j.1) = 0) := by decide +kernel
theorem R0_d : ∀ i : Fin 2, h0C (40 + 10 * i.1) 0 = 0 ∧ ∀ j : Fin 121, g0R 6 (121 * i.1 + j.1) = 0 := by decide +kernel
theorem R0_q : ∀ i : Fin 2, (h0C (60 + 10 * i.1) 0 = 0 ∧ h0C (60 + 10 * i.1) 3 = 0) ∧ ∀ j : Fin 52, g0R 7 (52 * i.1 + j.1) = 0 := by decide +kernel
theorem R0 (F : Prop) : RR F h0C g0R := by
  obtain ⟨⟨l1, l2⟩, nn, ⟨f1, f2⟩, ⟨p1, p2⟩, im⟩ := R0_0
  have n4 : ∀ j, j < 3 → g0R 4 j = 0 := fun j hj => (nn ⟨j, hj⟩).2
  refine ⟨h0_P, g0_P, ⟨by rw [show h0C (0 + 4) 1 = 0 from l1, l2], fun i hi => by rw [show h0C (0 + 4) 1 = 0 from l1] at hi; omega, fun j hj => ?_, by rw [show h0C (0 + 3) 5 = 0 from f1, f2], by rw [show h0C (0 + 3) 6 = -1 from p1, p2], fun i hi => ?_, fun i hi => ?_, fun i hi => ?_⟩, fun k hk => Or.inl (im ⟨k, hk⟩)⟩
  · rw [show 0 + 6 = 6 from rfl, show 3 * 0 + j = j by omega, n4 j hj]
    exact (nn ⟨j, hj⟩).1
  · obtain ⟨s1, s2, s3⟩ := R0_s ⟨i, hi⟩
    simp only at s1 s2 s3
    refine ⟨fun _ => 0, fun _ => ?_, fun j hj => ?_, fun w => ?_⟩
    · rw [show 0 + 20 + 10 * i = 20 + 10 * i by omega]
      exact ⟨s1 ⟨0, by decide⟩ (by decide), s1 ⟨1, by decide⟩ (by decide), s1 ⟨2, by decide⟩ (by decide), s1 ⟨3, by decide⟩ (by decide), s1 ⟨4, by decide⟩ (by decide), s1 ⟨6, by decide⟩ (by decide), s1 ⟨10, by decide⟩ (by decide), s1 ⟨14, by decide⟩ (by decide), fun j hj => s2 ⟨j, hj⟩, fun k hk => absurd hk (by have hk' : (k : Int) < 0 := hk; omega), fun k hk => absurd hk (by have hk' : (k : Int) < 0 := hk; omega)⟩
    · rw [show 100 * 0 + 50 * i + j = 50 * i + j by omega]
      exact s3 ⟨j, hj⟩
    · rw [n4 _ (by decide)] at w
      omega
  · obtain ⟨s1, s3⟩ := R0_d ⟨i, hi⟩
    simp only at s1 s3
    refine ⟨fun _ => 0, ?_, fun j hj => ?_, fun w => ?_⟩
    · rw [show 0 + 40 + 10 * i = 40 + 10 * i by omega]
      exact ⟨s1, fun k hk => absurd hk (by have hk' : (k : Int) < 0 := hk; omega)⟩
    · rw [show 242 * 0 + 121 * i + j = 121 * i + j by omega]
      exact s3 ⟨j, hj⟩
    · rw [n4 _ (by decide)] at w
      omega
  · obtain ⟨⟨s1, s2⟩, s3⟩ := R0_q ⟨i, hi⟩
    simp only at s1 s2 s3
    refine ⟨fun _ => 0, ?_, fun j hj => ?_, fun w => ?_⟩
    · rw [show 0 + 60 + 10 * i = 60 + 10 * i by omega]
      exact ⟨s1, s2, fun k hk => absurd hk (by have hk' : (k : Int) < 0 := hk; omega), fun k hk => absurd hk (by have hk' : (k : Int) < 0 := hk; omega)⟩
    · rw [show 104 * 0 + 52 * i + j = 52 * i + j by omega]
      exact s3 ⟨j, hj⟩
    · rw [n4 _ (by decide)] at w
      omega
theorem Xi0_ok : nmR Xi0 := by
  have key : ∀ i : Fin 36, (zTr.getD i.1 (0, [])).1 = cdR i.1 := by decide +kernel
  refine ⟨zTh_at (T := zTr) (cd := cdR) (i := 0) cdR_j (by decide), fun a k ha => ?_⟩
  unfold Xi0 at ha
  by_cases hex : ∃ i, i < 36 ∧ cdR i = a
  · obtain ⟨i, hi, rfl⟩ := hex
    rw [zTh_at (T := zTr) (cd := cdR) cdR_j hi] at ha
    rw [← Option.some.inj ha]
    exact (key ⟨i, hi⟩).symm
  · rw [zTh_ne (T := zTr) (cd := cdR) (fun i hi e => hex ⟨i, hi, e⟩)] at ha
    cases ha
end
section
variable {η : zRn}
set_option maxHeartbeats 4000000 in
set_option maxRecDepth 100000 in
/-- the classes that the tables know, and what they say of nest mates and of arrays -/
theorem lw_ctx {args : Array Value} {s : State} (hts : ∀ w ∈ lw_tbl, w.before args s = true) : ∃ (D : va_G) (cy : Nat → ClassId), KW D cy s := by
  obtain ⟨c0, i0, k0⟩ := u_known (C := RX0) (T := TX0) (N := 7) (n := 7) hts (fun w hw => z_lwt (zx_0 w hw)) (hts (.instantiable RX0 7) (by decide +kernel))
  obtain ⟨c1, i1, k1⟩ := u_known (C := RX1) (T := TX1) (N := 3) (n := 3) hts (fun w hw => z_lwt (zx_1 w hw)) (hts (.instantiable RX1 3) (by decide +kernel))
  obtain ⟨c2, i2, k2⟩ := u_known (C := RX2) (T := TX2) (N := 6) (n := 6) hts (fun w hw => z_lwt (zx_2 w hw)) (hts (.instantiable RX2 6) (by decide +kernel))
  obtain ⟨c3, i3, k3⟩ := u_known (C := RX3) (T := TX3) (N := 6) (n := 6) hts (fun w hw => z_lwt (zx_3 w hw)) (hts (.instantiable RX3 6) (by decide +kernel))
  obtain ⟨c4, i4, k4⟩ := u_known (C := RX4) (T := TX4) (N := 10) (n := 10) hts (fun w hw => z_lwt (zx_4 w hw)) (hts (.instantiable RX4 10) (by decide +kernel))
  obtain ⟨c5, i5, k5⟩ := u_known (C := RX5) (T := TX5) (N := 16) (n := 16) hts (fun w hw => z_lwt (zx_5 w hw)) (hts (.instantiable RX5 16) (by decide +kernel))
  obtain ⟨c6, i6, k6⟩ := u_known (C := RX6) (T := TX6) (N := 15) (n := 15) hts (fun w hw => z_lwt (zx_6 w hw)) (hts (.instantiable RX6 15) (by decide +kernel))
  obtain ⟨c7, i7, k7⟩ := u_known (C := RX7) (T := TX7) (N := 8) (n := 8) hts (fun w hw => z_lwt (zx_7 w hw)) (hts (.instantiable RX7 8) (by decide +kernel))
  obtain ⟨c8, i8, k8⟩ := u_known (C := RX8) (T := TX8) (N := 2) (n := 2) hts (fun w hw => z_lwt (zx_8 w hw)) (hts (.instantiable RX8 2) (by decide +kernel))
  obtain ⟨c9, i9, k9⟩ := u_known (C := RX9) (T := TX9) (N := 7) (n := 7) hts (fun w hw => z_lwt (zx_9 w hw)) (hts (.instantiable RX9 7) (by decide +kernel))
  obtain ⟨c10, i10, k10⟩ := u_known (C := RX10) (T := TX10) (N := 4) (n := 4) hts (fun w hw => z_lwt (zx_10 w hw)) (hts (.instantiable RX10 4) (by decide +kernel))
  obtain ⟨c11, i11, k11⟩ := u_known (C := RX11) (T := TX11) (N := 7) (n := 7) hts (fun w hw => z_lwt (zx_11 w hw)) (hts (.instantiable RX11 7) (by decide +kernel))
  obtain ⟨c12, i12, k12⟩ := u_known (C := RX12) (T := TX12) (N := 64) (n := 64) hts (fun w hw => z_lwt (zx_12 w hw)) (hts (.instantiable RX12 64) (by decide +kernel))
  obtain ⟨d0, a0, m0, f0, g0, h0⟩ := Cond.arrayClass_spec (hts (.arrayClass .int) (by decide +kernel))
  obtain ⟨d1, a1, m1, f1, g1, h1⟩ := Cond.arrayClass_spec (hts (.arrayClass .byte) (by decide +kernel))
  obtain ⟨d2, a2, m2, f2, g2, h2⟩ := Cond.arrayClass_spec (hts (.arrayClass .boolean) (by decide +kernel))
  have o3 := va_AO.of (hts (.arrayOver (.object "ShoalClaims$Sea")) (by decide +kernel))
  obtain ⟨m3, d3, a3, p3, q3, f3, g3, h3⟩ := Cond.arrayOver_spec o3
  have o4 := va_AO.of (hts (.arrayOver (.object "ShoalClaims$Day")) (by decide +kernel))
  obtain ⟨m4, d4, a4, p4, q4, f4, g4, h4⟩ := Cond.arrayOver_spec o4
  have o5 := va_AO.of (hts (.arrayOver (.object "ShoalClaims$Dispute")) (by decide +kernel))
  obtain ⟨m5, d5, a5, p5, q5, f5, g5, h5⟩ := Cond.arrayOver_spec o5
  have o6 := va_AO.of (hts (.arrayOver (.object "ShoalClaims$Told")) (by decide +kernel))
  obtain ⟨m6, d6, a6, p6, q6, f6, g6, h6⟩ := Cond.arrayOver_spec o6
  refine ⟨(fun k => match k with | 0 => c0 | 1 => c1 | 2 => c2 | 3 => c3 | 4 => c4 | 5 => c5 | 6 => c6 | 7 => c7 | 8 => c8 | 9 => c9 | 10 => c10 | 11 => c11 | _ => c12, fun k => match k with | 0 => i0 | 1 => i1 | 2 => i2 | 3 => i3 | 4 => i4 | 5 => i5 | 6 => i6 | 7 => i7 | 8 => i8 | 9 => i9 | 10 => i10 | 11 => i11 | _ => i12), fun k => match k with | 0 => d0 | 1 => d1 | 2 => d2 | 3 => d3 | 4 => d4 | 5 => d5 | _ => d6, ⟨?_, ?_⟩, ?_⟩
  · intro k q hq
    match k, hq with
    | 0, hq => cases hq; exact k0
    | 1, hq => cases hq; exact k1
    | 2, hq => cases hq; exact k2
    | 3, hq => cases hq; exact k3
    | 4, hq => cases hq; exact k4
    | 5, hq => cases hq; exact k5
    | 6, hq => cases hq; exact k6
    | 7, hq => cases hq; exact k7
    | 8, hq => cases hq; exact k8
    | 9, hq => cases hq; exact k9
    | 10, hq => cases hq; exact k10
    | 11, hq => cases hq; exact k11
    | 12, hq => cases hq; exact k12
    | k + 13, hq => simp [vwCl] at hq
  · intro k q hq
    match k, hq with
    | 0, hq => cases hq; exact ⟨fun n z => ⟨fun k h => (by cases h), a0, g0, m0, h0⟩, f0⟩
    | 1, hq => cases hq; exact ⟨fun n z => ⟨fun k h => (by cases h), a1, g1, m1, h1⟩, f1⟩
    | 2, hq => cases hq; exact ⟨fun n z => ⟨fun k h => (by cases h), a2, g2, m2, h2⟩, f2⟩
    | 3, hq => cases hq; exact ⟨fun n z => ⟨fun k h => (by cases h), a3, f3, m3, g3⟩, a3, m3, f3, g3, p3, h3⟩
    | 4, hq => cases hq; exact ⟨fun n z => ⟨fun k h => (by cases h), a4, f4, m4, g4⟩, a4, m4, f4, g4, p4, h4⟩
    | 5, hq => cases hq; exact ⟨fun n z => ⟨fun k h => (by cases h), a5, f5, m5, g5⟩, a5, m5, f5, g5, p5, h5⟩
    | 6, hq => cases hq; exact ⟨fun n z => ⟨fun k h => (by cases h), a6, f6, m6, g6⟩, a6, m6, f6, g6, p6, h6⟩
    | k + 7, hq => simp [tyW] at hq
  · exact ⟨⟨va_Nw.of rfl (hts (nL RX11 9 yX9_init) (by decide +kernel)), va_Nw.of rfl (hts (nL RX11 22 yX4_init) (by decide +kernel)), va_Nw.of rfl (hts (nL RX11 29 yX5_init) (by decide +kernel)), va_Nw.of rfl (hts (nL RX11 36 yX10_init) (by decide +kernel)), va_Nw.of rfl (hts (nL RX11 43 yX0_init) (by decide +kernel)), va_Nw.of rfl (hts (nL RX11 50 yX3_init) (by decide +kernel))⟩, ⟨va_Nw.of rfl (hts (nL RX9 11 yX8_init) (by decide +kernel)), va_Nw.of rfl (hts (nL RX9 24 yX6_init) (by decide +kernel)), va_Nw.of rfl (hts (nL RX9 31 yX1_init) (by decide +kernel)), va_Nw.of rfl (hts (nL RX9 38 yX2_init) (by decide +kernel))⟩, ⟨va_Nw.of rfl (hts (nL RX4 11 yX6_init) (by decide +kernel)), va_Nw.of rfl (hts (nL RX4 20 yX1_init) (by decide +kernel)), va_Nw.of rfl (hts (nL RX4 27 yX2_init) (by decide +kernel))⟩, va_Nw.of rfl (hts (nL RX5 11 yX7_init) (by decide +kernel)), va_Nw.of rfl (hts (nL RX10 11 yX6_init) (by decide +kernel)), o3, o4, o5, o6⟩
theorem z_sub6 {N : Nat} (hN : N ≤ 3072) : (Int32.ofNat N - 6).toInt = (N : Int) - 6 := by
  have h1 : (Int32.ofNat N).toInt = (N : Int) := nI_toInt (n := N) (by omega)
  have h2 : (6 : Int32).toInt = 6 := rfl
  rw [Int32.toInt_sub, h1, h2]
  exact Int.bmod_eq_of_le (by omega) (by omega)
set_option maxHeartbeats 4000000 in
set_option maxRecDepth 10000 in
theorem lw_loop {p : Program} {l : Launch} {e : Env} {s : State} {m : MethodId} {below : List Frame} {meth : Method} {c : Code} {b N : Nat} {xs : Nat → Int32} {qa qr : Nat} {D : va_G} {cy : Nat → ClassId} {tb adK adV : Nat → Nat} {fv : Option Nat} (X : lwX l p s m meth c b N xs D cy tb adK adV fv) :
    ∀ (d t : Nat) (H : Heap) (locs : List Loc) (ls : Array Slot), N - 6 * t ≤ d → 6 * t ≤ N → lwI lwF s D cy adK qa qr H → va_S (fun q => s.heap.size ≤ q) s.heap H locs → lwL ls qa qr (6 * t) b → W p l e room_1 s m #[Value.ref b] below meth c H locs (128 + 39 * t) (11575 + 1090 * t) (lw_Z below #[Value.ref b] s) (F0 m 18 ls []) := by
  obtain ⟨hx, hb, hr, hml, hown, hts0, hX, hbl, hlocks, hgv⟩ := id X.1
  have hN := X.2.1
  intro d
  induction d with
  | zero =>
    intro t H locs ls hd ht hI hS hl
    refine lv_iload_n hx hb dL_18 rfl (lv_at hl 0 rfl) ?_
    refine lv_aload_n hx hb dL_19 rfl (lv_at hl 3 rfl) ?_
    refine va_slen (A := fun q => s.heap.size ≤ q) hx hb hX hbl (Nat.not_le.mpr hbl) hS dL_20 ?_
    refine lv_bipush (v := 6) hx hb dL_21 (by decide +kernel) ?_
    refine lv_isub hx hb dL_23 ?_
    have e6 : (Int32.ofNat N - 6).toInt = (N : Int) - 6 := z_sub6 hN
    refine lv_icmp_gt (tgt := 1556) hx hb dL_24 (by decide) (fun _ => ?_) (fun q => absurd (Int32.lt_iff_toInt_lt.mpr (by rw [e6, nI_toInt (by omega)]; omega)) q)
    refine lv_iconst (v := 1) hx hb dL_1556 (by decide +kernel) ?_
    refine va_forget (fun q hq => hS.2.2 q hq) ?_
    refine W.widen (k := 600000) (n := 7302250) (by omega) (by omega) ?_
    exact lw_ret hx hb hr hlocks dL_1557
  | succ d ih =>
    intro t H locs ls hd ht hI hS hl
    refine lv_iload_n hx hb dL_18 rfl (lv_at hl 0 rfl) ?_
    refine lv_aload_n hx hb dL_19 rfl (lv_at hl 3 rfl) ?_
    refine va_slen (A := fun q => s.heap.size ≤ q) hx hb hX hbl (Nat.not_le.mpr hbl) hS dL_20 ?_
    refine lv_bipush (v := 6) hx hb dL_21 (by decide +kernel) ?_
    refine lv_isub hx hb dL_23 ?_
    have e6 : (Int32.ofNat N - 6).toInt = (N : Int) - 6 := z_sub6 hN
    refine lv_icmp_gt (tgt := 1556) hx hb dL_24 (by decide) (fun _ => ?_) (fun q => ?_)
    · refine lv_iconst (v := 1) hx hb dL_1556 (by decide +kernel) ?_
      refine va_forget (fun q hq => hS.2.2 q hq) ?_
      refine W.widen (k := 600000) (n := 7302250) (by omega) (by omega) ?_
      exact lw_ret hx hb hr hlocks dL_1557
    · have hiN : 6 * t + 6 ≤ N := by
        have h1 : ¬ (N : Int) - 6 < ((6 * t : Nat) : Int) := fun h9 => q (Int32.lt_iff_toInt_lt.mpr (by rw [e6, nI_toInt (by omega)]; exact h9))
        omega
      have nxt : ∀ (cells slots : Nat), cells ≤ 128 + 39 * (t + 1) → slots ≤ 11575 + 1090 * (t + 1) → ∀ (H1 : Heap) (locs1 : List Loc), lwI lwF s D cy adK qa qr H1 → va_S (fun q => s.heap.size ≤ q) s.heap H1 locs1 → W p l e room_1 s m #[Value.ref b] below meth c H1 locs1 cells slots (lw_Z below #[Value.ref b] s) (F0 m 1550 ls []) := by
        intro cells slots hc1 hc2 H1 locs1 hI1 hS1
        refine lv_iinc (v := nI (6 * t + 6)) (lv' := [(3, .int (nI (6 * t + 6))), (2, .ref qr), (1, .ref qa), (0, .ref b)]) hx hb dL_1550 hl (k := 0) rfl (by rw [show Int32.ofInt 6 = nI 6 from by decide +kernel, nI_add]) (by decide) rfl (fun ls hl => ?_)
        refine lv_goto (tgt := 18) hx hb dL_1553 (by decide) ?_
        refine W.widen (k := 128 + 39 * (t + 1)) (n := 11575 + 1090 * (t + 1)) hc1 hc2 ?_
        exact ih (t + 1) H1 locs1 ls (by omega) (by omega) hI1 hS1 (by rw [show 6 * (t + 1) = 6 * t + 6 by omega]; exact hl)
      refine lv_aload_n hx hb dL_27 rfl (lv_at hl 3 rfl) ?_
      refine lv_iload_n hx hb dL_28 rfl (lv_at hl 0 rfl) ?_
      refine va_sld (A := fun q => s.heap.size ≤ q) hx hb hX hbl (Nat.not_le.mpr hbl) hS (vp_in_nI (by omega) (by omega)) dL_29 ?_
      refine lv_bipush (v := 31) hx hb dL_30 (by decide +kernel) ?_
      refine lv_iand hx hb dL_32 ?_
      obtain ⟨j, hj, ej⟩ := pk_andE (xs (nI (6 * t)).toNatClampNeg) (m := 31) 5 (by decide +kernel)
      refine tp_i (nI j) ej ?_
      clear ej
      match j, hj with
      | 0, _ =>
        refine lv_tableIn (off := 143) (tgt := 176) hx hb dL_33 (by decide +kernel) (by decide +kernel) (by decide +kernel) (by decide) ?_
        exact lwc_0 X hiN hI hS (by omega) hl (fun H1 locs1 hI1 hS1 => nxt _ _ (by omega) (by omega) H1 locs1 hI1 hS1)
      | 1, _ =>
        refine lv_tableIn (off := 206) (tgt := 239) hx hb dL_33 (by decide +kernel) (by decide +kernel) (by decide +kernel) (by decide) ?_
        exact lwc_1 X hiN hI hS (by omega) hl (fun H1 locs1 hI1 hS1 => nxt _ _ (by omega) (by omega) H1 locs1 hI1 hS1)
      | 2, _ =>
        refine lv_tableIn (off := 229) (tgt := 262) hx hb dL_33 (by decide +kernel) (by decide +kernel) (by decide +kernel) (by decide) ?_
        exact lwc_2 X hiN hI hS (by omega) hl (fun H1 locs1 hI1 hS1 => nxt _ _ (by omega) (by omega) H1 locs1 hI1 hS1)
      | 3, _ =>
        refine lv_tableIn (off := 262) (tgt := 295) hx hb dL_33 (by decide +kernel) (by decide +kernel) (by decide +kernel) (by decide) ?_
        exact lwc_3 X hiN hI hS (by omega) hl (fun H1 locs1 hI1 hS1 => nxt _ _ (by omega) (by omega) H1 locs1 hI1 hS1)
      | 4, _ =>
        refine lv_tableIn (off := 285) (tgt := 318) hx hb dL_33 (by decide +kernel) (by decide +kernel) (by decide +kernel) (by decide) ?_
        exact lwc_4 X hiN hI hS (by omega) hl (fun H1 locs1 hI1 hS1 => nxt _ _ (by omega) (by omega) H1 locs1 hI1 hS1)
      | 5, _ =>
        refine lv_tableIn (off := 318) (tgt := 351) hx hb dL_33 (by decide +kernel) (by decide +kernel) (by decide +kernel) (by decide) ?_
        exact lwc_5 X hiN hI hS (by omega) hl (fun H1 locs1 hI1 hS1 => nxt _ _ (by omega) (by omega) H1 locs1 hI1 hS1)
      | 6, _ =>
        refine lv_tableIn (off := 361) (tgt := 394) hx hb dL_33 (by decide +kernel) (by decide +kernel) (by decide +kernel) (by decide) ?_
        exact lwc_6 X hiN hI hS (by omega) hl (fun H1 locs1 hI1 hS1 => nxt _ _ (by omega) (by omega) H1 locs1 hI1 hS1)
      | 7, _ =>
        refine lv_tableIn (off := 404) (tgt := 437) hx hb dL_33 (by decide +kernel) (by decide +kernel) (by decide +kernel) (by decide) ?_
        exact lwc_7 X hiN hI hS (by omega) hl (fun H1 locs1 hI1 hS1 => nxt _ _ (by omega) (by omega) H1 locs1 hI1 hS1)
      | 8, _ =>
        refine lv_tableIn (off := 447) (tgt := 480) hx hb dL_33 (by decide +kernel) (by decide +kernel) (by decide +kernel) (by decide) ?_
        exact lwc_8 X hiN hI hS (by omega) hl (fun H1 locs1 hI1 hS1 => nxt _ _ (by omega) (by omega) H1 locs1 hI1 hS1)
      | 9, _ =>
        refine lv_tableIn (off := 490) (tgt := 523) hx hb dL_33 (by decide +kernel) (by decide +kernel) (by decide +kernel) (by decide) ?_
        exact lwc_9 X hiN hI hS (by omega) hl (fun H1 locs1 hI1 hS1 => nxt _ _ (by omega) (by omega) H1 locs1 hI1 hS1)
      | 10, _ =>
        refine lv_tableIn (off := 513) (tgt := 546) hx hb dL_33 (by decide +kernel) (by decide +kernel) (by decide +kernel) (by decide) ?_
        exact lwc_10 X hiN hI hS (by omega) hl (fun H1 locs1 hI1 hS1 => nxt _ _ (by omega) (by omega) H1 locs1 hI1 hS1)
      | 11, _ =>
        refine lv_tableIn (off := 556) (tgt := 589) hx hb dL_33 (by decide +kernel) (by decide +kernel) (by decide +kernel) (by decide) ?_
        exact lwc_11 X hiN hI hS (by omega) hl (fun H1 locs1 hI1 hS1 => nxt _ _ (by omega) (by omega) H1 locs1 hI1 hS1)
      | 12, _ =>
        refine lv_tableIn (off := 589) (tgt := 622) hx hb dL_33 (by decide +kernel) (by decide +kernel) (by decide +kernel) (by decide) ?_
        exact lwc_12 X hiN hI hS (by omega) hl (fun H1 locs1 hI1 hS1 => nxt _ _ (by omega) (by omega) H1 locs1 hI1 hS1)
      | 13, _ =>
        refine lv_tableIn (off := 652) (tgt := 685) hx hb dL_33 (by decide +kernel) (by decide +kernel) (by decide +kernel) (by decide) ?_
        exact lwc_13 X hiN hI hS (by omega) hl (fun H1 locs1 hI1 hS1 => nxt _ _ (by omega) (by omega) H1 locs1 hI1 hS1)
      | 14, _ =>
        refine lv_tableIn (off := 715) (tgt := 748) hx hb dL_33 (by decide +kernel) (by decide +kernel) (by decide +kernel) (by decide) ?_
        exact lwc_14 X hiN hI hS (by omega) hl (fun H1 locs1 hI1 hS1 => nxt _ _ (by omega) (by omega) H1 locs1 hI1 hS1)
      | 15, _ =>
        refine lv_tableIn (off := 784) (tgt := 817) hx hb dL_33 (by decide +kernel) (by decide +kernel) (by decide +kernel) (by decide) ?_
        exact lwc_15 X hiN hI hS (by omega) hl (fun H1 locs1 hI1 hS1 => nxt _ _ (by omega) (by omega) H1 locs1 hI1 hS1)
      | 16, _ =>
        refine lv_tableIn (off := 837) (tgt := 870) hx hb dL_33 (by decide +kernel) (by decide +kernel) (by decide +kernel) (by decide) ?_
        exact lwc_16 X hiN hI hS (by omega) hl (fun H1 locs1 hI1 hS1 => nxt _ _ (by omega) (by omega) H1 locs1 hI1 hS1)
      | 17, _ =>
        refine lv_tableIn (off := 870) (tgt := 903) hx hb dL_33 (by decide +kernel) (by decide +kernel) (by decide +kernel) (by decide) ?_
        exact lwc_17 X hiN hI hS (by omega) hl (fun H1 locs1 hI1 hS1 => nxt _ _ (by omega) (by omega) H1 locs1 hI1 hS1)
      | 18, _ =>
        refine lv_tableIn (off := 923) (tgt := 956) hx hb dL_33 (by decide +kernel) (by decide +kernel) (by decide +kernel) (by decide) ?_
        exact lwc_18 X hiN hI hS (by omega) hl (fun H1 locs1 hI1 hS1 => nxt _ _ (by omega) (by omega) H1 locs1 hI1 hS1)
      | 19, _ =>
        refine lv_tableIn (off := 982) (tgt := 1015) hx hb dL_33 (by decide +kernel) (by decide +kernel) (by decide +kernel) (by decide) ?_
        exact lwc_19 X hiN hI hS (by omega) hl (fun H1 locs1 hI1 hS1 => nxt _ _ (by omega) (by omega) H1 locs1 hI1 hS1)
      | 20, _ =>
        refine lv_tableIn (off := 1035) (tgt := 1068) hx hb dL_33 (by decide +kernel) (by decide +kernel) (by decide +kernel) (by decide) ?_
        exact lwc_20 X hiN hI hS (by omega) hl (fun H1 locs1 hI1 hS1 => nxt _ _ (by omega) (by omega) H1 locs1 hI1 hS1)
      | 21, _ =>
        refine lv_tableIn (off := 1068) (tgt := 1101) hx hb dL_33 (by decide +kernel) (by decide +kernel) (by decide +kernel) (by decide) ?_
        exact lwc_21 X hiN hI hS (by omega) hl (fun H1 locs1 hI1 hS1 => nxt _ _ (by omega) (by omega) H1 locs1 hI1 hS1)
      | 22, _ =>
        refine lv_tableIn (off := 1127) (tgt := 1160) hx hb dL_33 (by decide +kernel) (by decide +kernel) (by decide +kernel) (by decide) ?_
        exact lwc_22 X hiN hI hS (by omega) hl (fun H1 locs1 hI1 hS1 => nxt _ _ (by omega) (by omega) H1 locs1 hI1 hS1)
      | 23, _ =>
        refine lv_tableIn (off := 1190) (tgt := 1223) hx hb dL_33 (by decide +kernel) (by decide +kernel) (by decide +kernel) (by decide) ?_
        exact lwc_23 X hiN hI hS (by omega) hl (fun H1 locs1 hI1 hS1 => nxt _ _ (by omega) (by omega) H1 locs1 hI1 hS1)
      | 24, _ =>
        refine lv_tableIn (off := 1253) (tgt := 1286) hx hb dL_33 (by decide +kernel) (by decide +kernel) (by decide +kernel) (by decide) ?_
        exact lwc_24 X hiN hI hS (by omega) hl (fun H1 locs1 hI1 hS1 => nxt _ _ (by omega) (by omega) H1 locs1 hI1 hS1)
      | 25, _ =>
        refine lv_tableIn (off := 1296) (tgt := 1329) hx hb dL_33 (by decide +kernel) (by decide +kernel) (by decide +kernel) (by decide) ?_
        exact lwc_25 X hiN hI hS (by omega) hl (fun H1 locs1 hI1 hS1 => nxt _ _ (by omega) (by omega) H1 locs1 hI1 hS1)
      | 26, _ =>
        refine lv_tableIn (off := 1329) (tgt := 1362) hx hb dL_33 (by decide +kernel) (by decide +kernel) (by decide +kernel) (by decide) ?_
        exact lwc_26 X hiN hI hS (by omega) hl (fun H1 locs1 hI1 hS1 => nxt _ _ (by omega) (by omega) H1 locs1 hI1 hS1)
      | 27, _ =>
        refine lv_tableIn (off := 1372) (tgt := 1405) hx hb dL_33 (by decide +kernel) (by decide +kernel) (by decide +kernel) (by decide) ?_
        exact lwc_27 X hiN hI hS (by omega) hl (fun H1 locs1 hI1 hS1 => nxt _ _ (by omega) (by omega) H1 locs1 hI1 hS1)
      | 28, _ =>
        refine lv_tableIn (off := 1415) (tgt := 1448) hx hb dL_33 (by decide +kernel) (by decide +kernel) (by decide +kernel) (by decide) ?_
        exact lwc_28 X hiN hI hS (by omega) hl (fun H1 locs1 hI1 hS1 => nxt _ _ (by omega) (by omega) H1 locs1 hI1 hS1)
      | 29, _ =>
        refine lv_tableIn (off := 1448) (tgt := 1481) hx hb dL_33 (by decide +kernel) (by decide +kernel) (by decide +kernel) (by decide) ?_
        exact lwc_29 X hiN hI hS (by omega) hl (fun H1 locs1 hI1 hS1 => nxt _ _ (by omega) (by omega) H1 locs1 hI1 hS1)
      | 30, _ =>
        refine lv_tableIn (off := 1471) (tgt := 1504) hx hb dL_33 (by decide +kernel) (by decide +kernel) (by decide +kernel) (by decide) ?_
        exact lwc_30 X hiN hI hS (by omega) hl (fun H1 locs1 hI1 hS1 => nxt _ _ (by omega) (by omega) H1 locs1 hI1 hS1)
      | 31, _ =>
        refine lv_tableIn (off := 1494) (tgt := 1527) hx hb dL_33 (by decide +kernel) (by decide +kernel) (by decide +kernel) (by decide) ?_
        exact lwc_31 X hiN hI hS (by omega) hl (fun H1 locs1 hI1 hS1 => nxt _ _ (by omega) (by omega) H1 locs1 hI1 hS1)
      | j + 32, hj => exact absurd hj (by omega)
theorem z_lnk : (Cond.classLink RL 7 RX11 ∈ zTW ∧ Cond.instantiable RX11 7 ∈ zTW ∧ Cond.initialized RX11 ∈ zTW ∧ Cond.methodLink RL 9 yX11_init ∈ zTW ∧ Cond.instanceMethod yX11_init ∈ zTW) ∧ (Cond.classLink RL 10 RX12 ∈ zTW ∧ Cond.instantiable RX12 64 ∈ zTW ∧ Cond.initialized RX12 ∈ zTW ∧ Cond.methodLink RL 12 yX12_init ∈ zTW ∧ Cond.instanceMethod yX12_init ∈ zTW) := ⟨⟨zTi_1 22 (by decide +kernel) rfl, zTi_1 23 (by decide +kernel) rfl, zTi_1 1 (by decide +kernel) rfl, zTi_1 24 (by decide +kernel) rfl, zTi_1 25 (by decide +kernel) rfl⟩, ⟨zTi_5 233 (by decide +kernel) rfl, zTi_5 234 (by decide +kernel) rfl, zTi_1 13 (by decide +kernel) rfl, zTi_5 235 (by decide +kernel) rfl, zTi_5 236 (by decide +kernel) rfl⟩⟩
set_option maxHeartbeats 8000000 in
set_option maxRecDepth 100000 in
/-- THE LAW, from its entry -/
theorem whole_start {p : Program} {e : Env} {s : State} {m : MethodId} {below : List Frame} {meth : Method} {c : Code} (l : Launch) {b L : Nat} {xs : Nat → Int32} (hL : L ≤ 3072) (C0 : lw_At p s m meth c b L xs) : W p l e room_1 s m #[Value.ref b] below meth c s.heap [] 0 0 (lw_Z below #[Value.ref b] s) (entryFrame m ([Value.ref b] : List Value).toArray 4) := by
  obtain ⟨hx, hb, hr, hml, hown, hts0, hX, hbl, hlocks, hgv⟩ := id C0
  have S := lw_S C0
  have hown : s.vm.findClass RL = some m.cls := S.2.2.2.1
  have hts := S.2.2.2.2
  have htz : ∀ w ∈ zTW, w.before #[Value.ref b] s = true := fun w hw => hts w (List.mem_cons_of_mem _ hw)
  obtain ⟨D, cy, hKW⟩ := lw_ctx hts0
  obtain ⟨tb, adK, adV, fv, hZ⟩ := lw_stat hgv hts0
  have hK := hKW.1
  obtain ⟨A, hAe⟩ : ∃ A : Nat → Prop, A = fun q : Nat => s.heap.size ≤ q := ⟨_, rfl⟩
  have hA : ∀ q : Nat, s.heap.size ≤ q → A q := fun _ h => by rw [hAe]; exact h
  have hS : va_S A s.heap s.heap [] := va_S.rf
  have hP0 : va_P D vwCl [] s.heap := fun k q h => by simp at h
  have hD0 : va_D A [] := ⟨fun i j p q h => by simp at h, fun k q h => by simp at h⟩
  obtain ⟨⟨k1, k2, k3, k4, k5⟩, k6, k7, k8, k9, k10⟩ := z_lnk
  have hl := lv_entry ([.ref b]) (n := 4) (Nat.le_of_ble_eq_true rfl)
  rw [lg_entry_eq]
  generalize (lg_sl ([.ref b]) ++ List.replicate (4 - (lg_sl ([.ref b])).length) Slot.unset).toArray = ls at hl ⊢
  have hl : lv_has ls 4 [(0, .ref b)] := hl
  refine va_new (ci := 11) (fs := [.null, .null, .null, .null, .null, .null, .null]) (C := RX11) (T := TX11) (N := 7) hx hb hts (fun w hw => List.mem_cons_of_mem _ (zx_11 w hw)) tyX11 tyX11_ok hown (htz _ k1) (htz _ k2) (htz _ k3) hK hP0 hD0 hS hA rfl (by decide +kernel) (by decide +kernel) (by decide +kernel) dL_0 (fun q1 H1 hP1 hD1 hS1 => ?_)
  have hP1 : va_P D vwCl [(q1, .inr (11, [.null, .null, .null, .null, .null, .null, .null]))] H1 := hP1
  have hD1 : va_D A [(q1, .inr (11, [.null, .null, .null, .null, .null, .null, .null]))] := hD1
  have hA1 : A q1 := hD1.2 0 _ rfl
  have hFc : ∀ q, va_A [(q1, (.inr (11, [.null, .null, .null, .null, .null, .null, .null]) : va_E))] H1.size q → A q := fun q hq => by
    rcases z_vaA1 hq with h9 | h9
    · rw [h9]; exact hA1
    · exact hA q (Nat.le_trans hS1.1 h9)
  refine W.widen (k := 1) (n := 7) (by decide +kernel) (by decide +kernel) ?_
  refine lv_dup hx hb dL_3 rfl ?_
  refine va_callv (va_runI (As := []) (rest := [.ref q1]) S (c_X11_initF l D cy q1 H1.size) (cwI 0 hts (z_gdin zin_X11_init) rfl rfl rfl (htz _ k3) (htz _ k4) (htz _ k5) rfl (by decide +kernel) ⟨Nat.le_of_ble_eq_true rfl, Nat.le_of_ble_eq_true rfl⟩) ⟨pwB, fun U hU hW => ⟨rfl, PW.of hU hW hKW hP1 hD1⟩⟩ rfl rfl hl.1 rfl (lv_room (Nat.le_of_ble_eq_true rfl)) dL_4 ⟨by decide +kernel, by decide +kernel⟩) hS1 (fun q _ h => hFc q h) hFc (fun u t2 H2 locs2 ht2 hvm2 _ hB2 hz2 hk2 hS2 => ?_)
  obtain ⟨ad, hP2, hD2⟩ := hB2
  rw [ht2] at hP2
  refine W.widen (k := 92) (n := 2412) (by decide +kernel) (by decide +kernel) ?_
  refine W_sz (fun hsz2 => ?_)
  -- the class's cells
  generalize hAD : (fun i => ([q1, (ad 0), (ad 7), (ad 12), (ad 8), (ad 9), (ad 13), (ad 15), (ad 16), (ad 17), (ad 18), (ad 19), (ad 20), (ad 21), (ad 14), (ad 22), (ad 23), (ad 24), (ad 25), (ad 26), (ad 27), (ad 28), (ad 10), (ad 29), (ad 31), (ad 32), (ad 30), (ad 33), (ad 34), (ad 11), (ad 35), (ad 37), (ad 38), (ad 39), (ad 40), (ad 36), (ad 41), (ad 42), (ad 43), (ad 44), (ad 1), (ad 2), (ad 45), (ad 50), (ad 51), (ad 52), (ad 53), (ad 54), (ad 55), (ad 56), (ad 46), (ad 57), (ad 58), (ad 47), (ad 59), (ad 60), (ad 61), (ad 62), (ad 48), (ad 49), (ad 3), (ad 63), (ad 68), (ad 69), (ad 70), (ad 71), (ad 72), (ad 73), (ad 64), (ad 65), (ad 66), (ad 67), (ad 4), (ad 74), (ad 75), (ad 76), (ad 77), (ad 78), (ad 79), (ad 80), (ad 81), (ad 5), (ad 82), (ad 83), (ad 84), (ad 6), (ad 85), (ad 86), (ad 87), (ad 88), (ad 89), (ad 90)] : List Nat).getD i 0) = AD
  have hat := zc_at hP2
  rw [hAD] at hat
  have hj : zinj 92 AD := by rw [← hAD]; exact zAD_inj hD2
  have hAA : ∀ i, i < 92 → A (AD i) := fun i hi => by rw [← hAD]; exact hFc _ (zAD_A hD2 hi)
  have hAl : ∀ i, i < 92 → AD i < H2.size := fun i hi => by rw [← hAD]; exact zAD_lt hP2 hi
  have hA0 : AD 0 = q1 := by rw [← hAD]; rfl
  clear hP2 hD2 hAD
  have hlb : ∀ i, i < 92 → s.heap.size ≤ AD i := fun i hi => by have h9 := hAA i hi; rw [hAe] at h9; exact h9
  obtain ⟨η, hη⟩ : ∃ η : zRn, η = zηx 92 cdC AD (fun a => adK (a - 1000000), fun _ => 0) := ⟨_, rfl⟩
  have n1 : ∀ i, i < 92 → η.1 (cdC i) = AD i := fun i hi => by rw [hη]; exact zηx1 cdC_j hi
  have n2 : ∀ i, i < 92 → η.2 (AD i) = cdC i := fun i hi => by rw [hη]; exact zηx2 hj hi
  have n5 : ∀ i, i < 15 → η.1 (1000000 + i) = adK i := fun i hi => by
    rw [hη, zηx1n (fun j hj h9 => by have := cdC_b ⟨j, hj⟩; simp only at this; omega)]
    show adK (1000000 + i - 1000000) = adK i
    rw [show 1000000 + i - 1000000 = i by omega]
  clear hη
  have hH2 := zH_new (T := zTc) (cd := cdC) (AD := AD) (L := []) (Θ := zNm0) (h := fun _ _ => 0) n1 n2 zH_nil0 zTc_ok zTc_ox cdC_j (fun i hi => by have := cdC_b ⟨i, hi⟩; simp only at this; omega) (fun i hi => by
    have := cdC_b ⟨i, hi⟩
    simp only at this
    unfold zNm0
    rw [if_neg (by omega)]) (fun i hi h9 => by cases h9) hat
  have hnd2 : (([] : List Nat) ++ (List.range zTc.length).map AD).Nodup := z_ndnew List.nodup_nil hj (fun i hi h9 => by cases h9)
  have hN2 : nmC η adK (([] : List Nat) ++ (List.range zTc.length).map AD) Th0 h0C := by
    refine ⟨zNm_app zNm0_ok zTi_ns.2.2.2 cdC_j (fun i hi => by have := cdC_b ⟨i, hi⟩; simp only at this; omega), n5, fun q hq => ?_, zTh_at (T := zTc) (cd := cdC) (i := 0) cdC_j (by decide), fun k hk w a a1 a2 => ?_⟩
    · rw [List.nil_append] at hq
      obtain ⟨i, hi, rfl⟩ := List.mem_map.mp hq
      rw [n2 i (List.mem_range.mp hi)]
      exact ⟨_, zTh_at (T := zTc) (cd := cdC) cdC_j (List.mem_range.mp hi)⟩
    · show zTh zTc cdC zNm0 a = none
      rw [zTh_ne (T := zTc) (cd := cdC) (fun i hi h9 => by have := cdC_b ⟨i, hi⟩; simp only at this; omega)]
      unfold zNm0
      rw [if_neg (by omega)]
  have hLA2 : ∀ q ∈ (([] : List Nat) ++ (List.range zTc.length).map AD), s.heap.size ≤ q ∧ q < H2.size := fun q hq => by
    rw [List.nil_append] at hq
    obtain ⟨i, hi, rfl⟩ := List.mem_map.mp hq
    exact ⟨hlb i (List.mem_range.mp hi), hAl i (List.mem_range.mp hi)⟩
  have hηa : η.1 1 = q1 := (n1 0 (by decide)).trans hA0
  have hH2 : zH η zkds D vwCl cy (([] : List Nat) ++ (List.range zTc.length).map AD) Th0 h0C H2 := hH2
  obtain ⟨h, hh⟩ : ∃ h : yH, h = h0C := ⟨_, rfl⟩
  obtain ⟨Θ, hΘ⟩ : ∃ Θ : Nat → Option Nat, Θ = Th0 := ⟨_, rfl⟩
  rw [← hh, ← hΘ] at hH2 hN2
  generalize ([] : List Nat) ++ (List.range zTc.length).map AD = LL at hH2 hnd2 hLA2 hN2
  clear hat hj hAA hAl hA0 hlb n1 n2 n5
  refine lv_astore_n (lv' := [(1, .ref q1), (0, .ref b)]) hx hb dL_7 rfl hl (by decide) rfl (fun ls hl => ?_)
  -- the reference
  have hLA : ∀ q ∈ LL, A q := fun q hq => by rw [hAe]; exact (hLA2 q hq).1
  have hDL : va_D A ([] ++ va_pl LL (zF η zkds cy Θ h)) := z_D hnd2 hLA
  refine va_new (ci := 12) (fs := [.int 0, .null, .null, .null, .null, .null, .null, .null, .null, .int 0, .int 0, .int 0, .int 0, .int 0, .long 0, .int 0, .int 0, .int 0, .null, .null, .int 0, .int 0, .int 0, .int 0, .int 0, .int 0, .int 0, .int 0, .int 0, .int 0, .null, .null, .null, .int 0, .int 0, .int 0, .null, .null, .null, .null, .null, .null, .null, .null, .null, .null, .null, .null, .null, .int 0, .int 0, .int 0, .null, .null, .null, .int 0, .int 0, .int 0, .null, .null, .null, .null, .null, .null]) (C := RX12) (T := TX12) (N := 64) hx hb hts (fun w hw => List.mem_cons_of_mem _ (zx_12 w hw)) tyX12 tyX12_ok hown (htz _ k6) (htz _ k7) (htz _ k8) hK hH2.1 hDL hS2 hA rfl (by decide +kernel) (by decide +kernel) (by decide +kernel) dL_8 (fun q2 H3 hP3 hD3 hS3 => ?_)
  have hq2 : q2 ∉ LL := va_pl_fresh2 hD3
  have hi3 : (([] ++ va_pl LL (zF η zkds cy Θ h)) ++ [(q2, (.inr (12, [.int 0, .null, .null, .null, .null, .null, .null, .null, .null, .int 0, .int 0, .int 0, .int 0, .int 0, .long 0, .int 0, .int 0, .int 0, .null, .null, .int 0, .int 0, .int 0, .int 0, .int 0, .int 0, .int 0, .int 0, .int 0, .int 0, .null, .null, .null, .int 0, .int 0, .int 0, .null, .null, .null, .null, .null, .null, .null, .null, .null, .null, .null, .null, .null, .int 0, .int 0, .int 0, .null, .null, .null, .int 0, .int 0, .int 0, .null, .null, .null, .null, .null, .null]) : va_E))])[([] ++ va_pl LL (zF η zkds cy Θ h)).length]? = some (q2, .inr (12, [.int 0, .null, .null, .null, .null, .null, .null, .null, .null, .int 0, .int 0, .int 0, .int 0, .int 0, .long 0, .int 0, .int 0, .int 0, .null, .null, .int 0, .int 0, .int 0, .int 0, .int 0, .int 0, .int 0, .int 0, .int 0, .int 0, .null, .null, .null, .int 0, .int 0, .int 0, .null, .null, .null, .null, .null, .null, .null, .null, .null, .null, .null, .null, .null, .int 0, .int 0, .int 0, .null, .null, .null, .int 0, .int 0, .int 0, .null, .null, .null, .null, .null, .null])) := by rw [List.getElem?_append_right (Nat.le_refl _), Nat.sub_self]; rfl
  have hA2 : A q2 := hD3.2 _ _ hi3
  have hH3 : zH η zkds D vwCl cy LL Θ h H3 := ⟨fun k q hk => hP3 k q (by rw [List.getElem?_append_left (List.getElem?_eq_some_iff.mp hk).1]; exact hk), hH2.2⟩
  have hPc : va_P D vwCl [(q2, .inr (12, [.int 0, .null, .null, .null, .null, .null, .null, .null, .null, .int 0, .int 0, .int 0, .int 0, .int 0, .long 0, .int 0, .int 0, .int 0, .null, .null, .int 0, .int 0, .int 0, .int 0, .int 0, .int 0, .int 0, .int 0, .int 0, .int 0, .null, .null, .null, .int 0, .int 0, .int 0, .null, .null, .null, .null, .null, .null, .null, .null, .null, .null, .null, .null, .null, .int 0, .int 0, .int 0, .null, .null, .null, .int 0, .int 0, .int 0, .null, .null, .null, .null, .null, .null]))] H3 := fun k q hk => by
    cases k with
    | zero =>
      have e9 : q = (q2, .inr (12, [.int 0, .null, .null, .null, .null, .null, .null, .null, .null, .int 0, .int 0, .int 0, .int 0, .int 0, .long 0, .int 0, .int 0, .int 0, .null, .null, .int 0, .int 0, .int 0, .int 0, .int 0, .int 0, .int 0, .int 0, .int 0, .int 0, .null, .null, .null, .int 0, .int 0, .int 0, .null, .null, .null, .null, .null, .null, .null, .null, .null, .null, .null, .null, .null, .int 0, .int 0, .int 0, .null, .null, .null, .int 0, .int 0, .int 0, .null, .null, .null, .null, .null, .null])) := (Option.some.inj hk).symm
      rw [e9]
      exact hP3 _ _ hi3
    | succ k => simp at hk
  have hDc : va_D A [(q2, (.inr (12, [.int 0, .null, .null, .null, .null, .null, .null, .null, .null, .int 0, .int 0, .int 0, .int 0, .int 0, .long 0, .int 0, .int 0, .int 0, .null, .null, .int 0, .int 0, .int 0, .int 0, .int 0, .int 0, .int 0, .int 0, .int 0, .int 0, .null, .null, .null, .int 0, .int 0, .int 0, .null, .null, .null, .null, .null, .null, .null, .null, .null, .null, .null, .null, .null, .int 0, .int 0, .int 0, .null, .null, .null, .int 0, .int 0, .int 0, .null, .null, .null, .null, .null, .null]) : va_E))] := by
    refine ⟨fun i j x y hx hy _ => ?_, fun k q hk => ?_⟩
    · have := (List.getElem?_eq_some_iff.mp hx).1
      have := (List.getElem?_eq_some_iff.mp hy).1
      simp only [List.length_cons, List.length_nil] at *
      omega
    · cases k with
      | zero =>
        have e9 : q = (q2, .inr (12, [.int 0, .null, .null, .null, .null, .null, .null, .null, .null, .int 0, .int 0, .int 0, .int 0, .int 0, .long 0, .int 0, .int 0, .int 0, .null, .null, .int 0, .int 0, .int 0, .int 0, .int 0, .int 0, .int 0, .int 0, .int 0, .int 0, .null, .null, .null, .int 0, .int 0, .int 0, .null, .null, .null, .null, .null, .null, .null, .null, .null, .null, .null, .null, .null, .int 0, .int 0, .int 0, .null, .null, .null, .int 0, .int 0, .int 0, .null, .null, .null, .null, .null, .null])) := (Option.some.inj hk).symm
        rw [e9]
        exact hA2
      | succ k => simp at hk
  have hFd : ∀ q, va_A [(q2, (.inr (12, [.int 0, .null, .null, .null, .null, .null, .null, .null, .null, .int 0, .int 0, .int 0, .int 0, .int 0, .long 0, .int 0, .int 0, .int 0, .null, .null, .int 0, .int 0, .int 0, .int 0, .int 0, .int 0, .int 0, .int 0, .int 0, .int 0, .null, .null, .null, .int 0, .int 0, .int 0, .null, .null, .null, .null, .null, .null, .null, .null, .null, .null, .null, .null, .null, .int 0, .int 0, .int 0, .null, .null, .null, .int 0, .int 0, .int 0, .null, .null, .null, .null, .null, .null]) : va_E))] H3.size q → A q := fun q hq => by
    rcases z_vaA1 hq with h9 | h9
    · rw [h9]; exact hA2
    · exact hA q (Nat.le_trans hS3.1 h9)
  refine lv_dup hx hb dL_11 rfl ?_
  refine va_callv (va_runI (As := []) (rest := [.ref q2]) S (c_X12_init l D cy q2 H3.size) (cwI 0 hts (z_gdin zin_X12_init) rfl rfl rfl (htz _ k8) (htz _ k9) (htz _ k10) rfl (by decide +kernel) ⟨Nat.le_of_ble_eq_true rfl, Nat.le_of_ble_eq_true rfl⟩) ⟨pwB, fun U hU hW => ⟨rfl, PW.of hU hW hKW hPc hDc⟩⟩ rfl rfl hl.1 rfl (lv_room (Nat.le_of_ble_eq_true rfl)) dL_12 ⟨by decide +kernel, by decide +kernel⟩) hS3 (fun q _ h => hFd q h) hFd (fun u t4 H4 locs4 ht4 hvm4 _ hB4 hz4 hk4 hS4 => ?_)
  obtain ⟨y_1, y_2, y_3, y_4, y_5, y_6, y_7, y_8, y_9, y_10, y_11, y_12, y_13, y_14, y_15, y_16, y_17, y_18, y_19, y_20, y_21, y_22, y_23, y_24, y_25, y_26, y_27, y_28, y_29, y_30, y_31, y_32, y_33, y_34, y_35, hP4, hD4⟩ := hB4
  rw [ht4] at hP4
  refine W.widen (k := 128) (n := 11575) (by decide +kernel) (by decide +kernel) ?_
  refine W_sz (fun hsz4 => ?_)
  generalize hAD : (fun i => ([q2, y_1, y_2, y_3, y_4, y_5, y_6, y_7, y_8, y_9, y_10, y_11, y_12, y_13, y_14, y_15, y_16, y_17, y_18, y_19, y_20, y_21, y_22, y_23, y_24, y_25, y_26, y_27, y_28, y_29, y_30, y_31, y_32, y_33, y_34, y_35] : List Nat).getD i 0) = AR
  have hat := zr_at hP4
  rw [hAD] at hat
  have hj : zinj 36 AR := by rw [← hAD]; exact zAD_inj hD4
  have hAq : ∀ i, i < 36 → AR i = q2 ∨ H3.size ≤ AR i := fun i hi => by rw [← hAD]; exact z_vaA1 (zAD_A hD4 hi)
  have hAl : ∀ i, i < 36 → AR i < H4.size := fun i hi => by rw [← hAD]; exact zAD_lt hP4 hi
  have hA0 : AR 0 = q2 := by rw [← hAD]; rfl
  clear hP4 hD4 hAD
  have hs2 : s.heap.size ≤ q2 := by rw [hAe] at hA2; exact hA2
  have hlb : ∀ i, i < 36 → s.heap.size ≤ AR i := fun i hi => by
    rcases hAq i hi with h9 | h9
    · omega
    · have := hS3.1
      omega
  have hLM : ∀ i, i < 36 → AR i ∉ LL := fun i hi h9 => by
    rcases hAq i hi with h8 | h8
    · rw [h8] at h9
      exact hq2 h9
    · have := zH_lt hH3 h9
      omega
  have hH4 : zH η zkds D vwCl cy LL Θ h H4 := zH_kept hH3 (fun q hq => hk4 q (zH_lt hH3 hq) (fun h9 => by
    rcases z_vaA1 h9 with h8 | h8
    · rw [h8] at hq
      exact hq2 hq
    · have := zH_lt hH3 hq
      omega))
  obtain ⟨ζ, hζ⟩ : ∃ ζ : zRn, ζ = zηx 36 cdR AR (fun _ => 0, fun _ => 0) := ⟨_, rfl⟩
  have m1 : ∀ i, i < 36 → ζ.1 (cdR i) = AR i := fun i hi => by rw [hζ]; exact zηx1 cdR_j hi
  have m2 : ∀ i, i < 36 → ζ.2 (AR i) = cdR i := fun i hi => by rw [hζ]; exact zηx2 hj hi
  clear hζ
  have hG4 : zH ζ zkdm D vwCl cy (([] : List Nat) ++ (List.range zTr.length).map AR) Xi0 g0R H4 := zH_new (T := zTr) (cd := cdR) (AD := AR) (L := []) (Θ := fun _ => none) (h := fun _ _ => 0) m1 m2 zH_nil zTr_ok zTr_ox cdR_j (fun i hi => cdR_b ⟨i, hi⟩) (fun i hi => rfl) (fun i hi h9 => by cases h9) hat
  have hnd4 : (([] : List Nat) ++ (List.range zTr.length).map AR).Nodup := z_ndnew List.nodup_nil hj (fun i hi h9 => by cases h9)
  have hMM : ∀ q ∈ (([] : List Nat) ++ (List.range zTr.length).map AR), s.heap.size ≤ q ∧ q ∉ LL := fun q hq => by
    rw [List.nil_append] at hq
    obtain ⟨i, hi, rfl⟩ := List.mem_map.mp hq
    exact ⟨hlb i (List.mem_range.mp hi), hLM i (List.mem_range.mp hi)⟩
  have hηr : ζ.1 35 = q2 := (m1 0 (by decide)).trans hA0
  generalize ([] : List Nat) ++ (List.range zTr.length).map AR = MM at hG4 hnd4 hMM
  refine lv_astore_n (lv' := [(2, .ref q2), (1, .ref q1), (0, .ref b)]) hx hb dL_15 rfl hl (by decide) rfl (fun ls hl => ?_)
  refine lv_iconst (v := nI 0) hx hb dL_16 (by decide +kernel) ?_
  refine lv_istore_n (lv' := [(3, .int (nI 0)), (2, .ref q2), (1, .ref q1), (0, .ref b)]) hx hb dL_17 rfl hl (by decide) rfl (fun ls hl => ?_)
  rw [hAe] at hS4
  have hR : RW lwF h g0R := by
    rw [hh]
    exact ⟨R0 lwF, fun _ => h0_cW⟩
  have hI : lwI lwF s D cy adK q1 q2 H4 := ⟨η, ζ, LL, MM, Θ, Xi0, h, g0R, ⟨hnd2, hnd4, fun q h8 h9 => (hMM q h9).2 h8, fun q hq => (hLA2 q hq).1, fun q hq => (hMM q hq).1⟩, hN2, Xi0_ok, hH4, hG4, ⟨hηa, hηr⟩, hR⟩
  have Y : lwX l p s m meth c b L xs D cy tb adK adV fv := ⟨C0, hL, hKW, hZ⟩
  exact lw_loop Y L 0 H4 locs4 ls (by omega) (by omega) hI hS4 hl
end
