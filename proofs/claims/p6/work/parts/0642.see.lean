variable {η : zRn}
/-! in and see, to the value -/
theorem zu_X12_in_0 : decode cX12_in 0 = .ok (.iload_n 0, 1) := by decide +kernel
theorem zu_X12_in_1 : decode cX12_in 1 = .ok (.iload_n 1, 1) := by decide +kernel
theorem zu_X12_in_2 : decode cX12_in 2 = .ok (.if_icmp .lt 12, 3) := by decide +kernel
theorem zu_X12_in_5 : decode cX12_in 5 = .ok (.iload_n 0, 1) := by decide +kernel
theorem zu_X12_in_6 : decode cX12_in 6 = .ok (.iload_n 2, 1) := by decide +kernel
theorem zu_X12_in_7 : decode cX12_in 7 = .ok (.if_icmp .gt 7, 3) := by decide +kernel
theorem zu_X12_in_10 : decode cX12_in 10 = .ok (.iconst 1, 1) := by decide +kernel
theorem zu_X12_in_11 : decode cX12_in 11 = .ok (.goto 4, 3) := by decide +kernel
theorem zu_X12_in_14 : decode cX12_in 14 = .ok (.iconst 0, 1) := by decide +kernel
theorem zu_X12_in_15 : decode cX12_in 15 = .ok (.ireturn, 1) := by decide +kernel
theorem zu_X12_see_0 : decode cX12_see 0 = .ok (.aload_n 0, 1) := by decide +kernel
theorem zu_X12_see_1 : decode cX12_see 1 = .ok (.getfield 137, 3) := by decide +kernel
theorem zu_X12_see_4 : decode cX12_see 4 = .ok (.aload_n 0, 1) := by decide +kernel
theorem zu_X12_see_5 : decode cX12_see 5 = .ok (.getfield 140, 3) := by decide +kernel
theorem zu_X12_see_8 : decode cX12_see 8 = .ok (.if_icmp .ge 19, 3) := by decide +kernel
theorem zu_X12_see_11 : decode cX12_see 11 = .ok (.aload_n 0, 1) := by decide +kernel
theorem zu_X12_see_12 : decode cX12_see 12 = .ok (.getfield 7, 3) := by decide +kernel
theorem zu_X12_see_15 : decode cX12_see 15 = .ok (.aload_n 0, 1) := by decide +kernel
theorem zu_X12_see_16 : decode cX12_see 16 = .ok (.getfield 137, 3) := by decide +kernel
theorem zu_X12_see_19 : decode cX12_see 19 = .ok (.baload, 1) := by decide +kernel
theorem zu_X12_see_20 : decode cX12_see 20 = .ok (.sipush 255, 3) := by decide +kernel
theorem zu_X12_see_23 : decode cX12_see 23 = .ok (.iand, 1) := by decide +kernel
theorem zu_X12_see_24 : decode cX12_see 24 = .ok (.goto 4, 3) := by decide +kernel
theorem zu_X12_see_27 : decode cX12_see 27 = .ok (.iconst (-1), 1) := by decide +kernel
theorem zu_X12_see_28 : decode cX12_see 28 = .ok (.ireturn, 1) := by decide +kernel
def zch_X12_in : List (Nat × Jvm.ClassFile.Instr × Nat) := [(0, .iload_n 0, 1), (1, .iload_n 1, 1), (2, .if_icmp .lt 12, 3), (5, .iload_n 0, 1), (6, .iload_n 2, 1), (7, .if_icmp .gt 7, 3), (10, .iconst 1, 1), (11, .goto 4, 3), (14, .iconst 0, 1), (15, .ireturn, 1)]
theorem zdh_X12_in : ∀ q ∈ zch_X12_in, decode cX12_in q.1 = .ok (q.2.1, q.2.2) := by decide +kernel
set_option maxRecDepth 100000 in
theorem zqh_X12_in : lw_tbl[1507]? = some (.code yX12_in cX12_in 3 (some .boolean)) := rfl
theorem zwh_X12_in : zMS yX12_in cX12_in 3 (some .boolean) 3 := ⟨⟨zTin 113 (by decide +kernel) rfl, zTin 1507 zqh_X12_in rfl, ⟨by decide, by decide⟩, by decide +kernel⟩, zTin 1506 (by decide +kernel) rfl⟩
def zch_X12_see : List (Nat × Jvm.ClassFile.Instr × Nat) := [(0, .aload_n 0, 1), (1, .getfield 137, 3), (4, .aload_n 0, 1), (5, .getfield 140, 3), (8, .if_icmp .ge 19, 3), (11, .aload_n 0, 1), (12, .getfield 7, 3), (15, .aload_n 0, 1), (16, .getfield 137, 3), (19, .baload, 1), (20, .sipush 255, 3), (23, .iand, 1), (24, .goto 4, 3), (27, .iconst (-1), 1), (28, .ireturn, 1)]
theorem zdh_X12_see : ∀ q ∈ zch_X12_see, decode cX12_see q.1 = .ok (q.2.1, q.2.2) := by decide +kernel
set_option maxRecDepth 100000 in
theorem zqh_X12_see : lw_tbl[1527]? = some (.code yX12_see cX12_see 1 (some .int)) := rfl
theorem zwh_X12_see : zMV yX12_see cX12_see 1 (some .int) 0 := ⟨⟨zTin 113 (by decide +kernel) rfl, zTin 1527 zqh_X12_see rfl, ⟨by decide, by decide⟩, by decide +kernel⟩, zTin 1526 (by decide +kernel) rfl, zTin 34 (by decide +kernel) rfl⟩
abbrev zKM : zKD := (0, 12, 64, [(0, (-2147483648), 2147483647), (2, 0, 2147483647), (3, 0, 2147483647), (4, 0, 2147483647), (5, 0, 2147483647), (6, 0, 2147483647), (7, 0, 2147483647), (8, 0, 2147483647), (9, 0, 2147483647), (0, 0, 600), (0, 0, 600), (0, 0, 600), (0, 0, 4), (0, 0, 99), (1, (-9223372036854775808), 9223372036854775807), (0, (-2147483648), 2147483647), (0, 0, 4), (0, (-2147483648), 2147483647), (10, 0, 2147483647), (11, 0, 2147483647), (0, (-1), 99), (0, (-1), 99), (0, 0, 1), (0, 0, 1), (0, 0, 8), (0, 0, 8), (0, (-2147483648), 2147483647), (0, (-2147483648), 2147483647), (0, 0, 6), (0, 0, 4), (12, 0, 2147483647), (13, 0, 2147483647), (14, 0, 2147483647), (0, (-2147483648), 2147483647), (0, 0, 30), (0, 0, 6), (15, 0, 2147483647), (16, 0, 2147483647), (17, 0, 2147483647), (22, 0, 2147483647), (21, 0, 2147483647), (18, 0, 2147483647), (19, 0, 2147483647), (20, 0, 2147483647), (23, 0, 2147483647), (24, 0, 2147483647), (25, 0, 2147483647), (26, 0, 2147483647), (27, 0, 2147483647), (0, (-2147483648), 2147483647), (0, (-2147483648), 2147483647), (0, (-2147483648), 2147483647), (29, 0, 2147483647), (30, 0, 2147483647), (28, 0, 2147483647), (0, 0, 1), (0, 0, 9), (0, 0, 16), (31, 0, 2147483647), (32, 0, 2147483647), (33, 0, 2147483647), (34, 0, 2147483647), (35, 0, 2147483647), (36, 0, 2147483647)])
theorem zkm : zkdm[35]? = some zKM := rfl
abbrev zKtp : zKD := (1, 1, 2400, [(0, (-128), 127)])
theorem zktp : zkdm[0]? = some zKtp := rfl
theorem zty_tape : zty zKM 1 = (2, 0, 2147483647) := by decide +kernel
theorem zty_reached : zty zKM 9 = (0, 0, 600) := by decide +kernel
theorem zty_length : zty zKM 10 = (0, 0, 600) := by decide +kernel
theorem zty_value : zty zKM 13 = (0, 0, 99) := by decide +kernel
theorem zty_word : zty zKM 14 = (1, (-9223372036854775808), 9223372036854775807) := by decide +kernel
theorem zty_begins : zty zKM 11 = (0, 0, 600) := by decide +kernel
theorem zty_sort : zty zKM 12 = (0, 0, 4) := by decide +kernel
theorem zfh_7 : zFok RX12 zTW vwCl (7, 12, 1, none) := ⟨RX12, TX12, 64, rfl, zx_12, by decide, zTin 1300 (by decide +kernel) rfl, fun _ h => by cases h⟩
theorem zfh_137 : zFok RX12 zTW vwCl (137, 12, 9, (some .int)) := ⟨RX12, TX12, 64, rfl, zx_12, by decide, zTin 1308 (by decide +kernel) rfl, fun ty h => ⟨rfl, tyX12, tyX12_ok, nmX12, by cases h; rfl⟩⟩
theorem zfh_140 : zFok RX12 zTW vwCl (140, 12, 10, (some .int)) := ⟨RX12, TX12, 64, rfl, zx_12, by decide, zTin 1309 (by decide +kernel) rfl, fun ty h => ⟨rfl, tyX12, tyX12_ok, nmX12, by cases h; rfl⟩⟩
theorem zfh_150 : zFok RX12 zTW vwCl (150, 12, 14, (some .long)) := ⟨RX12, TX12, 64, rfl, zx_12, by decide, zTin 1313 (by decide +kernel) rfl, fun ty h => ⟨rfl, tyX12, tyX12_ok, nmX12, by cases h; rfl⟩⟩
theorem zfh_157 : zFok RX12 zTW vwCl (157, 12, 13, (some .int)) := ⟨RX12, TX12, 64, rfl, zx_12, by decide, zTin 1312 (by decide +kernel) rfl, fun ty h => ⟨rfl, tyX12, tyX12_ok, nmX12, by cases h; rfl⟩⟩
theorem z_d0 (x : Int) : zdec η 0 x = .int (Int32.ofInt x) := rfl
theorem z_d1 (x : Int) : zdec η 1 x = .long (Int64.ofInt x) := rfl
theorem z_dx (k : Nat) {x : Int} (h : 0 ≤ x) : zdec η (k + 2) x = .ref (η.1 x.toNat) := by
  have := z_dr (η := η) k x.toNat
  rw [show ((x.toNat : Nat) : Int) = x by omega] at this
  exact this
theorem z_b255a : ∀ k : Fin 256, (Int32.ofInt ((k.val : Int) - 128) &&& 255) = Int32.ofInt (((k.val : Int) - 128) % 256) := by decide +kernel
theorem z_b255 {x : Int} (h1 : -128 ≤ x) (h2 : x ≤ 127) : (Int32.ofInt x &&& 255) = Int32.ofInt (x % 256) := by
  have := z_b255a ⟨(x + 128).toNat, by omega⟩
  simp only at this
  rw [show ((x + 128).toNat : Int) - 128 = x by omega] at this
  exact this
theorem z_le32 {x y : Int} (h1 : -2147483648 ≤ x ∧ x ≤ 2147483647) (h2 : -2147483648 ≤ y ∧ y ≤ 2147483647) : Int32.ofInt x ≤ Int32.ofInt y ↔ x ≤ y := by
  rw [Int32.le_iff_toInt_le, z_toi h1.1 h1.2, z_toi h2.1 h2.2]
/-- what see answers -/
def zsee (h : Nat → Nat → Int) (a : Nat) : Int := if h a 9 < h a 10 then h (h a 1).toNat (h a 9).toNat % 256 else -1
theorem zinB {v lo hi : Int32} : FrameBlind (va_Pc [.int v, .int lo, .int hi] (fun _ : State => True)) := fun _ _ _ _ q => ⟨q.1, trivial⟩
set_option maxHeartbeats 4000000 in
theorem zS_in (l : Launch) (v lo hi : Int32) : Met l yX12_in (Cond.code yX12_in cX12_in 3 (some .boolean) :: zTW) ({ frames := 0, cells := 0, slots := 0, locals := 0 } : Room) (va_Pc [.int v, .int lo, .int hi] (fun _ : State => True)) (vp_Si (fun r => r = if lo ≤ v ∧ v ≤ hi then 1 else 0)) 0 0 (fun _ => False) := by
  refine Met.ofW (cc := cX12_in) (maxL := 3) (ret := (some .boolean)) (by decide +kernel) rfl ?_
  intro p e s m args below meth c s₁ B hml hv
  obtain ⟨rfl, -⟩ := hv
  have hx := B.exec
  have hb := B.bytes
  have hr := B.returns
  have hts0 := atoms_spec (ws := Cond.code yX12_in cX12_in 3 (some .boolean) :: zTW) B.pre
  have hts : ∀ w ∈ zTW, w.before _ s = true := fun w hw => hts0 w (List.mem_cons_of_mem _ hw)
  have hown : s.vm.findClass RX12 = some m.cls := findClass_of_methodNamed B.named
  have hlocks := B.notSynchronized
  have hl := lv_entry ([.int v, .int lo, .int hi]) (n := 3) (Nat.le_of_ble_eq_true rfl)
  rw [lg_entry_eq]
  generalize (lg_sl ([.int v, .int lo, .int hi]) ++ List.replicate (3 - (lg_sl ([.int v, .int lo, .int hi])).length) Slot.unset).toArray = ls at hl ⊢
  have hl : lv_has ls 3 [(0, .int v), (1, .int lo), (2, .int hi)] := hl
  refine lv_iload_n hx hb zu_X12_in_0 rfl (lv_at hl 0 rfl) ?_
  refine lv_iload_n hx hb zu_X12_in_1 rfl (lv_at hl 1 rfl) ?_
  refine lv_icmp_lt (tgt := 14) hx hb zu_X12_in_2 (by decide) (fun h1 => ?_) (fun h1 => ?_)
  · refine lv_iconst (v := 0) hx hb zu_X12_in_14 (by decide +kernel) ?_
    exact W.zret (v := 0) hx hb hr (by decide +kernel) (fun t ht hW => ⟨0, rfl, by rw [if_neg (fun q => absurd q.1 (Int32.not_le.mpr h1))], ht⟩) (fun _ h => absurd h List.not_mem_nil) zu_X12_in_15
  · refine lv_iload_n hx hb zu_X12_in_5 rfl (lv_at hl 0 rfl) ?_
    refine lv_iload_n hx hb zu_X12_in_6 rfl (lv_at hl 2 rfl) ?_
    refine lv_icmp_gt (tgt := 14) hx hb zu_X12_in_7 (by decide) (fun h2 => ?_) (fun h2 => ?_)
    · refine lv_iconst (v := 0) hx hb zu_X12_in_14 (by decide +kernel) ?_
      exact W.zret (v := 0) hx hb hr (by decide +kernel) (fun t ht hW => ⟨0, rfl, by rw [if_neg (fun q => absurd q.2 (Int32.not_le.mpr h2))], ht⟩) (fun _ h => absurd h List.not_mem_nil) zu_X12_in_15
    · refine lv_iconst (v := 1) hx hb zu_X12_in_10 (by decide +kernel) ?_
      refine lv_goto (tgt := 15) hx hb zu_X12_in_11 (by decide) ?_
      exact W.zret (v := 1) hx hb hr (by decide +kernel) (fun t ht hW => ⟨1, rfl, by rw [if_pos ⟨Int32.not_lt.mp h1, Int32.not_lt.mp h2⟩], ht⟩) (fun _ h => absurd h List.not_mem_nil) zu_X12_in_15
section ZSEE
variable {D : va_G} {cy : Nat → ClassId} {L : List Nat} {Θ : Nat → Option Nat} {h : Nat → Nat → Int} {H : Heap}
theorem z_tp (hH : zH η zkdm D vwCl cy L Θ h H) {a : Nat} (ha : Θ a = some 35) : 0 ≤ h a 1 ∧ Θ (h a 1).toNat = some 0 := by
  have h1 := zH_in hH ha zkm (j := 1) (by decide)
  rw [zty_tape] at h1
  obtain ⟨h2, h3, -⟩ := h1
  simp only at h3
  rcases h2 with h2 | h2
  · omega
  · exact h2
theorem z_rl9 (hH : zH η zkdm D vwCl cy L Θ h H) {a : Nat} (ha : Θ a = some 35) : (0 ≤ h a 9 ∧ h a 9 ≤ 600) ∧ (0 ≤ h a 10 ∧ h a 10 ≤ 600) := by
  have h1 := zH_in hH ha zkm (j := 9) (by decide)
  have h2 := zH_in hH ha zkm (j := 10) (by decide)
  rw [zty_reached] at h1
  rw [zty_length] at h2
  exact ⟨h1.2, h2.2⟩
theorem z_by (hH : zH η zkdm D vwCl cy L Θ h H) {a : Nat} (ha : Θ a = some 0) {j : Nat} (hj : j < 2400) : -128 ≤ h a j ∧ h a j ≤ 127 := by
  have h1 := zH_in hH ha zktp (j := j) hj
  have e1 : zty zKtp j = (0, -128, 127) := by unfold zty; simp [Nat.mod_one]
  rw [e1] at h1
  exact h1.2
theorem z_seeb (hH : zH η zkdm D vwCl cy L Θ h H) {a : Nat} (ha : Θ a = some 35) : (h a 9 < h a 10 → 0 ≤ zsee h a ∧ zsee h a ≤ 255) ∧ (¬ h a 9 < h a 10 → zsee h a = -1) ∧ -1 ≤ zsee h a ∧ zsee h a ≤ 255 := by
  obtain ⟨b1, b2⟩ := z_rl9 hH ha
  unfold zsee
  by_cases hc : h a 9 < h a 10
  · rw [if_pos hc]
    refine ⟨fun _ => ?_, fun q => absurd hc q, ?_⟩ <;> omega
  · rw [if_neg hc]
    exact ⟨fun q => absurd q hc, fun _ => rfl, by decide, by decide⟩
end ZSEE
theorem zseeB {D : va_G} {cy : Nat → ClassId} {L : List Nat} {Θ : Nat → Option Nat} {h : Nat → Nat → Int} {av : List Value} : FrameBlind (va_Pc av (fun U : State => zH η zkdm D vwCl cy L Θ h U.heap ∧ KW D cy U)) := fun _ _ _ _ q => ⟨q.1, q.2.1, q.2.2.call⟩
set_option maxHeartbeats 4000000 in
theorem zS_see (l : Launch) (η : zRn) (D : va_G) (cy : Nat → ClassId) (L : List Nat) (Θ : Nat → Option Nat) (h : Nat → Nat → Int) (a : Nat) (ha : Θ a = some 35) (hnd : L.Nodup) : Met l yX12_see (Cond.code yX12_see cX12_see 1 (some .int) :: zTW) ({ frames := 0, cells := 0, slots := 0, locals := 0 } : Room) (va_Pc [.ref (η.1 a)] (fun U : State => zH η zkdm D vwCl cy L Θ h U.heap ∧ KW D cy U)) (vp_Si (fun r => r = Int32.ofInt (zsee h a))) 0 0 (fun _ => False) := by
  refine Met.ofW (cc := cX12_see) (maxL := 1) (ret := (some .int)) (by decide +kernel) rfl ?_
  intro p e s m args below meth c s₁ B hml hv
  obtain ⟨rfl, hH, hKW⟩ := hv
  have hx := B.exec
  have hb := B.bytes
  have hr := B.returns
  have hts0 := atoms_spec (ws := Cond.code yX12_see cX12_see 1 (some .int) :: zTW) B.pre
  have hts : ∀ w ∈ zTW, w.before _ s = true := fun w hw => hts0 w (List.mem_cons_of_mem _ hw)
  have hown : s.vm.findClass RX12 = some m.cls := findClass_of_methodNamed B.named
  have hlocks := B.notSynchronized
  have hl := lv_entry ([.ref (η.1 a)]) (n := 1) (Nat.le_of_ble_eq_true rfl)
  rw [lg_entry_eq]
  generalize (lg_sl ([.ref (η.1 a)]) ++ List.replicate (1 - (lg_sl ([.ref (η.1 a)])).length) Slot.unset).toArray = ls at hl ⊢
  have hl : lv_has ls 1 [(0, .ref (η.1 a))] := hl
  have hT := (zkpr_ok.1 η D cy L Θ s hKW).2
  have X : hCx D vwCl cy L p s m _ c cX12_see 1 (tyW cy) zTW RX12 := ⟨hx, hb, hml, hts, hown, hKW.1, hT, hnd⟩
  obtain ⟨b1, b2⟩ := z_rl9 hH ha
  obtain ⟨tp1, tp2⟩ := z_tp hH ha
  refine lv_aload_n hx hb zu_X12_see_0 rfl (lv_at hl 0 rfl) ?_
  refine hw_get X zfh_137 ha zkm ⟨rfl, rfl⟩ (by decide) hH zu_X12_see_1 ?_
  rw [zty_reached, z_d0]
  refine lv_aload_n hx hb zu_X12_see_4 rfl (lv_at hl 0 rfl) ?_
  refine hw_get X zfh_140 ha zkm ⟨rfl, rfl⟩ (by decide) hH zu_X12_see_5 ?_
  rw [zty_length, z_d0]
  refine lv_icmp_ge (tgt := 27) hx hb zu_X12_see_8 (by decide) (fun hc => ?_) (fun hc => ?_)
  · have hc2 : ¬ h a 9 < h a 10 := by
      have := (z_le32 (by omega) (by omega)).mp hc
      omega
    refine lv_iconst (v := -1) hx hb zu_X12_see_27 (by decide +kernel) ?_
    exact W.iret (v := -1) hx hb hr (fun t ht hW => ⟨-1, rfl, by unfold zsee; rw [if_neg hc2]; rfl, ht⟩) (fun _ h => absurd h List.not_mem_nil) zu_X12_see_28
  · have hc2 : h a 9 < h a 10 := by
      apply Int.not_le.mp
      intro q
      exact hc ((z_le32 (by omega) (by omega)).mpr q)
    have hti : (Int32.ofInt (h a 9)).toInt = h a 9 := z_toi (by omega) (by omega)
    refine lv_aload_n hx hb zu_X12_see_11 rfl (lv_at hl 0 rfl) ?_
    refine hw_get X zfh_7 ha zkm ⟨rfl, rfl⟩ (by decide) hH zu_X12_see_12 ?_
    rw [zty_tape]
    simp only
    rw [z_dx 0 tp1]
    refine lv_aload_n hx hb zu_X12_see_15 rfl (lv_at hl 0 rfl) ?_
    refine hw_get X zfh_137 ha zkm ⟨rfl, rfl⟩ (by decide) hH zu_X12_see_16 ?_
    rw [zty_reached, z_d0]
    refine hw_bald X tp2 zktp ⟨rfl, Or.inl rfl⟩ (by rw [hti]; exact ⟨by omega, by simp only; omega⟩) hH zu_X12_see_19 ?_
    rw [hti]
    refine lv_sipush (v := 255) hx hb zu_X12_see_20 (by decide +kernel) ?_
    refine lv_iand hx hb zu_X12_see_23 ?_
    have hby := z_by hH tp2 (j := (h a 9).toNat) (by omega)
    rw [z_b255 hby.1 hby.2]
    refine lv_goto (tgt := 28) hx hb zu_X12_see_24 (by decide) ?_
    exact W.iret hx hb hr (fun t ht hW => ⟨_, rfl, by unfold zsee; rw [if_pos hc2], ht⟩) (fun _ h => absurd h List.not_mem_nil) zu_X12_see_28
