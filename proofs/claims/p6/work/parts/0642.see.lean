variable {η : zRn}
/-! in and see, to the value -/
theorem zu_X12_in_0 : decode cX12_in 0 = .ok (.iload_n 0, 1) := by decide +kernel
theorem zu_X12_in_1 : decode cX12_in 1 = .ok (.iload_n 1, 1) := by decide +kernel
theorem zu_X12_in_2 : decode cX12_in 2 = .ok (.if_icmp .lt 12, 3) := by decide +kernel
theorem zu_X12_in_5 : decode cX12_in 5 = .ok (.iload_n 0, 1) := by decide +kernel
theorem zu_X12_in_6 : decode cX12_in 6 = .ok (.iload_n 2, 1) := by decide +kernel
theorem zu_X12_in_7 : decode cX12_in 7 = .ok (.if_icmp .gt 7, 3) := by decide +kernel
theorem zu_X12_in_10 : decode cX12_in 10 = .ok (.iconst 1, 1) := by decide +kernel
theorem zu_X12_in_11 : decode cX12_in 11 = .ok (.goto 4, 3) := by decide +kernel
theorem zu_X12_in_14 : decode cX12_in 14 = .ok (.iconst 0, 1) := by decide +kernel
theorem zu_X12_in_15 : decode cX12_in 15 = .ok (.ireturn, 1) := by decide +kernel
set_option maxRecDepth 100000 in
theorem zqh_X12_in : lw_tbl[1507]? = some (.code yX12_in cX12_in 3 (some .boolean)) := rfl
theorem zwh_X12_in : zMS yX12_in cX12_in 3 (some .boolean) 3 := ⟨⟨zTin 113 (by decide +kernel) rfl, zTin 1507 zqh_X12_in rfl, ⟨by decide, by decide⟩, by decide +kernel⟩, zTin 1506 (by decide +kernel) rfl⟩
abbrev zKM : zKD := (0, 12, 64, [(0, (-2147483648), 2147483647), (2, 0, 2147483647), (3, 0, 2147483647), (4, 0, 2147483647), (5, 0, 2147483647), (6, 0, 2147483647), (7, 0, 2147483647), (8, 0, 2147483647), (9, 0, 2147483647), (0, 0, 600), (0, 0, 600), (0, 0, 600), (0, 0, 4), (0, 0, 99), (1, (-9223372036854775808), 9223372036854775807), (0, (-2147483648), 2147483647), (0, 0, 4), (0, (-2147483648), 2147483647), (10, 0, 2147483647), (11, 0, 2147483647), (0, (-1), 99), (0, (-1), 99), (0, 0, 1), (0, 0, 1), (0, 0, 8), (0, 0, 8), (0, (-2147483648), 2147483647), (0, (-2147483648), 2147483647), (0, 0, 6), (0, 0, 4), (12, 0, 2147483647), (13, 0, 2147483647), (14, 0, 2147483647), (0, (-2147483648), 2147483647), (0, 0, 30), (0, 0, 6), (15, 0, 2147483647), (16, 0, 2147483647), (17, 0, 2147483647), (22, 0, 2147483647), (21, 0, 2147483647), (18, 0, 2147483647), (19, 0, 2147483647), (20, 0, 2147483647), (23, 0, 2147483647), (24, 0, 2147483647), (25, 0, 2147483647), (26, 0, 2147483647), (27, 0, 2147483647), (0, (-2147483648), 2147483647), (0, (-2147483648), 2147483647), (0, (-2147483648), 2147483647), (29, 0, 2147483647), (30, 0, 2147483647), (28, 0, 2147483647), (0, 0, 1), (0, 0, 9), (0, 0, 16), (31, 0, 2147483647), (32, 0, 2147483647), (33, 0, 2147483647), (34, 0, 2147483647), (35, 0, 2147483647), (36, 0, 2147483647)])
theorem zkm : zkdm[35]? = some zKM := rfl
theorem z_d0 (x : Int) : zdec η 0 x = .int (Int32.ofInt x) := rfl
theorem z_le32 {x y : Int} (h1 : -2147483648 ≤ x ∧ x ≤ 2147483647) (h2 : -2147483648 ≤ y ∧ y ≤ 2147483647) : Int32.ofInt x ≤ Int32.ofInt y ↔ x ≤ y := by
  rw [Int32.le_iff_toInt_le, z_toi h1.1 h1.2, z_toi h2.1 h2.2]
theorem zinB {v lo hi : Int32} : FrameBlind (va_Pc [.int v, .int lo, .int hi] (fun _ : State => True)) := fun _ _ _ _ q => ⟨q.1, trivial⟩
set_option maxHeartbeats 4000000 in
theorem zS_in (l : Launch) (v lo hi : Int32) : Met l yX12_in (Cond.code yX12_in cX12_in 3 (some .boolean) :: zTW) ({ frames := 0, cells := 0, slots := 0, locals := 0 } : Room) (va_Pc [.int v, .int lo, .int hi] (fun _ : State => True)) (vp_Si (fun r => r = if lo ≤ v ∧ v ≤ hi then 1 else 0)) 0 0 (fun _ => False) := by
  refine Met.ofW (cc := cX12_in) (maxL := 3) (ret := (some .boolean)) (by decide +kernel) rfl ?_
  intro p e s m args below meth c s₁ B hml hv
  obtain ⟨rfl, -⟩ := hv
  have hx := B.exec
  have hb := B.bytes
  have hr := B.returns
  have hts0 := atoms_spec (ws := Cond.code yX12_in cX12_in 3 (some .boolean) :: zTW) B.pre
  have hts : ∀ w ∈ zTW, w.before _ s = true := fun w hw => hts0 w (List.mem_cons_of_mem _ hw)
  have hown : s.vm.findClass RX12 = some m.cls := findClass_of_methodNamed B.named
  have hlocks := B.notSynchronized
  have hl := lv_entry ([.int v, .int lo, .int hi]) (n := 3) (Nat.le_of_ble_eq_true rfl)
  rw [lg_entry_eq]
  generalize (lg_sl ([.int v, .int lo, .int hi]) ++ List.replicate (3 - (lg_sl ([.int v, .int lo, .int hi])).length) Slot.unset).toArray = ls at hl ⊢
  have hl : lv_has ls 3 [(0, .int v), (1, .int lo), (2, .int hi)] := hl
  refine lv_iload_n hx hb zu_X12_in_0 rfl (lv_at hl 0 rfl) ?_
  refine lv_iload_n hx hb zu_X12_in_1 rfl (lv_at hl 1 rfl) ?_
  refine lv_icmp_lt (tgt := 14) hx hb zu_X12_in_2 (by decide) (fun h1 => ?_) (fun h1 => ?_)
  · refine lv_iconst (v := 0) hx hb zu_X12_in_14 (by decide +kernel) ?_
    exact W.zret (v := 0) hx hb hr (by decide +kernel) (fun t ht hW => ⟨0, rfl, by rw [if_neg (fun q => absurd q.1 (Int32.not_le.mpr h1))], ht⟩) (fun _ h => absurd h List.not_mem_nil) zu_X12_in_15
  · refine lv_iload_n hx hb zu_X12_in_5 rfl (lv_at hl 0 rfl) ?_
    refine lv_iload_n hx hb zu_X12_in_6 rfl (lv_at hl 2 rfl) ?_
    refine lv_icmp_gt (tgt := 14) hx hb zu_X12_in_7 (by decide) (fun h2 => ?_) (fun h2 => ?_)
    · refine lv_iconst (v := 0) hx hb zu_X12_in_14 (by decide +kernel) ?_
      exact W.zret (v := 0) hx hb hr (by decide +kernel) (fun t ht hW => ⟨0, rfl, by rw [if_neg (fun q => absurd q.2 (Int32.not_le.mpr h2))], ht⟩) (fun _ h => absurd h List.not_mem_nil) zu_X12_in_15
    · refine lv_iconst (v := 1) hx hb zu_X12_in_10 (by decide +kernel) ?_
      refine lv_goto (tgt := 15) hx hb zu_X12_in_11 (by decide) ?_
      exact W.zret (v := 1) hx hb hr (by decide +kernel) (fun t ht hW => ⟨1, rfl, by rw [if_pos ⟨Int32.not_lt.mp h1, Int32.not_lt.mp h2⟩], ht⟩) (fun _ h => absurd h List.not_mem_nil) zu_X12_in_15
section ZSEE
variable {D : va_G} {cy : Nat → ClassId} {L : List Nat} {Θ : Nat → Option Nat} {h : Nat → Nat → Int} {H : Heap}
end ZSEE
theorem zseeB {D : va_G} {cy : Nat → ClassId} {L : List Nat} {Θ : Nat → Option Nat} {h : Nat → Nat → Int} {av : List Value} : FrameBlind (va_Pc av (fun U : State => zH η zkdm D vwCl cy L Θ h U.heap ∧ KW D cy U)) := fun _ _ _ _ q => ⟨q.1, q.2.1, q.2.2.call⟩
