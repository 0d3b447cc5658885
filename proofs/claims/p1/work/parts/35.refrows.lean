theorem dX12_copyRow_0 : decode cX12_copyRow 0 = .ok (.iconst 0, 1) := by decide +kernel
theorem dX12_copyRow_1 : decode cX12_copyRow 1 = .ok (.istore 4, 2) := by decide +kernel
theorem dX12_copyRow_3 : decode cX12_copyRow 3 = .ok (.iload 4, 2) := by decide +kernel
theorem dX12_copyRow_5 : decode cX12_copyRow 5 = .ok (.iload_n 1, 1) := by decide +kernel
theorem dX12_copyRow_6 : decode cX12_copyRow 6 = .ok (.if_icmp .ge 25, 3) := by decide +kernel
theorem dX12_copyRow_31 : decode cX12_copyRow 31 = .ok (.return_, 1) := by decide +kernel
theorem dX12_copyRow_9 : decode cX12_copyRow 9 = .ok (.aload_n 0, 1) := by decide +kernel
theorem dX12_copyRow_10 : decode cX12_copyRow 10 = .ok (.iload_n 1, 1) := by decide +kernel
theorem dX12_copyRow_11 : decode cX12_copyRow 11 = .ok (.iload_n 3, 1) := by decide +kernel
theorem dX12_copyRow_12 : decode cX12_copyRow 12 = .ok (.imul, 1) := by decide +kernel
theorem dX12_copyRow_13 : decode cX12_copyRow 13 = .ok (.iload 4, 2) := by decide +kernel
theorem dX12_copyRow_15 : decode cX12_copyRow 15 = .ok (.iadd, 1) := by decide +kernel
theorem dX12_copyRow_16 : decode cX12_copyRow 16 = .ok (.aload_n 0, 1) := by decide +kernel
theorem dX12_copyRow_17 : decode cX12_copyRow 17 = .ok (.iload_n 1, 1) := by decide +kernel
theorem dX12_copyRow_18 : decode cX12_copyRow 18 = .ok (.iload_n 2, 1) := by decide +kernel
theorem dX12_copyRow_19 : decode cX12_copyRow 19 = .ok (.imul, 1) := by decide +kernel
theorem dX12_copyRow_20 : decode cX12_copyRow 20 = .ok (.iload 4, 2) := by decide +kernel
theorem dX12_copyRow_22 : decode cX12_copyRow 22 = .ok (.iadd, 1) := by decide +kernel
theorem dX12_copyRow_23 : decode cX12_copyRow 23 = .ok (.iaload, 1) := by decide +kernel
theorem dX12_copyRow_24 : decode cX12_copyRow 24 = .ok (.iastore, 1) := by decide +kernel
theorem dX12_copyRow_25 : decode cX12_copyRow 25 = .ok (.iinc 4 1, 3) := by decide +kernel
theorem dX12_copyRow_28 : decode cX12_copyRow 28 = .ok (.goto (-25), 3) := by decide +kernel
set_option maxHeartbeats 4000000 in
set_option maxRecDepth 100000 in
theorem c_X12_copyRow_1_1 (l : Launch) (D : va_G) (cy : Nat → ClassId) (ra : Nat) (rf : Nat → Int32) (sz : Nat)  : Met l yX12_copyRow wsX12_copyRow ({ frames := 0, cells := 0, slots := 0, locals := 0 } : Room) (va_Pc [.ref ra, .int 1, .int 0, .int 1] (PW D cy [(ra, .inl (cy 0, 4, .inl rf))] sz)) (va_Qv (fun _ : Unit => True) (fun _ t => ∃ (f_2 : Nat → Int32), va_P D vwCl [(ra, .inl (cy 0, 4, .inl f_2))] t.heap ∧ va_D (va_A [(ra, .inl (cy 0, 4, .inl rf))] sz) [(ra, .inl (cy 0, 4, .inl f_2))]) (va_A [(ra, .inl (cy 0, 4, .inl rf))] sz)) 0 0 (va_A [(ra, .inl (cy 0, 4, .inl rf))] sz) := by
  refine Met.ofW (cc := cX12_copyRow) (maxL := 5) (ret := none) (by decide) rfl ?_
  intro p e s m args below meth c s₁ B hml hv
  obtain ⟨rfl, hsz, hP, hKW, hD0⟩ := hv
  have hK := hKW.1
  have hx := B.exec
  have hb := B.bytes
  have hr := B.returns
  have hts := atoms_spec (ws := wsX12_copyRow) B.pre
  have hown : s.vm.findClass RX12 = some m.cls := findClass_of_methodNamed B.named
  have hlocks := B.notSynchronized
  subst hsz
  have hD := hD0.self (sz := s.heap.size)
  generalize hAe : va_A [(ra, .inl (cy 0, 4, .inl rf))] s.heap.size = A at hD ⊢
  have hA : ∀ q : Nat, s.heap.size ≤ q → A q := fun q h => by rw [← hAe]; exact Or.inr h
  have hS : va_S A s.heap s.heap [] := va_S.rf
  have hP : va_P D vwCl [(ra, .inl (cy 0, 4, .inl rf))] s.heap := hP
  have hl := lv_entry ([.ref ra, .int 1, .int 0, .int 1]) (n := 5) (Nat.le_of_ble_eq_true rfl)
  rw [lg_entry_eq]
  generalize (lg_sl ([.ref ra, .int 1, .int 0, .int 1]) ++ List.replicate (5 - (lg_sl ([.ref ra, .int 1, .int 0, .int 1])).length) Slot.unset).toArray = ls at hl ⊢
  have hl : lv_has ls 5 [(0, .ref ra), (1, .int 1), (2, .int 0), (3, .int 1)] := hl
  refine lv_iconst (v := 0) hx hb dX12_copyRow_0 (by decide +kernel) ?_
  refine lv_istore (lv' := [(4, .int 0), (0, .ref ra), (1, .int 1), (2, .int 0), (3, .int 1)]) hx hb dX12_copyRow_1 hl (by decide) rfl (fun ls hl => ?_)
  refine lp (X := Nat × (Nat → Int32)) (fun x => 1 - x.1) (fun x H locs ls => x.1 ≤ 1 ∧ va_P D vwCl [(ra, .inl (cy 0, 4, .inl x.2))] H ∧ va_D A [(ra, .inl (cy 0, 4, .inl x.2))] ∧ va_S A s.heap H locs ∧ lv_has ls 5 [(4, .int (nI x.1)), (0, .ref ra), (1, .int 1), (2, .int 0), (3, .int 1)]) (fun x H locs ls hI ih => ?_) (0, rf) _ _ _ ⟨Nat.zero_le _, hP, hD, hS, by rw [nI_0]; exact hl⟩
  obtain ⟨i_1, f_2⟩ := x
  obtain ⟨hi, hP, hD, hS, hl⟩ := hI
  have hi : i_1 ≤ 1 := hi
  have hP : va_P D vwCl [(ra, .inl (cy 0, 4, .inl f_2))] H := hP
  have hD : va_D A [(ra, .inl (cy 0, 4, .inl f_2))] := hD
  have hl : lv_has ls 5 [(4, .int (nI i_1)), (0, .ref ra), (1, .int 1), (2, .int 0), (3, .int 1)] := hl
  refine lv_iload hx hb dX12_copyRow_3 (lv_at hl 0 rfl) ?_
  refine lv_iload_n hx hb dX12_copyRow_5 rfl (lv_at hl 2 rfl) ?_
  refine lv_icmp_ge (tgt := 31) hx hb dX12_copyRow_6 (by decide) (fun c_3 => ?_) (fun c_3 => ?_)
  · have hP9 := hP.sub (ws' := [(ra, .inl (cy 0, 4, .inl f_2))]) [0] rfl
    have hD9 := hD.sub (ws' := [(ra, .inl (cy 0, 4, .inl f_2))]) [0] (by decide) rfl
    exact W.vret hx hb hr (fun t ht hW => ⟨⟨(), rfl, trivial, f_2, by rw [ht]; exact hP9, hD9⟩, hS.F ht⟩) hS.2.2 dX12_copyRow_31
  · refine lv_aload_n hx hb dX12_copyRow_9 rfl (lv_at hl 1 rfl) ?_
    refine lv_iload_n hx hb dX12_copyRow_10 rfl (lv_at hl 2 rfl) ?_
    refine lv_iload_n hx hb dX12_copyRow_11 rfl (lv_at hl 4 rfl) ?_
    refine lv_imul hx hb dX12_copyRow_12 ?_
    refine tp_i 1 (by decide +kernel) ?_
    refine lv_iload hx hb dX12_copyRow_13 (lv_at hl 0 rfl) ?_
    refine lv_iadd hx hb dX12_copyRow_15 ?_
    refine lv_aload_n hx hb dX12_copyRow_16 rfl (lv_at hl 1 rfl) ?_
    refine lv_iload_n hx hb dX12_copyRow_17 rfl (lv_at hl 2 rfl) ?_
    refine lv_iload_n hx hb dX12_copyRow_18 rfl (lv_at hl 3 rfl) ?_
    refine lv_imul hx hb dX12_copyRow_19 ?_
    refine tp_i 0 (by decide +kernel) ?_
    refine lv_iload hx hb dX12_copyRow_20 (lv_at hl 0 rfl) ?_
    refine lv_iadd hx hb dX12_copyRow_22 ?_
    refine va_iald hx hb hK hP 0 0 rfl rfl (vi_o 0 (by decide +kernel) (by have hlt := lt_of (M := 1) (n := 1) (by decide +kernel) hi c_3; omega) (by decide +kernel)) dX12_copyRow_23 ?_
    refine lv_topi (fun x_4 ex_4 => ?_)
    refine va_iast hx hb hK hP hD hS 0 0 rfl rfl (vi_o 1 (by decide +kernel) (by have hlt := lt_of (M := 1) (n := 1) (by decide +kernel) hi c_3; omega) (by decide +kernel)) dX12_copyRow_24 (fun H locs hP hD hS => ?_)
    have hP : va_P D vwCl [(ra, .inl (cy 0, 4, .inl (upd f_2 (1 + (nI i_1)).toNatClampNeg x_4)))] H := hP
    have hD : va_D A [(ra, .inl (cy 0, 4, .inl (upd f_2 (1 + (nI i_1)).toNatClampNeg x_4)))] := hD
    generalize upd f_2 (1 + (nI i_1)).toNatClampNeg x_4 = f_5 at hP hD
    have hP : va_P D vwCl [(ra, .inl (cy 0, 4, .inl f_5))] H := hP
    have hD : va_D A [(ra, .inl (cy 0, 4, .inl f_5))] := hD
    refine lv_iinc (v := (nI (i_1 + 1))) (lv' := [(4, .int (nI (i_1 + 1))), (0, .ref ra), (1, .int 1), (2, .int 0), (3, .int 1)]) hx hb dX12_copyRow_25 hl (k := 0) rfl (nI_1 i_1) (by decide) rfl (fun ls hl => ?_)
    refine lv_goto (tgt := 3) hx hb dX12_copyRow_28 (by decide) ?_
    have hlt := lt_of (M := 1) (n := 1) (by decide +kernel) hi c_3
    exact ih (i_1 + 1, f_5) _ _ _ (by show 1 - (i_1 + 1) < 1 - i_1; omega) ⟨by show i_1 + 1 ≤ 1; omega, hP, hD, hS, lv_sub hl [0, 1, 2, 3, 4] rfl⟩
set_option maxHeartbeats 4000000 in
set_option maxRecDepth 100000 in
theorem c_X12_copyRow_1_2 (l : Launch) (D : va_G) (cy : Nat → ClassId) (ra : Nat) (rf : Nat → Int32) (sz : Nat)  : Met l yX12_copyRow wsX12_copyRow ({ frames := 0, cells := 0, slots := 0, locals := 0 } : Room) (va_Pc [.ref ra, .int 1, .int 0, .int 2] (PW D cy [(ra, .inl (cy 0, 4, .inl rf))] sz)) (va_Qv (fun _ : Unit => True) (fun _ t => ∃ (f_2 : Nat → Int32), va_P D vwCl [(ra, .inl (cy 0, 4, .inl f_2))] t.heap ∧ va_D (va_A [(ra, .inl (cy 0, 4, .inl rf))] sz) [(ra, .inl (cy 0, 4, .inl f_2))]) (va_A [(ra, .inl (cy 0, 4, .inl rf))] sz)) 0 0 (va_A [(ra, .inl (cy 0, 4, .inl rf))] sz) := by
  refine Met.ofW (cc := cX12_copyRow) (maxL := 5) (ret := none) (by decide) rfl ?_
  intro p e s m args below meth c s₁ B hml hv
  obtain ⟨rfl, hsz, hP, hKW, hD0⟩ := hv
  have hK := hKW.1
  have hx := B.exec
  have hb := B.bytes
  have hr := B.returns
  have hts := atoms_spec (ws := wsX12_copyRow) B.pre
  have hown : s.vm.findClass RX12 = some m.cls := findClass_of_methodNamed B.named
  have hlocks := B.notSynchronized
  subst hsz
  have hD := hD0.self (sz := s.heap.size)
  generalize hAe : va_A [(ra, .inl (cy 0, 4, .inl rf))] s.heap.size = A at hD ⊢
  have hA : ∀ q : Nat, s.heap.size ≤ q → A q := fun q h => by rw [← hAe]; exact Or.inr h
  have hS : va_S A s.heap s.heap [] := va_S.rf
  have hP : va_P D vwCl [(ra, .inl (cy 0, 4, .inl rf))] s.heap := hP
  have hl := lv_entry ([.ref ra, .int 1, .int 0, .int 2]) (n := 5) (Nat.le_of_ble_eq_true rfl)
  rw [lg_entry_eq]
  generalize (lg_sl ([.ref ra, .int 1, .int 0, .int 2]) ++ List.replicate (5 - (lg_sl ([.ref ra, .int 1, .int 0, .int 2])).length) Slot.unset).toArray = ls at hl ⊢
  have hl : lv_has ls 5 [(0, .ref ra), (1, .int 1), (2, .int 0), (3, .int 2)] := hl
  refine lv_iconst (v := 0) hx hb dX12_copyRow_0 (by decide +kernel) ?_
  refine lv_istore (lv' := [(4, .int 0), (0, .ref ra), (1, .int 1), (2, .int 0), (3, .int 2)]) hx hb dX12_copyRow_1 hl (by decide) rfl (fun ls hl => ?_)
  refine lp (X := Nat × (Nat → Int32)) (fun x => 1 - x.1) (fun x H locs ls => x.1 ≤ 1 ∧ va_P D vwCl [(ra, .inl (cy 0, 4, .inl x.2))] H ∧ va_D A [(ra, .inl (cy 0, 4, .inl x.2))] ∧ va_S A s.heap H locs ∧ lv_has ls 5 [(4, .int (nI x.1)), (0, .ref ra), (1, .int 1), (2, .int 0), (3, .int 2)]) (fun x H locs ls hI ih => ?_) (0, rf) _ _ _ ⟨Nat.zero_le _, hP, hD, hS, by rw [nI_0]; exact hl⟩
  obtain ⟨i_1, f_2⟩ := x
  obtain ⟨hi, hP, hD, hS, hl⟩ := hI
  have hi : i_1 ≤ 1 := hi
  have hP : va_P D vwCl [(ra, .inl (cy 0, 4, .inl f_2))] H := hP
  have hD : va_D A [(ra, .inl (cy 0, 4, .inl f_2))] := hD
  have hl : lv_has ls 5 [(4, .int (nI i_1)), (0, .ref ra), (1, .int 1), (2, .int 0), (3, .int 2)] := hl
  refine lv_iload hx hb dX12_copyRow_3 (lv_at hl 0 rfl) ?_
  refine lv_iload_n hx hb dX12_copyRow_5 rfl (lv_at hl 2 rfl) ?_
  refine lv_icmp_ge (tgt := 31) hx hb dX12_copyRow_6 (by decide) (fun c_3 => ?_) (fun c_3 => ?_)
  · have hP9 := hP.sub (ws' := [(ra, .inl (cy 0, 4, .inl f_2))]) [0] rfl
    have hD9 := hD.sub (ws' := [(ra, .inl (cy 0, 4, .inl f_2))]) [0] (by decide) rfl
    exact W.vret hx hb hr (fun t ht hW => ⟨⟨(), rfl, trivial, f_2, by rw [ht]; exact hP9, hD9⟩, hS.F ht⟩) hS.2.2 dX12_copyRow_31
  · refine lv_aload_n hx hb dX12_copyRow_9 rfl (lv_at hl 1 rfl) ?_
    refine lv_iload_n hx hb dX12_copyRow_10 rfl (lv_at hl 2 rfl) ?_
    refine lv_iload_n hx hb dX12_copyRow_11 rfl (lv_at hl 4 rfl) ?_
    refine lv_imul hx hb dX12_copyRow_12 ?_
    refine tp_i 2 (by decide +kernel) ?_
    refine lv_iload hx hb dX12_copyRow_13 (lv_at hl 0 rfl) ?_
    refine lv_iadd hx hb dX12_copyRow_15 ?_
    refine lv_aload_n hx hb dX12_copyRow_16 rfl (lv_at hl 1 rfl) ?_
    refine lv_iload_n hx hb dX12_copyRow_17 rfl (lv_at hl 2 rfl) ?_
    refine lv_iload_n hx hb dX12_copyRow_18 rfl (lv_at hl 3 rfl) ?_
    refine lv_imul hx hb dX12_copyRow_19 ?_
    refine tp_i 0 (by decide +kernel) ?_
    refine lv_iload hx hb dX12_copyRow_20 (lv_at hl 0 rfl) ?_
    refine lv_iadd hx hb dX12_copyRow_22 ?_
    refine va_iald hx hb hK hP 0 0 rfl rfl (vi_o 0 (by decide +kernel) (by have hlt := lt_of (M := 1) (n := 1) (by decide +kernel) hi c_3; omega) (by decide +kernel)) dX12_copyRow_23 ?_
    refine lv_topi (fun x_4 ex_4 => ?_)
    refine va_iast hx hb hK hP hD hS 0 0 rfl rfl (vi_o 2 (by decide +kernel) (by have hlt := lt_of (M := 1) (n := 1) (by decide +kernel) hi c_3; omega) (by decide +kernel)) dX12_copyRow_24 (fun H locs hP hD hS => ?_)
    have hP : va_P D vwCl [(ra, .inl (cy 0, 4, .inl (upd f_2 (2 + (nI i_1)).toNatClampNeg x_4)))] H := hP
    have hD : va_D A [(ra, .inl (cy 0, 4, .inl (upd f_2 (2 + (nI i_1)).toNatClampNeg x_4)))] := hD
    generalize upd f_2 (2 + (nI i_1)).toNatClampNeg x_4 = f_5 at hP hD
    have hP : va_P D vwCl [(ra, .inl (cy 0, 4, .inl f_5))] H := hP
    have hD : va_D A [(ra, .inl (cy 0, 4, .inl f_5))] := hD
    refine lv_iinc (v := (nI (i_1 + 1))) (lv' := [(4, .int (nI (i_1 + 1))), (0, .ref ra), (1, .int 1), (2, .int 0), (3, .int 2)]) hx hb dX12_copyRow_25 hl (k := 0) rfl (nI_1 i_1) (by decide) rfl (fun ls hl => ?_)
    refine lv_goto (tgt := 3) hx hb dX12_copyRow_28 (by decide) ?_
    have hlt := lt_of (M := 1) (n := 1) (by decide +kernel) hi c_3
    exact ih (i_1 + 1, f_5) _ _ _ (by show 1 - (i_1 + 1) < 1 - i_1; omega) ⟨by show i_1 + 1 ≤ 1; omega, hP, hD, hS, lv_sub hl [0, 1, 2, 3, 4] rfl⟩
set_option maxHeartbeats 4000000 in
set_option maxRecDepth 100000 in
theorem c_X12_copyRow_1_3 (l : Launch) (D : va_G) (cy : Nat → ClassId) (ra : Nat) (rf : Nat → Int32) (sz : Nat)  : Met l yX12_copyRow wsX12_copyRow ({ frames := 0, cells := 0, slots := 0, locals := 0 } : Room) (va_Pc [.ref ra, .int 1, .int 0, .int 3] (PW D cy [(ra, .inl (cy 0, 4, .inl rf))] sz)) (va_Qv (fun _ : Unit => True) (fun _ t => ∃ (f_2 : Nat → Int32), va_P D vwCl [(ra, .inl (cy 0, 4, .inl f_2))] t.heap ∧ va_D (va_A [(ra, .inl (cy 0, 4, .inl rf))] sz) [(ra, .inl (cy 0, 4, .inl f_2))]) (va_A [(ra, .inl (cy 0, 4, .inl rf))] sz)) 0 0 (va_A [(ra, .inl (cy 0, 4, .inl rf))] sz) := by
  refine Met.ofW (cc := cX12_copyRow) (maxL := 5) (ret := none) (by decide) rfl ?_
  intro p e s m args below meth c s₁ B hml hv
  obtain ⟨rfl, hsz, hP, hKW, hD0⟩ := hv
  have hK := hKW.1
  have hx := B.exec
  have hb := B.bytes
  have hr := B.returns
  have hts := atoms_spec (ws := wsX12_copyRow) B.pre
  have hown : s.vm.findClass RX12 = some m.cls := findClass_of_methodNamed B.named
  have hlocks := B.notSynchronized
  subst hsz
  have hD := hD0.self (sz := s.heap.size)
  generalize hAe : va_A [(ra, .inl (cy 0, 4, .inl rf))] s.heap.size = A at hD ⊢
  have hA : ∀ q : Nat, s.heap.size ≤ q → A q := fun q h => by rw [← hAe]; exact Or.inr h
  have hS : va_S A s.heap s.heap [] := va_S.rf
  have hP : va_P D vwCl [(ra, .inl (cy 0, 4, .inl rf))] s.heap := hP
  have hl := lv_entry ([.ref ra, .int 1, .int 0, .int 3]) (n := 5) (Nat.le_of_ble_eq_true rfl)
  rw [lg_entry_eq]
  generalize (lg_sl ([.ref ra, .int 1, .int 0, .int 3]) ++ List.replicate (5 - (lg_sl ([.ref ra, .int 1, .int 0, .int 3])).length) Slot.unset).toArray = ls at hl ⊢
  have hl : lv_has ls 5 [(0, .ref ra), (1, .int 1), (2, .int 0), (3, .int 3)] := hl
  refine lv_iconst (v := 0) hx hb dX12_copyRow_0 (by decide +kernel) ?_
  refine lv_istore (lv' := [(4, .int 0), (0, .ref ra), (1, .int 1), (2, .int 0), (3, .int 3)]) hx hb dX12_copyRow_1 hl (by decide) rfl (fun ls hl => ?_)
  refine lp (X := Nat × (Nat → Int32)) (fun x => 1 - x.1) (fun x H locs ls => x.1 ≤ 1 ∧ va_P D vwCl [(ra, .inl (cy 0, 4, .inl x.2))] H ∧ va_D A [(ra, .inl (cy 0, 4, .inl x.2))] ∧ va_S A s.heap H locs ∧ lv_has ls 5 [(4, .int (nI x.1)), (0, .ref ra), (1, .int 1), (2, .int 0), (3, .int 3)]) (fun x H locs ls hI ih => ?_) (0, rf) _ _ _ ⟨Nat.zero_le _, hP, hD, hS, by rw [nI_0]; exact hl⟩
  obtain ⟨i_1, f_2⟩ := x
  obtain ⟨hi, hP, hD, hS, hl⟩ := hI
  have hi : i_1 ≤ 1 := hi
  have hP : va_P D vwCl [(ra, .inl (cy 0, 4, .inl f_2))] H := hP
  have hD : va_D A [(ra, .inl (cy 0, 4, .inl f_2))] := hD
  have hl : lv_has ls 5 [(4, .int (nI i_1)), (0, .ref ra), (1, .int 1), (2, .int 0), (3, .int 3)] := hl
  refine lv_iload hx hb dX12_copyRow_3 (lv_at hl 0 rfl) ?_
  refine lv_iload_n hx hb dX12_copyRow_5 rfl (lv_at hl 2 rfl) ?_
  refine lv_icmp_ge (tgt := 31) hx hb dX12_copyRow_6 (by decide) (fun c_3 => ?_) (fun c_3 => ?_)
  · have hP9 := hP.sub (ws' := [(ra, .inl (cy 0, 4, .inl f_2))]) [0] rfl
    have hD9 := hD.sub (ws' := [(ra, .inl (cy 0, 4, .inl f_2))]) [0] (by decide) rfl
    exact W.vret hx hb hr (fun t ht hW => ⟨⟨(), rfl, trivial, f_2, by rw [ht]; exact hP9, hD9⟩, hS.F ht⟩) hS.2.2 dX12_copyRow_31
  · refine lv_aload_n hx hb dX12_copyRow_9 rfl (lv_at hl 1 rfl) ?_
    refine lv_iload_n hx hb dX12_copyRow_10 rfl (lv_at hl 2 rfl) ?_
    refine lv_iload_n hx hb dX12_copyRow_11 rfl (lv_at hl 4 rfl) ?_
    refine lv_imul hx hb dX12_copyRow_12 ?_
    refine tp_i 3 (by decide +kernel) ?_
    refine lv_iload hx hb dX12_copyRow_13 (lv_at hl 0 rfl) ?_
    refine lv_iadd hx hb dX12_copyRow_15 ?_
    refine lv_aload_n hx hb dX12_copyRow_16 rfl (lv_at hl 1 rfl) ?_
    refine lv_iload_n hx hb dX12_copyRow_17 rfl (lv_at hl 2 rfl) ?_
    refine lv_iload_n hx hb dX12_copyRow_18 rfl (lv_at hl 3 rfl) ?_
    refine lv_imul hx hb dX12_copyRow_19 ?_
    refine tp_i 0 (by decide +kernel) ?_
    refine lv_iload hx hb dX12_copyRow_20 (lv_at hl 0 rfl) ?_
    refine lv_iadd hx hb dX12_copyRow_22 ?_
    refine va_iald hx hb hK hP 0 0 rfl rfl (vi_o 0 (by decide +kernel) (by have hlt := lt_of (M := 1) (n := 1) (by decide +kernel) hi c_3; omega) (by decide +kernel)) dX12_copyRow_23 ?_
    refine lv_topi (fun x_4 ex_4 => ?_)
    refine va_iast hx hb hK hP hD hS 0 0 rfl rfl (vi_o 3 (by decide +kernel) (by have hlt := lt_of (M := 1) (n := 1) (by decide +kernel) hi c_3; omega) (by decide +kernel)) dX12_copyRow_24 (fun H locs hP hD hS => ?_)
    have hP : va_P D vwCl [(ra, .inl (cy 0, 4, .inl (upd f_2 (3 + (nI i_1)).toNatClampNeg x_4)))] H := hP
    have hD : va_D A [(ra, .inl (cy 0, 4, .inl (upd f_2 (3 + (nI i_1)).toNatClampNeg x_4)))] := hD
    generalize upd f_2 (3 + (nI i_1)).toNatClampNeg x_4 = f_5 at hP hD
    have hP : va_P D vwCl [(ra, .inl (cy 0, 4, .inl f_5))] H := hP
    have hD : va_D A [(ra, .inl (cy 0, 4, .inl f_5))] := hD
    refine lv_iinc (v := (nI (i_1 + 1))) (lv' := [(4, .int (nI (i_1 + 1))), (0, .ref ra), (1, .int 1), (2, .int 0), (3, .int 3)]) hx hb dX12_copyRow_25 hl (k := 0) rfl (nI_1 i_1) (by decide) rfl (fun ls hl => ?_)
    refine lv_goto (tgt := 3) hx hb dX12_copyRow_28 (by decide) ?_
    have hlt := lt_of (M := 1) (n := 1) (by decide +kernel) hi c_3
    exact ih (i_1 + 1, f_5) _ _ _ (by show 1 - (i_1 + 1) < 1 - i_1; omega) ⟨by show i_1 + 1 ≤ 1; omega, hP, hD, hS, lv_sub hl [0, 1, 2, 3, 4] rfl⟩
set_option maxHeartbeats 4000000 in
set_option maxRecDepth 100000 in
theorem c_X12_copyRow_3_1 (l : Launch) (D : va_G) (cy : Nat → ClassId) (ra : Nat) (rf : Nat → Int32) (sz : Nat)  : Met l yX12_copyRow wsX12_copyRow ({ frames := 0, cells := 0, slots := 0, locals := 0 } : Room) (va_Pc [.ref ra, .int 3, .int 0, .int 1] (PW D cy [(ra, .inl (cy 0, 12, .inl rf))] sz)) (va_Qv (fun _ : Unit => True) (fun _ t => ∃ (f_2 : Nat → Int32), va_P D vwCl [(ra, .inl (cy 0, 12, .inl f_2))] t.heap ∧ va_D (va_A [(ra, .inl (cy 0, 12, .inl rf))] sz) [(ra, .inl (cy 0, 12, .inl f_2))]) (va_A [(ra, .inl (cy 0, 12, .inl rf))] sz)) 0 0 (va_A [(ra, .inl (cy 0, 12, .inl rf))] sz) := by
  refine Met.ofW (cc := cX12_copyRow) (maxL := 5) (ret := none) (by decide) rfl ?_
  intro p e s m args below meth c s₁ B hml hv
  obtain ⟨rfl, hsz, hP, hKW, hD0⟩ := hv
  have hK := hKW.1
  have hx := B.exec
  have hb := B.bytes
  have hr := B.returns
  have hts := atoms_spec (ws := wsX12_copyRow) B.pre
  have hown : s.vm.findClass RX12 = some m.cls := findClass_of_methodNamed B.named
  have hlocks := B.notSynchronized
  subst hsz
  have hD := hD0.self (sz := s.heap.size)
  generalize hAe : va_A [(ra, .inl (cy 0, 12, .inl rf))] s.heap.size = A at hD ⊢
  have hA : ∀ q : Nat, s.heap.size ≤ q → A q := fun q h => by rw [← hAe]; exact Or.inr h
  have hS : va_S A s.heap s.heap [] := va_S.rf
  have hP : va_P D vwCl [(ra, .inl (cy 0, 12, .inl rf))] s.heap := hP
  have hl := lv_entry ([.ref ra, .int 3, .int 0, .int 1]) (n := 5) (Nat.le_of_ble_eq_true rfl)
  rw [lg_entry_eq]
  generalize (lg_sl ([.ref ra, .int 3, .int 0, .int 1]) ++ List.replicate (5 - (lg_sl ([.ref ra, .int 3, .int 0, .int 1])).length) Slot.unset).toArray = ls at hl ⊢
  have hl : lv_has ls 5 [(0, .ref ra), (1, .int 3), (2, .int 0), (3, .int 1)] := hl
  refine lv_iconst (v := 0) hx hb dX12_copyRow_0 (by decide +kernel) ?_
  refine lv_istore (lv' := [(4, .int 0), (0, .ref ra), (1, .int 3), (2, .int 0), (3, .int 1)]) hx hb dX12_copyRow_1 hl (by decide) rfl (fun ls hl => ?_)
  refine lp (X := Nat × (Nat → Int32)) (fun x => 3 - x.1) (fun x H locs ls => x.1 ≤ 3 ∧ va_P D vwCl [(ra, .inl (cy 0, 12, .inl x.2))] H ∧ va_D A [(ra, .inl (cy 0, 12, .inl x.2))] ∧ va_S A s.heap H locs ∧ lv_has ls 5 [(4, .int (nI x.1)), (0, .ref ra), (1, .int 3), (2, .int 0), (3, .int 1)]) (fun x H locs ls hI ih => ?_) (0, rf) _ _ _ ⟨Nat.zero_le _, hP, hD, hS, by rw [nI_0]; exact hl⟩
  obtain ⟨i_1, f_2⟩ := x
  obtain ⟨hi, hP, hD, hS, hl⟩ := hI
  have hi : i_1 ≤ 3 := hi
  have hP : va_P D vwCl [(ra, .inl (cy 0, 12, .inl f_2))] H := hP
  have hD : va_D A [(ra, .inl (cy 0, 12, .inl f_2))] := hD
  have hl : lv_has ls 5 [(4, .int (nI i_1)), (0, .ref ra), (1, .int 3), (2, .int 0), (3, .int 1)] := hl
  refine lv_iload hx hb dX12_copyRow_3 (lv_at hl 0 rfl) ?_
  refine lv_iload_n hx hb dX12_copyRow_5 rfl (lv_at hl 2 rfl) ?_
  refine lv_icmp_ge (tgt := 31) hx hb dX12_copyRow_6 (by decide) (fun c_3 => ?_) (fun c_3 => ?_)
  · have hP9 := hP.sub (ws' := [(ra, .inl (cy 0, 12, .inl f_2))]) [0] rfl
    have hD9 := hD.sub (ws' := [(ra, .inl (cy 0, 12, .inl f_2))]) [0] (by decide) rfl
    exact W.vret hx hb hr (fun t ht hW => ⟨⟨(), rfl, trivial, f_2, by rw [ht]; exact hP9, hD9⟩, hS.F ht⟩) hS.2.2 dX12_copyRow_31
  · refine lv_aload_n hx hb dX12_copyRow_9 rfl (lv_at hl 1 rfl) ?_
    refine lv_iload_n hx hb dX12_copyRow_10 rfl (lv_at hl 2 rfl) ?_
    refine lv_iload_n hx hb dX12_copyRow_11 rfl (lv_at hl 4 rfl) ?_
    refine lv_imul hx hb dX12_copyRow_12 ?_
    refine tp_i 3 (by decide +kernel) ?_
    refine lv_iload hx hb dX12_copyRow_13 (lv_at hl 0 rfl) ?_
    refine lv_iadd hx hb dX12_copyRow_15 ?_
    refine lv_aload_n hx hb dX12_copyRow_16 rfl (lv_at hl 1 rfl) ?_
    refine lv_iload_n hx hb dX12_copyRow_17 rfl (lv_at hl 2 rfl) ?_
    refine lv_iload_n hx hb dX12_copyRow_18 rfl (lv_at hl 3 rfl) ?_
    refine lv_imul hx hb dX12_copyRow_19 ?_
    refine tp_i 0 (by decide +kernel) ?_
    refine lv_iload hx hb dX12_copyRow_20 (lv_at hl 0 rfl) ?_
    refine lv_iadd hx hb dX12_copyRow_22 ?_
    refine va_iald hx hb hK hP 0 0 rfl rfl (vi_o 0 (by decide +kernel) (by have hlt := lt_of (M := 3) (n := 3) (by decide +kernel) hi c_3; omega) (by decide +kernel)) dX12_copyRow_23 ?_
    refine lv_topi (fun x_4 ex_4 => ?_)
    refine va_iast hx hb hK hP hD hS 0 0 rfl rfl (vi_o 3 (by decide +kernel) (by have hlt := lt_of (M := 3) (n := 3) (by decide +kernel) hi c_3; omega) (by decide +kernel)) dX12_copyRow_24 (fun H locs hP hD hS => ?_)
    have hP : va_P D vwCl [(ra, .inl (cy 0, 12, .inl (upd f_2 (3 + (nI i_1)).toNatClampNeg x_4)))] H := hP
    have hD : va_D A [(ra, .inl (cy 0, 12, .inl (upd f_2 (3 + (nI i_1)).toNatClampNeg x_4)))] := hD
    generalize upd f_2 (3 + (nI i_1)).toNatClampNeg x_4 = f_5 at hP hD
    have hP : va_P D vwCl [(ra, .inl (cy 0, 12, .inl f_5))] H := hP
    have hD : va_D A [(ra, .inl (cy 0, 12, .inl f_5))] := hD
    refine lv_iinc (v := (nI (i_1 + 1))) (lv' := [(4, .int (nI (i_1 + 1))), (0, .ref ra), (1, .int 3), (2, .int 0), (3, .int 1)]) hx hb dX12_copyRow_25 hl (k := 0) rfl (nI_1 i_1) (by decide) rfl (fun ls hl => ?_)
    refine lv_goto (tgt := 3) hx hb dX12_copyRow_28 (by decide) ?_
    have hlt := lt_of (M := 3) (n := 3) (by decide +kernel) hi c_3
    exact ih (i_1 + 1, f_5) _ _ _ (by show 3 - (i_1 + 1) < 3 - i_1; omega) ⟨by show i_1 + 1 ≤ 3; omega, hP, hD, hS, lv_sub hl [0, 1, 2, 3, 4] rfl⟩
set_option maxHeartbeats 4000000 in
set_option maxRecDepth 100000 in
theorem c_X12_copyRow_3_2 (l : Launch) (D : va_G) (cy : Nat → ClassId) (ra : Nat) (rf : Nat → Int32) (sz : Nat)  : Met l yX12_copyRow wsX12_copyRow ({ frames := 0, cells := 0, slots := 0, locals := 0 } : Room) (va_Pc [.ref ra, .int 3, .int 0, .int 2] (PW D cy [(ra, .inl (cy 0, 12, .inl rf))] sz)) (va_Qv (fun _ : Unit => True) (fun _ t => ∃ (f_2 : Nat → Int32), va_P D vwCl [(ra, .inl (cy 0, 12, .inl f_2))] t.heap ∧ va_D (va_A [(ra, .inl (cy 0, 12, .inl rf))] sz) [(ra, .inl (cy 0, 12, .inl f_2))]) (va_A [(ra, .inl (cy 0, 12, .inl rf))] sz)) 0 0 (va_A [(ra, .inl (cy 0, 12, .inl rf))] sz) := by
  refine Met.ofW (cc := cX12_copyRow) (maxL := 5) (ret := none) (by decide) rfl ?_
  intro p e s m args below meth c s₁ B hml hv
  obtain ⟨rfl, hsz, hP, hKW, hD0⟩ := hv
  have hK := hKW.1
  have hx := B.exec
  have hb := B.bytes
  have hr := B.returns
  have hts := atoms_spec (ws := wsX12_copyRow) B.pre
  have hown : s.vm.findClass RX12 = some m.cls := findClass_of_methodNamed B.named
  have hlocks := B.notSynchronized
  subst hsz
  have hD := hD0.self (sz := s.heap.size)
  generalize hAe : va_A [(ra, .inl (cy 0, 12, .inl rf))] s.heap.size = A at hD ⊢
  have hA : ∀ q : Nat, s.heap.size ≤ q → A q := fun q h => by rw [← hAe]; exact Or.inr h
  have hS : va_S A s.heap s.heap [] := va_S.rf
  have hP : va_P D vwCl [(ra, .inl (cy 0, 12, .inl rf))] s.heap := hP
  have hl := lv_entry ([.ref ra, .int 3, .int 0, .int 2]) (n := 5) (Nat.le_of_ble_eq_true rfl)
  rw [lg_entry_eq]
  generalize (lg_sl ([.ref ra, .int 3, .int 0, .int 2]) ++ List.replicate (5 - (lg_sl ([.ref ra, .int 3, .int 0, .int 2])).length) Slot.unset).toArray = ls at hl ⊢
  have hl : lv_has ls 5 [(0, .ref ra), (1, .int 3), (2, .int 0), (3, .int 2)] := hl
  refine lv_iconst (v := 0) hx hb dX12_copyRow_0 (by decide +kernel) ?_
  refine lv_istore (lv' := [(4, .int 0), (0, .ref ra), (1, .int 3), (2, .int 0), (3, .int 2)]) hx hb dX12_copyRow_1 hl (by decide) rfl (fun ls hl => ?_)
  refine lp (X := Nat × (Nat → Int32)) (fun x => 3 - x.1) (fun x H locs ls => x.1 ≤ 3 ∧ va_P D vwCl [(ra, .inl (cy 0, 12, .inl x.2))] H ∧ va_D A [(ra, .inl (cy 0, 12, .inl x.2))] ∧ va_S A s.heap H locs ∧ lv_has ls 5 [(4, .int (nI x.1)), (0, .ref ra), (1, .int 3), (2, .int 0), (3, .int 2)]) (fun x H locs ls hI ih => ?_) (0, rf) _ _ _ ⟨Nat.zero_le _, hP, hD, hS, by rw [nI_0]; exact hl⟩
  obtain ⟨i_1, f_2⟩ := x
  obtain ⟨hi, hP, hD, hS, hl⟩ := hI
  have hi : i_1 ≤ 3 := hi
  have hP : va_P D vwCl [(ra, .inl (cy 0, 12, .inl f_2))] H := hP
  have hD : va_D A [(ra, .inl (cy 0, 12, .inl f_2))] := hD
  have hl : lv_has ls 5 [(4, .int (nI i_1)), (0, .ref ra), (1, .int 3), (2, .int 0), (3, .int 2)] := hl
  refine lv_iload hx hb dX12_copyRow_3 (lv_at hl 0 rfl) ?_
  refine lv_iload_n hx hb dX12_copyRow_5 rfl (lv_at hl 2 rfl) ?_
  refine lv_icmp_ge (tgt := 31) hx hb dX12_copyRow_6 (by decide) (fun c_3 => ?_) (fun c_3 => ?_)
  · have hP9 := hP.sub (ws' := [(ra, .inl (cy 0, 12, .inl f_2))]) [0] rfl
    have hD9 := hD.sub (ws' := [(ra, .inl (cy 0, 12, .inl f_2))]) [0] (by decide) rfl
    exact W.vret hx hb hr (fun t ht hW => ⟨⟨(), rfl, trivial, f_2, by rw [ht]; exact hP9, hD9⟩, hS.F ht⟩) hS.2.2 dX12_copyRow_31
  · refine lv_aload_n hx hb dX12_copyRow_9 rfl (lv_at hl 1 rfl) ?_
    refine lv_iload_n hx hb dX12_copyRow_10 rfl (lv_at hl 2 rfl) ?_
    refine lv_iload_n hx hb dX12_copyRow_11 rfl (lv_at hl 4 rfl) ?_
    refine lv_imul hx hb dX12_copyRow_12 ?_
    refine tp_i 6 (by decide +kernel) ?_
    refine lv_iload hx hb dX12_copyRow_13 (lv_at hl 0 rfl) ?_
    refine lv_iadd hx hb dX12_copyRow_15 ?_
    refine lv_aload_n hx hb dX12_copyRow_16 rfl (lv_at hl 1 rfl) ?_
    refine lv_iload_n hx hb dX12_copyRow_17 rfl (lv_at hl 2 rfl) ?_
    refine lv_iload_n hx hb dX12_copyRow_18 rfl (lv_at hl 3 rfl) ?_
    refine lv_imul hx hb dX12_copyRow_19 ?_
    refine tp_i 0 (by decide +kernel) ?_
    refine lv_iload hx hb dX12_copyRow_20 (lv_at hl 0 rfl) ?_
    refine lv_iadd hx hb dX12_copyRow_22 ?_
    refine va_iald hx hb hK hP 0 0 rfl rfl (vi_o 0 (by decide +kernel) (by have hlt := lt_of (M := 3) (n := 3) (by decide +kernel) hi c_3; omega) (by decide +kernel)) dX12_copyRow_23 ?_
    refine lv_topi (fun x_4 ex_4 => ?_)
    refine va_iast hx hb hK hP hD hS 0 0 rfl rfl (vi_o 6 (by decide +kernel) (by have hlt := lt_of (M := 3) (n := 3) (by decide +kernel) hi c_3; omega) (by decide +kernel)) dX12_copyRow_24 (fun H locs hP hD hS => ?_)
    have hP : va_P D vwCl [(ra, .inl (cy 0, 12, .inl (upd f_2 (6 + (nI i_1)).toNatClampNeg x_4)))] H := hP
    have hD : va_D A [(ra, .inl (cy 0, 12, .inl (upd f_2 (6 + (nI i_1)).toNatClampNeg x_4)))] := hD
    generalize upd f_2 (6 + (nI i_1)).toNatClampNeg x_4 = f_5 at hP hD
    have hP : va_P D vwCl [(ra, .inl (cy 0, 12, .inl f_5))] H := hP
    have hD : va_D A [(ra, .inl (cy 0, 12, .inl f_5))] := hD
    refine lv_iinc (v := (nI (i_1 + 1))) (lv' := [(4, .int (nI (i_1 + 1))), (0, .ref ra), (1, .int 3), (2, .int 0), (3, .int 2)]) hx hb dX12_copyRow_25 hl (k := 0) rfl (nI_1 i_1) (by decide) rfl (fun ls hl => ?_)
    refine lv_goto (tgt := 3) hx hb dX12_copyRow_28 (by decide) ?_
    have hlt := lt_of (M := 3) (n := 3) (by decide +kernel) hi c_3
    exact ih (i_1 + 1, f_5) _ _ _ (by show 3 - (i_1 + 1) < 3 - i_1; omega) ⟨by show i_1 + 1 ≤ 3; omega, hP, hD, hS, lv_sub hl [0, 1, 2, 3, 4] rfl⟩
set_option maxHeartbeats 4000000 in
set_option maxRecDepth 100000 in
theorem c_X12_copyRow_3_3 (l : Launch) (D : va_G) (cy : Nat → ClassId) (ra : Nat) (rf : Nat → Int32) (sz : Nat)  : Met l yX12_copyRow wsX12_copyRow ({ frames := 0, cells := 0, slots := 0, locals := 0 } : Room) (va_Pc [.ref ra, .int 3, .int 0, .int 3] (PW D cy [(ra, .inl (cy 0, 12, .inl rf))] sz)) (va_Qv (fun _ : Unit => True) (fun _ t => ∃ (f_2 : Nat → Int32), va_P D vwCl [(ra, .inl (cy 0, 12, .inl f_2))] t.heap ∧ va_D (va_A [(ra, .inl (cy 0, 12, .inl rf))] sz) [(ra, .inl (cy 0, 12, .inl f_2))]) (va_A [(ra, .inl (cy 0, 12, .inl rf))] sz)) 0 0 (va_A [(ra, .inl (cy 0, 12, .inl rf))] sz) := by
  refine Met.ofW (cc := cX12_copyRow) (maxL := 5) (ret := none) (by decide) rfl ?_
  intro p e s m args below meth c s₁ B hml hv
  obtain ⟨rfl, hsz, hP, hKW, hD0⟩ := hv
  have hK := hKW.1
  have hx := B.exec
  have hb := B.bytes
  have hr := B.returns
  have hts := atoms_spec (ws := wsX12_copyRow) B.pre
  have hown : s.vm.findClass RX12 = some m.cls := findClass_of_methodNamed B.named
  have hlocks := B.notSynchronized
  subst hsz
  have hD := hD0.self (sz := s.heap.size)
  generalize hAe : va_A [(ra, .inl (cy 0, 12, .inl rf))] s.heap.size = A at hD ⊢
  have hA : ∀ q : Nat, s.heap.size ≤ q → A q := fun q h => by rw [← hAe]; exact Or.inr h
  have hS : va_S A s.heap s.heap [] := va_S.rf
  have hP : va_P D vwCl [(ra, .inl (cy 0, 12, .inl rf))] s.heap := hP
  have hl := lv_entry ([.ref ra, .int 3, .int 0, .int 3]) (n := 5) (Nat.le_of_ble_eq_true rfl)
  rw [lg_entry_eq]
  generalize (lg_sl ([.ref ra, .int 3, .int 0, .int 3]) ++ List.replicate (5 - (lg_sl ([.ref ra, .int 3, .int 0, .int 3])).length) Slot.unset).toArray = ls at hl ⊢
  have hl : lv_has ls 5 [(0, .ref ra), (1, .int 3), (2, .int 0), (3, .int 3)] := hl
  refine lv_iconst (v := 0) hx hb dX12_copyRow_0 (by decide +kernel) ?_
  refine lv_istore (lv' := [(4, .int 0), (0, .ref ra), (1, .int 3), (2, .int 0), (3, .int 3)]) hx hb dX12_copyRow_1 hl (by decide) rfl (fun ls hl => ?_)
  refine lp (X := Nat × (Nat → Int32)) (fun x => 3 - x.1) (fun x H locs ls => x.1 ≤ 3 ∧ va_P D vwCl [(ra, .inl (cy 0, 12, .inl x.2))] H ∧ va_D A [(ra, .inl (cy 0, 12, .inl x.2))] ∧ va_S A s.heap H locs ∧ lv_has ls 5 [(4, .int (nI x.1)), (0, .ref ra), (1, .int 3), (2, .int 0), (3, .int 3)]) (fun x H locs ls hI ih => ?_) (0, rf) _ _ _ ⟨Nat.zero_le _, hP, hD, hS, by rw [nI_0]; exact hl⟩
  obtain ⟨i_1, f_2⟩ := x
  obtain ⟨hi, hP, hD, hS, hl⟩ := hI
  have hi : i_1 ≤ 3 := hi
  have hP : va_P D vwCl [(ra, .inl (cy 0, 12, .inl f_2))] H := hP
  have hD : va_D A [(ra, .inl (cy 0, 12, .inl f_2))] := hD
  have hl : lv_has ls 5 [(4, .int (nI i_1)), (0, .ref ra), (1, .int 3), (2, .int 0), (3, .int 3)] := hl
  refine lv_iload hx hb dX12_copyRow_3 (lv_at hl 0 rfl) ?_
  refine lv_iload_n hx hb dX12_copyRow_5 rfl (lv_at hl 2 rfl) ?_
  refine lv_icmp_ge (tgt := 31) hx hb dX12_copyRow_6 (by decide) (fun c_3 => ?_) (fun c_3 => ?_)
  · have hP9 := hP.sub (ws' := [(ra, .inl (cy 0, 12, .inl f_2))]) [0] rfl
    have hD9 := hD.sub (ws' := [(ra, .inl (cy 0, 12, .inl f_2))]) [0] (by decide) rfl
    exact W.vret hx hb hr (fun t ht hW => ⟨⟨(), rfl, trivial, f_2, by rw [ht]; exact hP9, hD9⟩, hS.F ht⟩) hS.2.2 dX12_copyRow_31
  · refine lv_aload_n hx hb dX12_copyRow_9 rfl (lv_at hl 1 rfl) ?_
    refine lv_iload_n hx hb dX12_copyRow_10 rfl (lv_at hl 2 rfl) ?_
    refine lv_iload_n hx hb dX12_copyRow_11 rfl (lv_at hl 4 rfl) ?_
    refine lv_imul hx hb dX12_copyRow_12 ?_
    refine tp_i 9 (by decide +kernel) ?_
    refine lv_iload hx hb dX12_copyRow_13 (lv_at hl 0 rfl) ?_
    refine lv_iadd hx hb dX12_copyRow_15 ?_
    refine lv_aload_n hx hb dX12_copyRow_16 rfl (lv_at hl 1 rfl) ?_
    refine lv_iload_n hx hb dX12_copyRow_17 rfl (lv_at hl 2 rfl) ?_
    refine lv_iload_n hx hb dX12_copyRow_18 rfl (lv_at hl 3 rfl) ?_
    refine lv_imul hx hb dX12_copyRow_19 ?_
    refine tp_i 0 (by decide +kernel) ?_
    refine lv_iload hx hb dX12_copyRow_20 (lv_at hl 0 rfl) ?_
    refine lv_iadd hx hb dX12_copyRow_22 ?_
    refine va_iald hx hb hK hP 0 0 rfl rfl (vi_o 0 (by decide +kernel) (by have hlt := lt_of (M := 3) (n := 3) (by decide +kernel) hi c_3; omega) (by decide +kernel)) dX12_copyRow_23 ?_
    refine lv_topi (fun x_4 ex_4 => ?_)
    refine va_iast hx hb hK hP hD hS 0 0 rfl rfl (vi_o 9 (by decide +kernel) (by have hlt := lt_of (M := 3) (n := 3) (by decide +kernel) hi c_3; omega) (by decide +kernel)) dX12_copyRow_24 (fun H locs hP hD hS => ?_)
    have hP : va_P D vwCl [(ra, .inl (cy 0, 12, .inl (upd f_2 (9 + (nI i_1)).toNatClampNeg x_4)))] H := hP
    have hD : va_D A [(ra, .inl (cy 0, 12, .inl (upd f_2 (9 + (nI i_1)).toNatClampNeg x_4)))] := hD
    generalize upd f_2 (9 + (nI i_1)).toNatClampNeg x_4 = f_5 at hP hD
    have hP : va_P D vwCl [(ra, .inl (cy 0, 12, .inl f_5))] H := hP
    have hD : va_D A [(ra, .inl (cy 0, 12, .inl f_5))] := hD
    refine lv_iinc (v := (nI (i_1 + 1))) (lv' := [(4, .int (nI (i_1 + 1))), (0, .ref ra), (1, .int 3), (2, .int 0), (3, .int 3)]) hx hb dX12_copyRow_25 hl (k := 0) rfl (nI_1 i_1) (by decide) rfl (fun ls hl => ?_)
    refine lv_goto (tgt := 3) hx hb dX12_copyRow_28 (by decide) ?_
    have hlt := lt_of (M := 3) (n := 3) (by decide +kernel) hi c_3
    exact ih (i_1 + 1, f_5) _ _ _ (by show 3 - (i_1 + 1) < 3 - i_1; omega) ⟨by show i_1 + 1 ≤ 3; omega, hP, hD, hS, lv_sub hl [0, 1, 2, 3, 4] rfl⟩
set_option maxHeartbeats 4000000 in
set_option maxRecDepth 100000 in
theorem c_X12_copyRow_100_1 (l : Launch) (D : va_G) (cy : Nat → ClassId) (ra : Nat) (rf : Nat → Int32) (sz : Nat)  : Met l yX12_copyRow wsX12_copyRow ({ frames := 0, cells := 0, slots := 0, locals := 0 } : Room) (va_Pc [.ref ra, .int 100, .int 0, .int 1] (PW D cy [(ra, .inl (cy 0, 400, .inl rf))] sz)) (va_Qv (fun _ : Unit => True) (fun _ t => ∃ (f_2 : Nat → Int32), va_P D vwCl [(ra, .inl (cy 0, 400, .inl f_2))] t.heap ∧ va_D (va_A [(ra, .inl (cy 0, 400, .inl rf))] sz) [(ra, .inl (cy 0, 400, .inl f_2))]) (va_A [(ra, .inl (cy 0, 400, .inl rf))] sz)) 0 0 (va_A [(ra, .inl (cy 0, 400, .inl rf))] sz) := by
  refine Met.ofW (cc := cX12_copyRow) (maxL := 5) (ret := none) (by decide) rfl ?_
  intro p e s m args below meth c s₁ B hml hv
  obtain ⟨rfl, hsz, hP, hKW, hD0⟩ := hv
  have hK := hKW.1
  have hx := B.exec
  have hb := B.bytes
  have hr := B.returns
  have hts := atoms_spec (ws := wsX12_copyRow) B.pre
  have hown : s.vm.findClass RX12 = some m.cls := findClass_of_methodNamed B.named
  have hlocks := B.notSynchronized
  subst hsz
  have hD := hD0.self (sz := s.heap.size)
  generalize hAe : va_A [(ra, .inl (cy 0, 400, .inl rf))] s.heap.size = A at hD ⊢
  have hA : ∀ q : Nat, s.heap.size ≤ q → A q := fun q h => by rw [← hAe]; exact Or.inr h
  have hS : va_S A s.heap s.heap [] := va_S.rf
  have hP : va_P D vwCl [(ra, .inl (cy 0, 400, .inl rf))] s.heap := hP
  have hl := lv_entry ([.ref ra, .int 100, .int 0, .int 1]) (n := 5) (Nat.le_of_ble_eq_true rfl)
  rw [lg_entry_eq]
  generalize (lg_sl ([.ref ra, .int 100, .int 0, .int 1]) ++ List.replicate (5 - (lg_sl ([.ref ra, .int 100, .int 0, .int 1])).length) Slot.unset).toArray = ls at hl ⊢
  have hl : lv_has ls 5 [(0, .ref ra), (1, .int 100), (2, .int 0), (3, .int 1)] := hl
  refine lv_iconst (v := 0) hx hb dX12_copyRow_0 (by decide +kernel) ?_
  refine lv_istore (lv' := [(4, .int 0), (0, .ref ra), (1, .int 100), (2, .int 0), (3, .int 1)]) hx hb dX12_copyRow_1 hl (by decide) rfl (fun ls hl => ?_)
  refine lp (X := Nat × (Nat → Int32)) (fun x => 100 - x.1) (fun x H locs ls => x.1 ≤ 100 ∧ va_P D vwCl [(ra, .inl (cy 0, 400, .inl x.2))] H ∧ va_D A [(ra, .inl (cy 0, 400, .inl x.2))] ∧ va_S A s.heap H locs ∧ lv_has ls 5 [(4, .int (nI x.1)), (0, .ref ra), (1, .int 100), (2, .int 0), (3, .int 1)]) (fun x H locs ls hI ih => ?_) (0, rf) _ _ _ ⟨Nat.zero_le _, hP, hD, hS, by rw [nI_0]; exact hl⟩
  obtain ⟨i_1, f_2⟩ := x
  obtain ⟨hi, hP, hD, hS, hl⟩ := hI
  have hi : i_1 ≤ 100 := hi
  have hP : va_P D vwCl [(ra, .inl (cy 0, 400, .inl f_2))] H := hP
  have hD : va_D A [(ra, .inl (cy 0, 400, .inl f_2))] := hD
  have hl : lv_has ls 5 [(4, .int (nI i_1)), (0, .ref ra), (1, .int 100), (2, .int 0), (3, .int 1)] := hl
  refine lv_iload hx hb dX12_copyRow_3 (lv_at hl 0 rfl) ?_
  refine lv_iload_n hx hb dX12_copyRow_5 rfl (lv_at hl 2 rfl) ?_
  refine lv_icmp_ge (tgt := 31) hx hb dX12_copyRow_6 (by decide) (fun c_3 => ?_) (fun c_3 => ?_)
  · have hP9 := hP.sub (ws' := [(ra, .inl (cy 0, 400, .inl f_2))]) [0] rfl
    have hD9 := hD.sub (ws' := [(ra, .inl (cy 0, 400, .inl f_2))]) [0] (by decide) rfl
    exact W.vret hx hb hr (fun t ht hW => ⟨⟨(), rfl, trivial, f_2, by rw [ht]; exact hP9, hD9⟩, hS.F ht⟩) hS.2.2 dX12_copyRow_31
  · refine lv_aload_n hx hb dX12_copyRow_9 rfl (lv_at hl 1 rfl) ?_
    refine lv_iload_n hx hb dX12_copyRow_10 rfl (lv_at hl 2 rfl) ?_
    refine lv_iload_n hx hb dX12_copyRow_11 rfl (lv_at hl 4 rfl) ?_
    refine lv_imul hx hb dX12_copyRow_12 ?_
    refine tp_i 100 (by decide +kernel) ?_
    refine lv_iload hx hb dX12_copyRow_13 (lv_at hl 0 rfl) ?_
    refine lv_iadd hx hb dX12_copyRow_15 ?_
    refine lv_aload_n hx hb dX12_copyRow_16 rfl (lv_at hl 1 rfl) ?_
    refine lv_iload_n hx hb dX12_copyRow_17 rfl (lv_at hl 2 rfl) ?_
    refine lv_iload_n hx hb dX12_copyRow_18 rfl (lv_at hl 3 rfl) ?_
    refine lv_imul hx hb dX12_copyRow_19 ?_
    refine tp_i 0 (by decide +kernel) ?_
    refine lv_iload hx hb dX12_copyRow_20 (lv_at hl 0 rfl) ?_
    refine lv_iadd hx hb dX12_copyRow_22 ?_
    refine va_iald hx hb hK hP 0 0 rfl rfl (vi_o 0 (by decide +kernel) (by have hlt := lt_of (M := 100) (n := 100) (by decide +kernel) hi c_3; omega) (by decide +kernel)) dX12_copyRow_23 ?_
    refine lv_topi (fun x_4 ex_4 => ?_)
    refine va_iast hx hb hK hP hD hS 0 0 rfl rfl (vi_o 100 (by decide +kernel) (by have hlt := lt_of (M := 100) (n := 100) (by decide +kernel) hi c_3; omega) (by decide +kernel)) dX12_copyRow_24 (fun H locs hP hD hS => ?_)
    have hP : va_P D vwCl [(ra, .inl (cy 0, 400, .inl (upd f_2 (100 + (nI i_1)).toNatClampNeg x_4)))] H := hP
    have hD : va_D A [(ra, .inl (cy 0, 400, .inl (upd f_2 (100 + (nI i_1)).toNatClampNeg x_4)))] := hD
    generalize upd f_2 (100 + (nI i_1)).toNatClampNeg x_4 = f_5 at hP hD
    have hP : va_P D vwCl [(ra, .inl (cy 0, 400, .inl f_5))] H := hP
    have hD : va_D A [(ra, .inl (cy 0, 400, .inl f_5))] := hD
    refine lv_iinc (v := (nI (i_1 + 1))) (lv' := [(4, .int (nI (i_1 + 1))), (0, .ref ra), (1, .int 100), (2, .int 0), (3, .int 1)]) hx hb dX12_copyRow_25 hl (k := 0) rfl (nI_1 i_1) (by decide) rfl (fun ls hl => ?_)
    refine lv_goto (tgt := 3) hx hb dX12_copyRow_28 (by decide) ?_
    have hlt := lt_of (M := 100) (n := 100) (by decide +kernel) hi c_3
    exact ih (i_1 + 1, f_5) _ _ _ (by show 100 - (i_1 + 1) < 100 - i_1; omega) ⟨by show i_1 + 1 ≤ 100; omega, hP, hD, hS, lv_sub hl [0, 1, 2, 3, 4] rfl⟩
set_option maxHeartbeats 4000000 in
set_option maxRecDepth 100000 in
theorem c_X12_copyRow_100_2 (l : Launch) (D : va_G) (cy : Nat → ClassId) (ra : Nat) (rf : Nat → Int32) (sz : Nat)  : Met l yX12_copyRow wsX12_copyRow ({ frames := 0, cells := 0, slots := 0, locals := 0 } : Room) (va_Pc [.ref ra, .int 100, .int 0, .int 2] (PW D cy [(ra, .inl (cy 0, 400, .inl rf))] sz)) (va_Qv (fun _ : Unit => True) (fun _ t => ∃ (f_2 : Nat → Int32), va_P D vwCl [(ra, .inl (cy 0, 400, .inl f_2))] t.heap ∧ va_D (va_A [(ra, .inl (cy 0, 400, .inl rf))] sz) [(ra, .inl (cy 0, 400, .inl f_2))]) (va_A [(ra, .inl (cy 0, 400, .inl rf))] sz)) 0 0 (va_A [(ra, .inl (cy 0, 400, .inl rf))] sz) := by
  refine Met.ofW (cc := cX12_copyRow) (maxL := 5) (ret := none) (by decide) rfl ?_
  intro p e s m args below meth c s₁ B hml hv
  obtain ⟨rfl, hsz, hP, hKW, hD0⟩ := hv
  have hK := hKW.1
  have hx := B.exec
  have hb := B.bytes
  have hr := B.returns
  have hts := atoms_spec (ws := wsX12_copyRow) B.pre
  have hown : s.vm.findClass RX12 = some m.cls := findClass_of_methodNamed B.named
  have hlocks := B.notSynchronized
  subst hsz
  have hD := hD0.self (sz := s.heap.size)
  generalize hAe : va_A [(ra, .inl (cy 0, 400, .inl rf))] s.heap.size = A at hD ⊢
  have hA : ∀ q : Nat, s.heap.size ≤ q → A q := fun q h => by rw [← hAe]; exact Or.inr h
  have hS : va_S A s.heap s.heap [] := va_S.rf
  have hP : va_P D vwCl [(ra, .inl (cy 0, 400, .inl rf))] s.heap := hP
  have hl := lv_entry ([.ref ra, .int 100, .int 0, .int 2]) (n := 5) (Nat.le_of_ble_eq_true rfl)
  rw [lg_entry_eq]
  generalize (lg_sl ([.ref ra, .int 100, .int 0, .int 2]) ++ List.replicate (5 - (lg_sl ([.ref ra, .int 100, .int 0, .int 2])).length) Slot.unset).toArray = ls at hl ⊢
  have hl : lv_has ls 5 [(0, .ref ra), (1, .int 100), (2, .int 0), (3, .int 2)] := hl
  refine lv_iconst (v := 0) hx hb dX12_copyRow_0 (by decide +kernel) ?_
  refine lv_istore (lv' := [(4, .int 0), (0, .ref ra), (1, .int 100), (2, .int 0), (3, .int 2)]) hx hb dX12_copyRow_1 hl (by decide) rfl (fun ls hl => ?_)
  refine lp (X := Nat × (Nat → Int32)) (fun x => 100 - x.1) (fun x H locs ls => x.1 ≤ 100 ∧ va_P D vwCl [(ra, .inl (cy 0, 400, .inl x.2))] H ∧ va_D A [(ra, .inl (cy 0, 400, .inl x.2))] ∧ va_S A s.heap H locs ∧ lv_has ls 5 [(4, .int (nI x.1)), (0, .ref ra), (1, .int 100), (2, .int 0), (3, .int 2)]) (fun x H locs ls hI ih => ?_) (0, rf) _ _ _ ⟨Nat.zero_le _, hP, hD, hS, by rw [nI_0]; exact hl⟩
  obtain ⟨i_1, f_2⟩ := x
  obtain ⟨hi, hP, hD, hS, hl⟩ := hI
  have hi : i_1 ≤ 100 := hi
  have hP : va_P D vwCl [(ra, .inl (cy 0, 400, .inl f_2))] H := hP
  have hD : va_D A [(ra, .inl (cy 0, 400, .inl f_2))] := hD
  have hl : lv_has ls 5 [(4, .int (nI i_1)), (0, .ref ra), (1, .int 100), (2, .int 0), (3, .int 2)] := hl
  refine lv_iload hx hb dX12_copyRow_3 (lv_at hl 0 rfl) ?_
  refine lv_iload_n hx hb dX12_copyRow_5 rfl (lv_at hl 2 rfl) ?_
  refine lv_icmp_ge (tgt := 31) hx hb dX12_copyRow_6 (by decide) (fun c_3 => ?_) (fun c_3 => ?_)
  · have hP9 := hP.sub (ws' := [(ra, .inl (cy 0, 400, .inl f_2))]) [0] rfl
    have hD9 := hD.sub (ws' := [(ra, .inl (cy 0, 400, .inl f_2))]) [0] (by decide) rfl
    exact W.vret hx hb hr (fun t ht hW => ⟨⟨(), rfl, trivial, f_2, by rw [ht]; exact hP9, hD9⟩, hS.F ht⟩) hS.2.2 dX12_copyRow_31
  · refine lv_aload_n hx hb dX12_copyRow_9 rfl (lv_at hl 1 rfl) ?_
    refine lv_iload_n hx hb dX12_copyRow_10 rfl (lv_at hl 2 rfl) ?_
    refine lv_iload_n hx hb dX12_copyRow_11 rfl (lv_at hl 4 rfl) ?_
    refine lv_imul hx hb dX12_copyRow_12 ?_
    refine tp_i 200 (by decide +kernel) ?_
    refine lv_iload hx hb dX12_copyRow_13 (lv_at hl 0 rfl) ?_
    refine lv_iadd hx hb dX12_copyRow_15 ?_
    refine lv_aload_n hx hb dX12_copyRow_16 rfl (lv_at hl 1 rfl) ?_
    refine lv_iload_n hx hb dX12_copyRow_17 rfl (lv_at hl 2 rfl) ?_
    refine lv_iload_n hx hb dX12_copyRow_18 rfl (lv_at hl 3 rfl) ?_
    refine lv_imul hx hb dX12_copyRow_19 ?_
    refine tp_i 0 (by decide +kernel) ?_
    refine lv_iload hx hb dX12_copyRow_20 (lv_at hl 0 rfl) ?_
    refine lv_iadd hx hb dX12_copyRow_22 ?_
    refine va_iald hx hb hK hP 0 0 rfl rfl (vi_o 0 (by decide +kernel) (by have hlt := lt_of (M := 100) (n := 100) (by decide +kernel) hi c_3; omega) (by decide +kernel)) dX12_copyRow_23 ?_
    refine lv_topi (fun x_4 ex_4 => ?_)
    refine va_iast hx hb hK hP hD hS 0 0 rfl rfl (vi_o 200 (by decide +kernel) (by have hlt := lt_of (M := 100) (n := 100) (by decide +kernel) hi c_3; omega) (by decide +kernel)) dX12_copyRow_24 (fun H locs hP hD hS => ?_)
    have hP : va_P D vwCl [(ra, .inl (cy 0, 400, .inl (upd f_2 (200 + (nI i_1)).toNatClampNeg x_4)))] H := hP
    have hD : va_D A [(ra, .inl (cy 0, 400, .inl (upd f_2 (200 + (nI i_1)).toNatClampNeg x_4)))] := hD
    generalize upd f_2 (200 + (nI i_1)).toNatClampNeg x_4 = f_5 at hP hD
    have hP : va_P D vwCl [(ra, .inl (cy 0, 400, .inl f_5))] H := hP
    have hD : va_D A [(ra, .inl (cy 0, 400, .inl f_5))] := hD
    refine lv_iinc (v := (nI (i_1 + 1))) (lv' := [(4, .int (nI (i_1 + 1))), (0, .ref ra), (1, .int 100), (2, .int 0), (3, .int 2)]) hx hb dX12_copyRow_25 hl (k := 0) rfl (nI_1 i_1) (by decide) rfl (fun ls hl => ?_)
    refine lv_goto (tgt := 3) hx hb dX12_copyRow_28 (by decide) ?_
    have hlt := lt_of (M := 100) (n := 100) (by decide +kernel) hi c_3
    exact ih (i_1 + 1, f_5) _ _ _ (by show 100 - (i_1 + 1) < 100 - i_1; omega) ⟨by show i_1 + 1 ≤ 100; omega, hP, hD, hS, lv_sub hl [0, 1, 2, 3, 4] rfl⟩
set_option maxHeartbeats 4000000 in
set_option maxRecDepth 100000 in
theorem c_X12_copyRow_100_3 (l : Launch) (D : va_G) (cy : Nat → ClassId) (ra : Nat) (rf : Nat → Int32) (sz : Nat)  : Met l yX12_copyRow wsX12_copyRow ({ frames := 0, cells := 0, slots := 0, locals := 0 } : Room) (va_Pc [.ref ra, .int 100, .int 0, .int 3] (PW D cy [(ra, .inl (cy 0, 400, .inl rf))] sz)) (va_Qv (fun _ : Unit => True) (fun _ t => ∃ (f_2 : Nat → Int32), va_P D vwCl [(ra, .inl (cy 0, 400, .inl f_2))] t.heap ∧ va_D (va_A [(ra, .inl (cy 0, 400, .inl rf))] sz) [(ra, .inl (cy 0, 400, .inl f_2))]) (va_A [(ra, .inl (cy 0, 400, .inl rf))] sz)) 0 0 (va_A [(ra, .inl (cy 0, 400, .inl rf))] sz) := by
  refine Met.ofW (cc := cX12_copyRow) (maxL := 5) (ret := none) (by decide) rfl ?_
  intro p e s m args below meth c s₁ B hml hv
  obtain ⟨rfl, hsz, hP, hKW, hD0⟩ := hv
  have hK := hKW.1
  have hx := B.exec
  have hb := B.bytes
  have hr := B.returns
  have hts := atoms_spec (ws := wsX12_copyRow) B.pre
  have hown : s.vm.findClass RX12 = some m.cls := findClass_of_methodNamed B.named
  have hlocks := B.notSynchronized
  subst hsz
  have hD := hD0.self (sz := s.heap.size)
  generalize hAe : va_A [(ra, .inl (cy 0, 400, .inl rf))] s.heap.size = A at hD ⊢
  have hA : ∀ q : Nat, s.heap.size ≤ q → A q := fun q h => by rw [← hAe]; exact Or.inr h
  have hS : va_S A s.heap s.heap [] := va_S.rf
  have hP : va_P D vwCl [(ra, .inl (cy 0, 400, .inl rf))] s.heap := hP
  have hl := lv_entry ([.ref ra, .int 100, .int 0, .int 3]) (n := 5) (Nat.le_of_ble_eq_true rfl)
  rw [lg_entry_eq]
  generalize (lg_sl ([.ref ra, .int 100, .int 0, .int 3]) ++ List.replicate (5 - (lg_sl ([.ref ra, .int 100, .int 0, .int 3])).length) Slot.unset).toArray = ls at hl ⊢
  have hl : lv_has ls 5 [(0, .ref ra), (1, .int 100), (2, .int 0), (3, .int 3)] := hl
  refine lv_iconst (v := 0) hx hb dX12_copyRow_0 (by decide +kernel) ?_
  refine lv_istore (lv' := [(4, .int 0), (0, .ref ra), (1, .int 100), (2, .int 0), (3, .int 3)]) hx hb dX12_copyRow_1 hl (by decide) rfl (fun ls hl => ?_)
  refine lp (X := Nat × (Nat → Int32)) (fun x => 100 - x.1) (fun x H locs ls => x.1 ≤ 100 ∧ va_P D vwCl [(ra, .inl (cy 0, 400, .inl x.2))] H ∧ va_D A [(ra, .inl (cy 0, 400, .inl x.2))] ∧ va_S A s.heap H locs ∧ lv_has ls 5 [(4, .int (nI x.1)), (0, .ref ra), (1, .int 100), (2, .int 0), (3, .int 3)]) (fun x H locs ls hI ih => ?_) (0, rf) _ _ _ ⟨Nat.zero_le _, hP, hD, hS, by rw [nI_0]; exact hl⟩
  obtain ⟨i_1, f_2⟩ := x
  obtain ⟨hi, hP, hD, hS, hl⟩ := hI
  have hi : i_1 ≤ 100 := hi
  have hP : va_P D vwCl [(ra, .inl (cy 0, 400, .inl f_2))] H := hP
  have hD : va_D A [(ra, .inl (cy 0, 400, .inl f_2))] := hD
  have hl : lv_has ls 5 [(4, .int (nI i_1)), (0, .ref ra), (1, .int 100), (2, .int 0), (3, .int 3)] := hl
  refine lv_iload hx hb dX12_copyRow_3 (lv_at hl 0 rfl) ?_
  refine lv_iload_n hx hb dX12_copyRow_5 rfl (lv_at hl 2 rfl) ?_
  refine lv_icmp_ge (tgt := 31) hx hb dX12_copyRow_6 (by decide) (fun c_3 => ?_) (fun c_3 => ?_)
  · have hP9 := hP.sub (ws' := [(ra, .inl (cy 0, 400, .inl f_2))]) [0] rfl
    have hD9 := hD.sub (ws' := [(ra, .inl (cy 0, 400, .inl f_2))]) [0] (by decide) rfl
    exact W.vret hx hb hr (fun t ht hW => ⟨⟨(), rfl, trivial, f_2, by rw [ht]; exact hP9, hD9⟩, hS.F ht⟩) hS.2.2 dX12_copyRow_31
  · refine lv_aload_n hx hb dX12_copyRow_9 rfl (lv_at hl 1 rfl) ?_
    refine lv_iload_n hx hb dX12_copyRow_10 rfl (lv_at hl 2 rfl) ?_
    refine lv_iload_n hx hb dX12_copyRow_11 rfl (lv_at hl 4 rfl) ?_
    refine lv_imul hx hb dX12_copyRow_12 ?_
    refine tp_i 300 (by decide +kernel) ?_
    refine lv_iload hx hb dX12_copyRow_13 (lv_at hl 0 rfl) ?_
    refine lv_iadd hx hb dX12_copyRow_15 ?_
    refine lv_aload_n hx hb dX12_copyRow_16 rfl (lv_at hl 1 rfl) ?_
    refine lv_iload_n hx hb dX12_copyRow_17 rfl (lv_at hl 2 rfl) ?_
    refine lv_iload_n hx hb dX12_copyRow_18 rfl (lv_at hl 3 rfl) ?_
    refine lv_imul hx hb dX12_copyRow_19 ?_
    refine tp_i 0 (by decide +kernel) ?_
    refine lv_iload hx hb dX12_copyRow_20 (lv_at hl 0 rfl) ?_
    refine lv_iadd hx hb dX12_copyRow_22 ?_
    refine va_iald hx hb hK hP 0 0 rfl rfl (vi_o 0 (by decide +kernel) (by have hlt := lt_of (M := 100) (n := 100) (by decide +kernel) hi c_3; omega) (by decide +kernel)) dX12_copyRow_23 ?_
    refine lv_topi (fun x_4 ex_4 => ?_)
    refine va_iast hx hb hK hP hD hS 0 0 rfl rfl (vi_o 300 (by decide +kernel) (by have hlt := lt_of (M := 100) (n := 100) (by decide +kernel) hi c_3; omega) (by decide +kernel)) dX12_copyRow_24 (fun H locs hP hD hS => ?_)
    have hP : va_P D vwCl [(ra, .inl (cy 0, 400, .inl (upd f_2 (300 + (nI i_1)).toNatClampNeg x_4)))] H := hP
    have hD : va_D A [(ra, .inl (cy 0, 400, .inl (upd f_2 (300 + (nI i_1)).toNatClampNeg x_4)))] := hD
    generalize upd f_2 (300 + (nI i_1)).toNatClampNeg x_4 = f_5 at hP hD
    have hP : va_P D vwCl [(ra, .inl (cy 0, 400, .inl f_5))] H := hP
    have hD : va_D A [(ra, .inl (cy 0, 400, .inl f_5))] := hD
    refine lv_iinc (v := (nI (i_1 + 1))) (lv' := [(4, .int (nI (i_1 + 1))), (0, .ref ra), (1, .int 100), (2, .int 0), (3, .int 3)]) hx hb dX12_copyRow_25 hl (k := 0) rfl (nI_1 i_1) (by decide) rfl (fun ls hl => ?_)
    refine lv_goto (tgt := 3) hx hb dX12_copyRow_28 (by decide) ?_
    have hlt := lt_of (M := 100) (n := 100) (by decide +kernel) hi c_3
    exact ih (i_1 + 1, f_5) _ _ _ (by show 100 - (i_1 + 1) < 100 - i_1; omega) ⟨by show i_1 + 1 ≤ 100; omega, hP, hD, hS, lv_sub hl [0, 1, 2, 3, 4] rfl⟩
set_option maxHeartbeats 4000000 in
set_option maxRecDepth 100000 in
theorem c_X12_copyRow_242_1 (l : Launch) (D : va_G) (cy : Nat → ClassId) (ra : Nat) (rf : Nat → Int32) (sz : Nat)  : Met l yX12_copyRow wsX12_copyRow ({ frames := 0, cells := 0, slots := 0, locals := 0 } : Room) (va_Pc [.ref ra, .int 242, .int 0, .int 1] (PW D cy [(ra, .inl (cy 0, 968, .inl rf))] sz)) (va_Qv (fun _ : Unit => True) (fun _ t => ∃ (f_2 : Nat → Int32), va_P D vwCl [(ra, .inl (cy 0, 968, .inl f_2))] t.heap ∧ va_D (va_A [(ra, .inl (cy 0, 968, .inl rf))] sz) [(ra, .inl (cy 0, 968, .inl f_2))]) (va_A [(ra, .inl (cy 0, 968, .inl rf))] sz)) 0 0 (va_A [(ra, .inl (cy 0, 968, .inl rf))] sz) := by
  refine Met.ofW (cc := cX12_copyRow) (maxL := 5) (ret := none) (by decide) rfl ?_
  intro p e s m args below meth c s₁ B hml hv
  obtain ⟨rfl, hsz, hP, hKW, hD0⟩ := hv
  have hK := hKW.1
  have hx := B.exec
  have hb := B.bytes
  have hr := B.returns
  have hts := atoms_spec (ws := wsX12_copyRow) B.pre
  have hown : s.vm.findClass RX12 = some m.cls := findClass_of_methodNamed B.named
  have hlocks := B.notSynchronized
  subst hsz
  have hD := hD0.self (sz := s.heap.size)
  generalize hAe : va_A [(ra, .inl (cy 0, 968, .inl rf))] s.heap.size = A at hD ⊢
  have hA : ∀ q : Nat, s.heap.size ≤ q → A q := fun q h => by rw [← hAe]; exact Or.inr h
  have hS : va_S A s.heap s.heap [] := va_S.rf
  have hP : va_P D vwCl [(ra, .inl (cy 0, 968, .inl rf))] s.heap := hP
  have hl := lv_entry ([.ref ra, .int 242, .int 0, .int 1]) (n := 5) (Nat.le_of_ble_eq_true rfl)
  rw [lg_entry_eq]
  generalize (lg_sl ([.ref ra, .int 242, .int 0, .int 1]) ++ List.replicate (5 - (lg_sl ([.ref ra, .int 242, .int 0, .int 1])).length) Slot.unset).toArray = ls at hl ⊢
  have hl : lv_has ls 5 [(0, .ref ra), (1, .int 242), (2, .int 0), (3, .int 1)] := hl
  refine lv_iconst (v := 0) hx hb dX12_copyRow_0 (by decide +kernel) ?_
  refine lv_istore (lv' := [(4, .int 0), (0, .ref ra), (1, .int 242), (2, .int 0), (3, .int 1)]) hx hb dX12_copyRow_1 hl (by decide) rfl (fun ls hl => ?_)
  refine lp (X := Nat × (Nat → Int32)) (fun x => 242 - x.1) (fun x H locs ls => x.1 ≤ 242 ∧ va_P D vwCl [(ra, .inl (cy 0, 968, .inl x.2))] H ∧ va_D A [(ra, .inl (cy 0, 968, .inl x.2))] ∧ va_S A s.heap H locs ∧ lv_has ls 5 [(4, .int (nI x.1)), (0, .ref ra), (1, .int 242), (2, .int 0), (3, .int 1)]) (fun x H locs ls hI ih => ?_) (0, rf) _ _ _ ⟨Nat.zero_le _, hP, hD, hS, by rw [nI_0]; exact hl⟩
  obtain ⟨i_1, f_2⟩ := x
  obtain ⟨hi, hP, hD, hS, hl⟩ := hI
  have hi : i_1 ≤ 242 := hi
  have hP : va_P D vwCl [(ra, .inl (cy 0, 968, .inl f_2))] H := hP
  have hD : va_D A [(ra, .inl (cy 0, 968, .inl f_2))] := hD
  have hl : lv_has ls 5 [(4, .int (nI i_1)), (0, .ref ra), (1, .int 242), (2, .int 0), (3, .int 1)] := hl
  refine lv_iload hx hb dX12_copyRow_3 (lv_at hl 0 rfl) ?_
  refine lv_iload_n hx hb dX12_copyRow_5 rfl (lv_at hl 2 rfl) ?_
  refine lv_icmp_ge (tgt := 31) hx hb dX12_copyRow_6 (by decide) (fun c_3 => ?_) (fun c_3 => ?_)
  · have hP9 := hP.sub (ws' := [(ra, .inl (cy 0, 968, .inl f_2))]) [0] rfl
    have hD9 := hD.sub (ws' := [(ra, .inl (cy 0, 968, .inl f_2))]) [0] (by decide) rfl
    exact W.vret hx hb hr (fun t ht hW => ⟨⟨(), rfl, trivial, f_2, by rw [ht]; exact hP9, hD9⟩, hS.F ht⟩) hS.2.2 dX12_copyRow_31
  · refine lv_aload_n hx hb dX12_copyRow_9 rfl (lv_at hl 1 rfl) ?_
    refine lv_iload_n hx hb dX12_copyRow_10 rfl (lv_at hl 2 rfl) ?_
    refine lv_iload_n hx hb dX12_copyRow_11 rfl (lv_at hl 4 rfl) ?_
    refine lv_imul hx hb dX12_copyRow_12 ?_
    refine tp_i 242 (by decide +kernel) ?_
    refine lv_iload hx hb dX12_copyRow_13 (lv_at hl 0 rfl) ?_
    refine lv_iadd hx hb dX12_copyRow_15 ?_
    refine lv_aload_n hx hb dX12_copyRow_16 rfl (lv_at hl 1 rfl) ?_
    refine lv_iload_n hx hb dX12_copyRow_17 rfl (lv_at hl 2 rfl) ?_
    refine lv_iload_n hx hb dX12_copyRow_18 rfl (lv_at hl 3 rfl) ?_
    refine lv_imul hx hb dX12_copyRow_19 ?_
    refine tp_i 0 (by decide +kernel) ?_
    refine lv_iload hx hb dX12_copyRow_20 (lv_at hl 0 rfl) ?_
    refine lv_iadd hx hb dX12_copyRow_22 ?_
    refine va_iald hx hb hK hP 0 0 rfl rfl (vi_o 0 (by decide +kernel) (by have hlt := lt_of (M := 242) (n := 242) (by decide +kernel) hi c_3; omega) (by decide +kernel)) dX12_copyRow_23 ?_
    refine lv_topi (fun x_4 ex_4 => ?_)
    refine va_iast hx hb hK hP hD hS 0 0 rfl rfl (vi_o 242 (by decide +kernel) (by have hlt := lt_of (M := 242) (n := 242) (by decide +kernel) hi c_3; omega) (by decide +kernel)) dX12_copyRow_24 (fun H locs hP hD hS => ?_)
    have hP : va_P D vwCl [(ra, .inl (cy 0, 968, .inl (upd f_2 (242 + (nI i_1)).toNatClampNeg x_4)))] H := hP
    have hD : va_D A [(ra, .inl (cy 0, 968, .inl (upd f_2 (242 + (nI i_1)).toNatClampNeg x_4)))] := hD
    generalize upd f_2 (242 + (nI i_1)).toNatClampNeg x_4 = f_5 at hP hD
    have hP : va_P D vwCl [(ra, .inl (cy 0, 968, .inl f_5))] H := hP
    have hD : va_D A [(ra, .inl (cy 0, 968, .inl f_5))] := hD
    refine lv_iinc (v := (nI (i_1 + 1))) (lv' := [(4, .int (nI (i_1 + 1))), (0, .ref ra), (1, .int 242), (2, .int 0), (3, .int 1)]) hx hb dX12_copyRow_25 hl (k := 0) rfl (nI_1 i_1) (by decide) rfl (fun ls hl => ?_)
    refine lv_goto (tgt := 3) hx hb dX12_copyRow_28 (by decide) ?_
    have hlt := lt_of (M := 242) (n := 242) (by decide +kernel) hi c_3
    exact ih (i_1 + 1, f_5) _ _ _ (by show 242 - (i_1 + 1) < 242 - i_1; omega) ⟨by show i_1 + 1 ≤ 242; omega, hP, hD, hS, lv_sub hl [0, 1, 2, 3, 4] rfl⟩
set_option maxHeartbeats 4000000 in
set_option maxRecDepth 100000 in
theorem c_X12_copyRow_242_2 (l : Launch) (D : va_G) (cy : Nat → ClassId) (ra : Nat) (rf : Nat → Int32) (sz : Nat)  : Met l yX12_copyRow wsX12_copyRow ({ frames := 0, cells := 0, slots := 0, locals := 0 } : Room) (va_Pc [.ref ra, .int 242, .int 0, .int 2] (PW D cy [(ra, .inl (cy 0, 968, .inl rf))] sz)) (va_Qv (fun _ : Unit => True) (fun _ t => ∃ (f_2 : Nat → Int32), va_P D vwCl [(ra, .inl (cy 0, 968, .inl f_2))] t.heap ∧ va_D (va_A [(ra, .inl (cy 0, 968, .inl rf))] sz) [(ra, .inl (cy 0, 968, .inl f_2))]) (va_A [(ra, .inl (cy 0, 968, .inl rf))] sz)) 0 0 (va_A [(ra, .inl (cy 0, 968, .inl rf))] sz) := by
  refine Met.ofW (cc := cX12_copyRow) (maxL := 5) (ret := none) (by decide) rfl ?_
  intro p e s m args below meth c s₁ B hml hv
  obtain ⟨rfl, hsz, hP, hKW, hD0⟩ := hv
  have hK := hKW.1
  have hx := B.exec
  have hb := B.bytes
  have hr := B.returns
  have hts := atoms_spec (ws := wsX12_copyRow) B.pre
  have hown : s.vm.findClass RX12 = some m.cls := findClass_of_methodNamed B.named
  have hlocks := B.notSynchronized
  subst hsz
  have hD := hD0.self (sz := s.heap.size)
  generalize hAe : va_A [(ra, .inl (cy 0, 968, .inl rf))] s.heap.size = A at hD ⊢
  have hA : ∀ q : Nat, s.heap.size ≤ q → A q := fun q h => by rw [← hAe]; exact Or.inr h
  have hS : va_S A s.heap s.heap [] := va_S.rf
  have hP : va_P D vwCl [(ra, .inl (cy 0, 968, .inl rf))] s.heap := hP
  have hl := lv_entry ([.ref ra, .int 242, .int 0, .int 2]) (n := 5) (Nat.le_of_ble_eq_true rfl)
  rw [lg_entry_eq]
  generalize (lg_sl ([.ref ra, .int 242, .int 0, .int 2]) ++ List.replicate (5 - (lg_sl ([.ref ra, .int 242, .int 0, .int 2])).length) Slot.unset).toArray = ls at hl ⊢
  have hl : lv_has ls 5 [(0, .ref ra), (1, .int 242), (2, .int 0), (3, .int 2)] := hl
  refine lv_iconst (v := 0) hx hb dX12_copyRow_0 (by decide +kernel) ?_
  refine lv_istore (lv' := [(4, .int 0), (0, .ref ra), (1, .int 242), (2, .int 0), (3, .int 2)]) hx hb dX12_copyRow_1 hl (by decide) rfl (fun ls hl => ?_)
  refine lp (X := Nat × (Nat → Int32)) (fun x => 242 - x.1) (fun x H locs ls => x.1 ≤ 242 ∧ va_P D vwCl [(ra, .inl (cy 0, 968, .inl x.2))] H ∧ va_D A [(ra, .inl (cy 0, 968, .inl x.2))] ∧ va_S A s.heap H locs ∧ lv_has ls 5 [(4, .int (nI x.1)), (0, .ref ra), (1, .int 242), (2, .int 0), (3, .int 2)]) (fun x H locs ls hI ih => ?_) (0, rf) _ _ _ ⟨Nat.zero_le _, hP, hD, hS, by rw [nI_0]; exact hl⟩
  obtain ⟨i_1, f_2⟩ := x
  obtain ⟨hi, hP, hD, hS, hl⟩ := hI
  have hi : i_1 ≤ 242 := hi
  have hP : va_P D vwCl [(ra, .inl (cy 0, 968, .inl f_2))] H := hP
  have hD : va_D A [(ra, .inl (cy 0, 968, .inl f_2))] := hD
  have hl : lv_has ls 5 [(4, .int (nI i_1)), (0, .ref ra), (1, .int 242), (2, .int 0), (3, .int 2)] := hl
  refine lv_iload hx hb dX12_copyRow_3 (lv_at hl 0 rfl) ?_
  refine lv_iload_n hx hb dX12_copyRow_5 rfl (lv_at hl 2 rfl) ?_
  refine lv_icmp_ge (tgt := 31) hx hb dX12_copyRow_6 (by decide) (fun c_3 => ?_) (fun c_3 => ?_)
  · have hP9 := hP.sub (ws' := [(ra, .inl (cy 0, 968, .inl f_2))]) [0] rfl
    have hD9 := hD.sub (ws' := [(ra, .inl (cy 0, 968, .inl f_2))]) [0] (by decide) rfl
    exact W.vret hx hb hr (fun t ht hW => ⟨⟨(), rfl, trivial, f_2, by rw [ht]; exact hP9, hD9⟩, hS.F ht⟩) hS.2.2 dX12_copyRow_31
  · refine lv_aload_n hx hb dX12_copyRow_9 rfl (lv_at hl 1 rfl) ?_
    refine lv_iload_n hx hb dX12_copyRow_10 rfl (lv_at hl 2 rfl) ?_
    refine lv_iload_n hx hb dX12_copyRow_11 rfl (lv_at hl 4 rfl) ?_
    refine lv_imul hx hb dX12_copyRow_12 ?_
    refine tp_i 484 (by decide +kernel) ?_
    refine lv_iload hx hb dX12_copyRow_13 (lv_at hl 0 rfl) ?_
    refine lv_iadd hx hb dX12_copyRow_15 ?_
    refine lv_aload_n hx hb dX12_copyRow_16 rfl (lv_at hl 1 rfl) ?_
    refine lv_iload_n hx hb dX12_copyRow_17 rfl (lv_at hl 2 rfl) ?_
    refine lv_iload_n hx hb dX12_copyRow_18 rfl (lv_at hl 3 rfl) ?_
    refine lv_imul hx hb dX12_copyRow_19 ?_
    refine tp_i 0 (by decide +kernel) ?_
    refine lv_iload hx hb dX12_copyRow_20 (lv_at hl 0 rfl) ?_
    refine lv_iadd hx hb dX12_copyRow_22 ?_
    refine va_iald hx hb hK hP 0 0 rfl rfl (vi_o 0 (by decide +kernel) (by have hlt := lt_of (M := 242) (n := 242) (by decide +kernel) hi c_3; omega) (by decide +kernel)) dX12_copyRow_23 ?_
    refine lv_topi (fun x_4 ex_4 => ?_)
    refine va_iast hx hb hK hP hD hS 0 0 rfl rfl (vi_o 484 (by decide +kernel) (by have hlt := lt_of (M := 242) (n := 242) (by decide +kernel) hi c_3; omega) (by decide +kernel)) dX12_copyRow_24 (fun H locs hP hD hS => ?_)
    have hP : va_P D vwCl [(ra, .inl (cy 0, 968, .inl (upd f_2 (484 + (nI i_1)).toNatClampNeg x_4)))] H := hP
    have hD : va_D A [(ra, .inl (cy 0, 968, .inl (upd f_2 (484 + (nI i_1)).toNatClampNeg x_4)))] := hD
    generalize upd f_2 (484 + (nI i_1)).toNatClampNeg x_4 = f_5 at hP hD
    have hP : va_P D vwCl [(ra, .inl (cy 0, 968, .inl f_5))] H := hP
    have hD : va_D A [(ra, .inl (cy 0, 968, .inl f_5))] := hD
    refine lv_iinc (v := (nI (i_1 + 1))) (lv' := [(4, .int (nI (i_1 + 1))), (0, .ref ra), (1, .int 242), (2, .int 0), (3, .int 2)]) hx hb dX12_copyRow_25 hl (k := 0) rfl (nI_1 i_1) (by decide) rfl (fun ls hl => ?_)
    refine lv_goto (tgt := 3) hx hb dX12_copyRow_28 (by decide) ?_
    have hlt := lt_of (M := 242) (n := 242) (by decide +kernel) hi c_3
    exact ih (i_1 + 1, f_5) _ _ _ (by show 242 - (i_1 + 1) < 242 - i_1; omega) ⟨by show i_1 + 1 ≤ 242; omega, hP, hD, hS, lv_sub hl [0, 1, 2, 3, 4] rfl⟩
set_option maxHeartbeats 4000000 in
set_option maxRecDepth 100000 in
theorem c_X12_copyRow_242_3 (l : Launch) (D : va_G) (cy : Nat → ClassId) (ra : Nat) (rf : Nat → Int32) (sz : Nat)  : Met l yX12_copyRow wsX12_copyRow ({ frames := 0, cells := 0, slots := 0, locals := 0 } : Room) (va_Pc [.ref ra, .int 242, .int 0, .int 3] (PW D cy [(ra, .inl (cy 0, 968, .inl rf))] sz)) (va_Qv (fun _ : Unit => True) (fun _ t => ∃ (f_2 : Nat → Int32), va_P D vwCl [(ra, .inl (cy 0, 968, .inl f_2))] t.heap ∧ va_D (va_A [(ra, .inl (cy 0, 968, .inl rf))] sz) [(ra, .inl (cy 0, 968, .inl f_2))]) (va_A [(ra, .inl (cy 0, 968, .inl rf))] sz)) 0 0 (va_A [(ra, .inl (cy 0, 968, .inl rf))] sz) := by
  refine Met.ofW (cc := cX12_copyRow) (maxL := 5) (ret := none) (by decide) rfl ?_
  intro p e s m args below meth c s₁ B hml hv
  obtain ⟨rfl, hsz, hP, hKW, hD0⟩ := hv
  have hK := hKW.1
  have hx := B.exec
  have hb := B.bytes
  have hr := B.returns
  have hts := atoms_spec (ws := wsX12_copyRow) B.pre
  have hown : s.vm.findClass RX12 = some m.cls := findClass_of_methodNamed B.named
  have hlocks := B.notSynchronized
  subst hsz
  have hD := hD0.self (sz := s.heap.size)
  generalize hAe : va_A [(ra, .inl (cy 0, 968, .inl rf))] s.heap.size = A at hD ⊢
  have hA : ∀ q : Nat, s.heap.size ≤ q → A q := fun q h => by rw [← hAe]; exact Or.inr h
  have hS : va_S A s.heap s.heap [] := va_S.rf
  have hP : va_P D vwCl [(ra, .inl (cy 0, 968, .inl rf))] s.heap := hP
  have hl := lv_entry ([.ref ra, .int 242, .int 0, .int 3]) (n := 5) (Nat.le_of_ble_eq_true rfl)
  rw [lg_entry_eq]
  generalize (lg_sl ([.ref ra, .int 242, .int 0, .int 3]) ++ List.replicate (5 - (lg_sl ([.ref ra, .int 242, .int 0, .int 3])).length) Slot.unset).toArray = ls at hl ⊢
  have hl : lv_has ls 5 [(0, .ref ra), (1, .int 242), (2, .int 0), (3, .int 3)] := hl
  refine lv_iconst (v := 0) hx hb dX12_copyRow_0 (by decide +kernel) ?_
  refine lv_istore (lv' := [(4, .int 0), (0, .ref ra), (1, .int 242), (2, .int 0), (3, .int 3)]) hx hb dX12_copyRow_1 hl (by decide) rfl (fun ls hl => ?_)
  refine lp (X := Nat × (Nat → Int32)) (fun x => 242 - x.1) (fun x H locs ls => x.1 ≤ 242 ∧ va_P D vwCl [(ra, .inl (cy 0, 968, .inl x.2))] H ∧ va_D A [(ra, .inl (cy 0, 968, .inl x.2))] ∧ va_S A s.heap H locs ∧ lv_has ls 5 [(4, .int (nI x.1)), (0, .ref ra), (1, .int 242), (2, .int 0), (3, .int 3)]) (fun x H locs ls hI ih => ?_) (0, rf) _ _ _ ⟨Nat.zero_le _, hP, hD, hS, by rw [nI_0]; exact hl⟩
  obtain ⟨i_1, f_2⟩ := x
  obtain ⟨hi, hP, hD, hS, hl⟩ := hI
  have hi : i_1 ≤ 242 := hi
  have hP : va_P D vwCl [(ra, .inl (cy 0, 968, .inl f_2))] H := hP
  have hD : va_D A [(ra, .inl (cy 0, 968, .inl f_2))] := hD
  have hl : lv_has ls 5 [(4, .int (nI i_1)), (0, .ref ra), (1, .int 242), (2, .int 0), (3, .int 3)] := hl
  refine lv_iload hx hb dX12_copyRow_3 (lv_at hl 0 rfl) ?_
  refine lv_iload_n hx hb dX12_copyRow_5 rfl (lv_at hl 2 rfl) ?_
  refine lv_icmp_ge (tgt := 31) hx hb dX12_copyRow_6 (by decide) (fun c_3 => ?_) (fun c_3 => ?_)
  · have hP9 := hP.sub (ws' := [(ra, .inl (cy 0, 968, .inl f_2))]) [0] rfl
    have hD9 := hD.sub (ws' := [(ra, .inl (cy 0, 968, .inl f_2))]) [0] (by decide) rfl
    exact W.vret hx hb hr (fun t ht hW => ⟨⟨(), rfl, trivial, f_2, by rw [ht]; exact hP9, hD9⟩, hS.F ht⟩) hS.2.2 dX12_copyRow_31
  · refine lv_aload_n hx hb dX12_copyRow_9 rfl (lv_at hl 1 rfl) ?_
    refine lv_iload_n hx hb dX12_copyRow_10 rfl (lv_at hl 2 rfl) ?_
    refine lv_iload_n hx hb dX12_copyRow_11 rfl (lv_at hl 4 rfl) ?_
    refine lv_imul hx hb dX12_copyRow_12 ?_
    refine tp_i 726 (by decide +kernel) ?_
    refine lv_iload hx hb dX12_copyRow_13 (lv_at hl 0 rfl) ?_
    refine lv_iadd hx hb dX12_copyRow_15 ?_
    refine lv_aload_n hx hb dX12_copyRow_16 rfl (lv_at hl 1 rfl) ?_
    refine lv_iload_n hx hb dX12_copyRow_17 rfl (lv_at hl 2 rfl) ?_
    refine lv_iload_n hx hb dX12_copyRow_18 rfl (lv_at hl 3 rfl) ?_
    refine lv_imul hx hb dX12_copyRow_19 ?_
    refine tp_i 0 (by decide +kernel) ?_
    refine lv_iload hx hb dX12_copyRow_20 (lv_at hl 0 rfl) ?_
    refine lv_iadd hx hb dX12_copyRow_22 ?_
    refine va_iald hx hb hK hP 0 0 rfl rfl (vi_o 0 (by decide +kernel) (by have hlt := lt_of (M := 242) (n := 242) (by decide +kernel) hi c_3; omega) (by decide +kernel)) dX12_copyRow_23 ?_
    refine lv_topi (fun x_4 ex_4 => ?_)
    refine va_iast hx hb hK hP hD hS 0 0 rfl rfl (vi_o 726 (by decide +kernel) (by have hlt := lt_of (M := 242) (n := 242) (by decide +kernel) hi c_3; omega) (by decide +kernel)) dX12_copyRow_24 (fun H locs hP hD hS => ?_)
    have hP : va_P D vwCl [(ra, .inl (cy 0, 968, .inl (upd f_2 (726 + (nI i_1)).toNatClampNeg x_4)))] H := hP
    have hD : va_D A [(ra, .inl (cy 0, 968, .inl (upd f_2 (726 + (nI i_1)).toNatClampNeg x_4)))] := hD
    generalize upd f_2 (726 + (nI i_1)).toNatClampNeg x_4 = f_5 at hP hD
    have hP : va_P D vwCl [(ra, .inl (cy 0, 968, .inl f_5))] H := hP
    have hD : va_D A [(ra, .inl (cy 0, 968, .inl f_5))] := hD
    refine lv_iinc (v := (nI (i_1 + 1))) (lv' := [(4, .int (nI (i_1 + 1))), (0, .ref ra), (1, .int 242), (2, .int 0), (3, .int 3)]) hx hb dX12_copyRow_25 hl (k := 0) rfl (nI_1 i_1) (by decide) rfl (fun ls hl => ?_)
    refine lv_goto (tgt := 3) hx hb dX12_copyRow_28 (by decide) ?_
    have hlt := lt_of (M := 242) (n := 242) (by decide +kernel) hi c_3
    exact ih (i_1 + 1, f_5) _ _ _ (by show 242 - (i_1 + 1) < 242 - i_1; omega) ⟨by show i_1 + 1 ≤ 242; omega, hP, hD, hS, lv_sub hl [0, 1, 2, 3, 4] rfl⟩
set_option maxHeartbeats 4000000 in
set_option maxRecDepth 100000 in
theorem c_X12_copyRow_104_1 (l : Launch) (D : va_G) (cy : Nat → ClassId) (ra : Nat) (rf : Nat → Int32) (sz : Nat)  : Met l yX12_copyRow wsX12_copyRow ({ frames := 0, cells := 0, slots := 0, locals := 0 } : Room) (va_Pc [.ref ra, .int 104, .int 0, .int 1] (PW D cy [(ra, .inl (cy 0, 416, .inl rf))] sz)) (va_Qv (fun _ : Unit => True) (fun _ t => ∃ (f_2 : Nat → Int32), va_P D vwCl [(ra, .inl (cy 0, 416, .inl f_2))] t.heap ∧ va_D (va_A [(ra, .inl (cy 0, 416, .inl rf))] sz) [(ra, .inl (cy 0, 416, .inl f_2))]) (va_A [(ra, .inl (cy 0, 416, .inl rf))] sz)) 0 0 (va_A [(ra, .inl (cy 0, 416, .inl rf))] sz) := by
  refine Met.ofW (cc := cX12_copyRow) (maxL := 5) (ret := none) (by decide) rfl ?_
  intro p e s m args below meth c s₁ B hml hv
  obtain ⟨rfl, hsz, hP, hKW, hD0⟩ := hv
  have hK := hKW.1
  have hx := B.exec
  have hb := B.bytes
  have hr := B.returns
  have hts := atoms_spec (ws := wsX12_copyRow) B.pre
  have hown : s.vm.findClass RX12 = some m.cls := findClass_of_methodNamed B.named
  have hlocks := B.notSynchronized
  subst hsz
  have hD := hD0.self (sz := s.heap.size)
  generalize hAe : va_A [(ra, .inl (cy 0, 416, .inl rf))] s.heap.size = A at hD ⊢
  have hA : ∀ q : Nat, s.heap.size ≤ q → A q := fun q h => by rw [← hAe]; exact Or.inr h
  have hS : va_S A s.heap s.heap [] := va_S.rf
  have hP : va_P D vwCl [(ra, .inl (cy 0, 416, .inl rf))] s.heap := hP
  have hl := lv_entry ([.ref ra, .int 104, .int 0, .int 1]) (n := 5) (Nat.le_of_ble_eq_true rfl)
  rw [lg_entry_eq]
  generalize (lg_sl ([.ref ra, .int 104, .int 0, .int 1]) ++ List.replicate (5 - (lg_sl ([.ref ra, .int 104, .int 0, .int 1])).length) Slot.unset).toArray = ls at hl ⊢
  have hl : lv_has ls 5 [(0, .ref ra), (1, .int 104), (2, .int 0), (3, .int 1)] := hl
  refine lv_iconst (v := 0) hx hb dX12_copyRow_0 (by decide +kernel) ?_
  refine lv_istore (lv' := [(4, .int 0), (0, .ref ra), (1, .int 104), (2, .int 0), (3, .int 1)]) hx hb dX12_copyRow_1 hl (by decide) rfl (fun ls hl => ?_)
  refine lp (X := Nat × (Nat → Int32)) (fun x => 104 - x.1) (fun x H locs ls => x.1 ≤ 104 ∧ va_P D vwCl [(ra, .inl (cy 0, 416, .inl x.2))] H ∧ va_D A [(ra, .inl (cy 0, 416, .inl x.2))] ∧ va_S A s.heap H locs ∧ lv_has ls 5 [(4, .int (nI x.1)), (0, .ref ra), (1, .int 104), (2, .int 0), (3, .int 1)]) (fun x H locs ls hI ih => ?_) (0, rf) _ _ _ ⟨Nat.zero_le _, hP, hD, hS, by rw [nI_0]; exact hl⟩
  obtain ⟨i_1, f_2⟩ := x
  obtain ⟨hi, hP, hD, hS, hl⟩ := hI
  have hi : i_1 ≤ 104 := hi
  have hP : va_P D vwCl [(ra, .inl (cy 0, 416, .inl f_2))] H := hP
  have hD : va_D A [(ra, .inl (cy 0, 416, .inl f_2))] := hD
  have hl : lv_has ls 5 [(4, .int (nI i_1)), (0, .ref ra), (1, .int 104), (2, .int 0), (3, .int 1)] := hl
  refine lv_iload hx hb dX12_copyRow_3 (lv_at hl 0 rfl) ?_
  refine lv_iload_n hx hb dX12_copyRow_5 rfl (lv_at hl 2 rfl) ?_
  refine lv_icmp_ge (tgt := 31) hx hb dX12_copyRow_6 (by decide) (fun c_3 => ?_) (fun c_3 => ?_)
  · have hP9 := hP.sub (ws' := [(ra, .inl (cy 0, 416, .inl f_2))]) [0] rfl
    have hD9 := hD.sub (ws' := [(ra, .inl (cy 0, 416, .inl f_2))]) [0] (by decide) rfl
    exact W.vret hx hb hr (fun t ht hW => ⟨⟨(), rfl, trivial, f_2, by rw [ht]; exact hP9, hD9⟩, hS.F ht⟩) hS.2.2 dX12_copyRow_31
  · refine lv_aload_n hx hb dX12_copyRow_9 rfl (lv_at hl 1 rfl) ?_
    refine lv_iload_n hx hb dX12_copyRow_10 rfl (lv_at hl 2 rfl) ?_
    refine lv_iload_n hx hb dX12_copyRow_11 rfl (lv_at hl 4 rfl) ?_
    refine lv_imul hx hb dX12_copyRow_12 ?_
    refine tp_i 104 (by decide +kernel) ?_
    refine lv_iload hx hb dX12_copyRow_13 (lv_at hl 0 rfl) ?_
    refine lv_iadd hx hb dX12_copyRow_15 ?_
    refine lv_aload_n hx hb dX12_copyRow_16 rfl (lv_at hl 1 rfl) ?_
    refine lv_iload_n hx hb dX12_copyRow_17 rfl (lv_at hl 2 rfl) ?_
    refine lv_iload_n hx hb dX12_copyRow_18 rfl (lv_at hl 3 rfl) ?_
    refine lv_imul hx hb dX12_copyRow_19 ?_
    refine tp_i 0 (by decide +kernel) ?_
    refine lv_iload hx hb dX12_copyRow_20 (lv_at hl 0 rfl) ?_
    refine lv_iadd hx hb dX12_copyRow_22 ?_
    refine va_iald hx hb hK hP 0 0 rfl rfl (vi_o 0 (by decide +kernel) (by have hlt := lt_of (M := 104) (n := 104) (by decide +kernel) hi c_3; omega) (by decide +kernel)) dX12_copyRow_23 ?_
    refine lv_topi (fun x_4 ex_4 => ?_)
    refine va_iast hx hb hK hP hD hS 0 0 rfl rfl (vi_o 104 (by decide +kernel) (by have hlt := lt_of (M := 104) (n := 104) (by decide +kernel) hi c_3; omega) (by decide +kernel)) dX12_copyRow_24 (fun H locs hP hD hS => ?_)
    have hP : va_P D vwCl [(ra, .inl (cy 0, 416, .inl (upd f_2 (104 + (nI i_1)).toNatClampNeg x_4)))] H := hP
    have hD : va_D A [(ra, .inl (cy 0, 416, .inl (upd f_2 (104 + (nI i_1)).toNatClampNeg x_4)))] := hD
    generalize upd f_2 (104 + (nI i_1)).toNatClampNeg x_4 = f_5 at hP hD
    have hP : va_P D vwCl [(ra, .inl (cy 0, 416, .inl f_5))] H := hP
    have hD : va_D A [(ra, .inl (cy 0, 416, .inl f_5))] := hD
    refine lv_iinc (v := (nI (i_1 + 1))) (lv' := [(4, .int (nI (i_1 + 1))), (0, .ref ra), (1, .int 104), (2, .int 0), (3, .int 1)]) hx hb dX12_copyRow_25 hl (k := 0) rfl (nI_1 i_1) (by decide) rfl (fun ls hl => ?_)
    refine lv_goto (tgt := 3) hx hb dX12_copyRow_28 (by decide) ?_
    have hlt := lt_of (M := 104) (n := 104) (by decide +kernel) hi c_3
    exact ih (i_1 + 1, f_5) _ _ _ (by show 104 - (i_1 + 1) < 104 - i_1; omega) ⟨by show i_1 + 1 ≤ 104; omega, hP, hD, hS, lv_sub hl [0, 1, 2, 3, 4] rfl⟩
set_option maxHeartbeats 4000000 in
set_option maxRecDepth 100000 in
theorem c_X12_copyRow_104_2 (l : Launch) (D : va_G) (cy : Nat → ClassId) (ra : Nat) (rf : Nat → Int32) (sz : Nat)  : Met l yX12_copyRow wsX12_copyRow ({ frames := 0, cells := 0, slots := 0, locals := 0 } : Room) (va_Pc [.ref ra, .int 104, .int 0, .int 2] (PW D cy [(ra, .inl (cy 0, 416, .inl rf))] sz)) (va_Qv (fun _ : Unit => True) (fun _ t => ∃ (f_2 : Nat → Int32), va_P D vwCl [(ra, .inl (cy 0, 416, .inl f_2))] t.heap ∧ va_D (va_A [(ra, .inl (cy 0, 416, .inl rf))] sz) [(ra, .inl (cy 0, 416, .inl f_2))]) (va_A [(ra, .inl (cy 0, 416, .inl rf))] sz)) 0 0 (va_A [(ra, .inl (cy 0, 416, .inl rf))] sz) := by
  refine Met.ofW (cc := cX12_copyRow) (maxL := 5) (ret := none) (by decide) rfl ?_
  intro p e s m args below meth c s₁ B hml hv
  obtain ⟨rfl, hsz, hP, hKW, hD0⟩ := hv
  have hK := hKW.1
  have hx := B.exec
  have hb := B.bytes
  have hr := B.returns
  have hts := atoms_spec (ws := wsX12_copyRow) B.pre
  have hown : s.vm.findClass RX12 = some m.cls := findClass_of_methodNamed B.named
  have hlocks := B.notSynchronized
  subst hsz
  have hD := hD0.self (sz := s.heap.size)
  generalize hAe : va_A [(ra, .inl (cy 0, 416, .inl rf))] s.heap.size = A at hD ⊢
  have hA : ∀ q : Nat, s.heap.size ≤ q → A q := fun q h => by rw [← hAe]; exact Or.inr h
  have hS : va_S A s.heap s.heap [] := va_S.rf
  have hP : va_P D vwCl [(ra, .inl (cy 0, 416, .inl rf))] s.heap := hP
  have hl := lv_entry ([.ref ra, .int 104, .int 0, .int 2]) (n := 5) (Nat.le_of_ble_eq_true rfl)
  rw [lg_entry_eq]
  generalize (lg_sl ([.ref ra, .int 104, .int 0, .int 2]) ++ List.replicate (5 - (lg_sl ([.ref ra, .int 104, .int 0, .int 2])).length) Slot.unset).toArray = ls at hl ⊢
  have hl : lv_has ls 5 [(0, .ref ra), (1, .int 104), (2, .int 0), (3, .int 2)] := hl
  refine lv_iconst (v := 0) hx hb dX12_copyRow_0 (by decide +kernel) ?_
  refine lv_istore (lv' := [(4, .int 0), (0, .ref ra), (1, .int 104), (2, .int 0), (3, .int 2)]) hx hb dX12_copyRow_1 hl (by decide) rfl (fun ls hl => ?_)
  refine lp (X := Nat × (Nat → Int32)) (fun x => 104 - x.1) (fun x H locs ls => x.1 ≤ 104 ∧ va_P D vwCl [(ra, .inl (cy 0, 416, .inl x.2))] H ∧ va_D A [(ra, .inl (cy 0, 416, .inl x.2))] ∧ va_S A s.heap H locs ∧ lv_has ls 5 [(4, .int (nI x.1)), (0, .ref ra), (1, .int 104), (2, .int 0), (3, .int 2)]) (fun x H locs ls hI ih => ?_) (0, rf) _ _ _ ⟨Nat.zero_le _, hP, hD, hS, by rw [nI_0]; exact hl⟩
  obtain ⟨i_1, f_2⟩ := x
  obtain ⟨hi, hP, hD, hS, hl⟩ := hI
  have hi : i_1 ≤ 104 := hi
  have hP : va_P D vwCl [(ra, .inl (cy 0, 416, .inl f_2))] H := hP
  have hD : va_D A [(ra, .inl (cy 0, 416, .inl f_2))] := hD
  have hl : lv_has ls 5 [(4, .int (nI i_1)), (0, .ref ra), (1, .int 104), (2, .int 0), (3, .int 2)] := hl
  refine lv_iload hx hb dX12_copyRow_3 (lv_at hl 0 rfl) ?_
  refine lv_iload_n hx hb dX12_copyRow_5 rfl (lv_at hl 2 rfl) ?_
  refine lv_icmp_ge (tgt := 31) hx hb dX12_copyRow_6 (by decide) (fun c_3 => ?_) (fun c_3 => ?_)
  · have hP9 := hP.sub (ws' := [(ra, .inl (cy 0, 416, .inl f_2))]) [0] rfl
    have hD9 := hD.sub (ws' := [(ra, .inl (cy 0, 416, .inl f_2))]) [0] (by decide) rfl
    exact W.vret hx hb hr (fun t ht hW => ⟨⟨(), rfl, trivial, f_2, by rw [ht]; exact hP9, hD9⟩, hS.F ht⟩) hS.2.2 dX12_copyRow_31
  · refine lv_aload_n hx hb dX12_copyRow_9 rfl (lv_at hl 1 rfl) ?_
    refine lv_iload_n hx hb dX12_copyRow_10 rfl (lv_at hl 2 rfl) ?_
    refine lv_iload_n hx hb dX12_copyRow_11 rfl (lv_at hl 4 rfl) ?_
    refine lv_imul hx hb dX12_copyRow_12 ?_
    refine tp_i 208 (by decide +kernel) ?_
    refine lv_iload hx hb dX12_copyRow_13 (lv_at hl 0 rfl) ?_
    refine lv_iadd hx hb dX12_copyRow_15 ?_
    refine lv_aload_n hx hb dX12_copyRow_16 rfl (lv_at hl 1 rfl) ?_
    refine lv_iload_n hx hb dX12_copyRow_17 rfl (lv_at hl 2 rfl) ?_
    refine lv_iload_n hx hb dX12_copyRow_18 rfl (lv_at hl 3 rfl) ?_
    refine lv_imul hx hb dX12_copyRow_19 ?_
    refine tp_i 0 (by decide +kernel) ?_
    refine lv_iload hx hb dX12_copyRow_20 (lv_at hl 0 rfl) ?_
    refine lv_iadd hx hb dX12_copyRow_22 ?_
    refine va_iald hx hb hK hP 0 0 rfl rfl (vi_o 0 (by decide +kernel) (by have hlt := lt_of (M := 104) (n := 104) (by decide +kernel) hi c_3; omega) (by decide +kernel)) dX12_copyRow_23 ?_
    refine lv_topi (fun x_4 ex_4 => ?_)
    refine va_iast hx hb hK hP hD hS 0 0 rfl rfl (vi_o 208 (by decide +kernel) (by have hlt := lt_of (M := 104) (n := 104) (by decide +kernel) hi c_3; omega) (by decide +kernel)) dX12_copyRow_24 (fun H locs hP hD hS => ?_)
    have hP : va_P D vwCl [(ra, .inl (cy 0, 416, .inl (upd f_2 (208 + (nI i_1)).toNatClampNeg x_4)))] H := hP
    have hD : va_D A [(ra, .inl (cy 0, 416, .inl (upd f_2 (208 + (nI i_1)).toNatClampNeg x_4)))] := hD
    generalize upd f_2 (208 + (nI i_1)).toNatClampNeg x_4 = f_5 at hP hD
    have hP : va_P D vwCl [(ra, .inl (cy 0, 416, .inl f_5))] H := hP
    have hD : va_D A [(ra, .inl (cy 0, 416, .inl f_5))] := hD
    refine lv_iinc (v := (nI (i_1 + 1))) (lv' := [(4, .int (nI (i_1 + 1))), (0, .ref ra), (1, .int 104), (2, .int 0), (3, .int 2)]) hx hb dX12_copyRow_25 hl (k := 0) rfl (nI_1 i_1) (by decide) rfl (fun ls hl => ?_)
    refine lv_goto (tgt := 3) hx hb dX12_copyRow_28 (by decide) ?_
    have hlt := lt_of (M := 104) (n := 104) (by decide +kernel) hi c_3
    exact ih (i_1 + 1, f_5) _ _ _ (by show 104 - (i_1 + 1) < 104 - i_1; omega) ⟨by show i_1 + 1 ≤ 104; omega, hP, hD, hS, lv_sub hl [0, 1, 2, 3, 4] rfl⟩
set_option maxHeartbeats 4000000 in
set_option maxRecDepth 100000 in
theorem c_X12_copyRow_104_3 (l : Launch) (D : va_G) (cy : Nat → ClassId) (ra : Nat) (rf : Nat → Int32) (sz : Nat)  : Met l yX12_copyRow wsX12_copyRow ({ frames := 0, cells := 0, slots := 0, locals := 0 } : Room) (va_Pc [.ref ra, .int 104, .int 0, .int 3] (PW D cy [(ra, .inl (cy 0, 416, .inl rf))] sz)) (va_Qv (fun _ : Unit => True) (fun _ t => ∃ (f_2 : Nat → Int32), va_P D vwCl [(ra, .inl (cy 0, 416, .inl f_2))] t.heap ∧ va_D (va_A [(ra, .inl (cy 0, 416, .inl rf))] sz) [(ra, .inl (cy 0, 416, .inl f_2))]) (va_A [(ra, .inl (cy 0, 416, .inl rf))] sz)) 0 0 (va_A [(ra, .inl (cy 0, 416, .inl rf))] sz) := by
  refine Met.ofW (cc := cX12_copyRow) (maxL := 5) (ret := none) (by decide) rfl ?_
  intro p e s m args below meth c s₁ B hml hv
  obtain ⟨rfl, hsz, hP, hKW, hD0⟩ := hv
  have hK := hKW.1
  have hx := B.exec
  have hb := B.bytes
  have hr := B.returns
  have hts := atoms_spec (ws := wsX12_copyRow) B.pre
  have hown : s.vm.findClass RX12 = some m.cls := findClass_of_methodNamed B.named
  have hlocks := B.notSynchronized
  subst hsz
  have hD := hD0.self (sz := s.heap.size)
  generalize hAe : va_A [(ra, .inl (cy 0, 416, .inl rf))] s.heap.size = A at hD ⊢
  have hA : ∀ q : Nat, s.heap.size ≤ q → A q := fun q h => by rw [← hAe]; exact Or.inr h
  have hS : va_S A s.heap s.heap [] := va_S.rf
  have hP : va_P D vwCl [(ra, .inl (cy 0, 416, .inl rf))] s.heap := hP
  have hl := lv_entry ([.ref ra, .int 104, .int 0, .int 3]) (n := 5) (Nat.le_of_ble_eq_true rfl)
  rw [lg_entry_eq]
  generalize (lg_sl ([.ref ra, .int 104, .int 0, .int 3]) ++ List.replicate (5 - (lg_sl ([.ref ra, .int 104, .int 0, .int 3])).length) Slot.unset).toArray = ls at hl ⊢
  have hl : lv_has ls 5 [(0, .ref ra), (1, .int 104), (2, .int 0), (3, .int 3)] := hl
  refine lv_iconst (v := 0) hx hb dX12_copyRow_0 (by decide +kernel) ?_
  refine lv_istore (lv' := [(4, .int 0), (0, .ref ra), (1, .int 104), (2, .int 0), (3, .int 3)]) hx hb dX12_copyRow_1 hl (by decide) rfl (fun ls hl => ?_)
  refine lp (X := Nat × (Nat → Int32)) (fun x => 104 - x.1) (fun x H locs ls => x.1 ≤ 104 ∧ va_P D vwCl [(ra, .inl (cy 0, 416, .inl x.2))] H ∧ va_D A [(ra, .inl (cy 0, 416, .inl x.2))] ∧ va_S A s.heap H locs ∧ lv_has ls 5 [(4, .int (nI x.1)), (0, .ref ra), (1, .int 104), (2, .int 0), (3, .int 3)]) (fun x H locs ls hI ih => ?_) (0, rf) _ _ _ ⟨Nat.zero_le _, hP, hD, hS, by rw [nI_0]; exact hl⟩
  obtain ⟨i_1, f_2⟩ := x
  obtain ⟨hi, hP, hD, hS, hl⟩ := hI
  have hi : i_1 ≤ 104 := hi
  have hP : va_P D vwCl [(ra, .inl (cy 0, 416, .inl f_2))] H := hP
  have hD : va_D A [(ra, .inl (cy 0, 416, .inl f_2))] := hD
  have hl : lv_has ls 5 [(4, .int (nI i_1)), (0, .ref ra), (1, .int 104), (2, .int 0), (3, .int 3)] := hl
  refine lv_iload hx hb dX12_copyRow_3 (lv_at hl 0 rfl) ?_
  refine lv_iload_n hx hb dX12_copyRow_5 rfl (lv_at hl 2 rfl) ?_
  refine lv_icmp_ge (tgt := 31) hx hb dX12_copyRow_6 (by decide) (fun c_3 => ?_) (fun c_3 => ?_)
  · have hP9 := hP.sub (ws' := [(ra, .inl (cy 0, 416, .inl f_2))]) [0] rfl
    have hD9 := hD.sub (ws' := [(ra, .inl (cy 0, 416, .inl f_2))]) [0] (by decide) rfl
    exact W.vret hx hb hr (fun t ht hW => ⟨⟨(), rfl, trivial, f_2, by rw [ht]; exact hP9, hD9⟩, hS.F ht⟩) hS.2.2 dX12_copyRow_31
  · refine lv_aload_n hx hb dX12_copyRow_9 rfl (lv_at hl 1 rfl) ?_
    refine lv_iload_n hx hb dX12_copyRow_10 rfl (lv_at hl 2 rfl) ?_
    refine lv_iload_n hx hb dX12_copyRow_11 rfl (lv_at hl 4 rfl) ?_
    refine lv_imul hx hb dX12_copyRow_12 ?_
    refine tp_i 312 (by decide +kernel) ?_
    refine lv_iload hx hb dX12_copyRow_13 (lv_at hl 0 rfl) ?_
    refine lv_iadd hx hb dX12_copyRow_15 ?_
    refine lv_aload_n hx hb dX12_copyRow_16 rfl (lv_at hl 1 rfl) ?_
    refine lv_iload_n hx hb dX12_copyRow_17 rfl (lv_at hl 2 rfl) ?_
    refine lv_iload_n hx hb dX12_copyRow_18 rfl (lv_at hl 3 rfl) ?_
    refine lv_imul hx hb dX12_copyRow_19 ?_
    refine tp_i 0 (by decide +kernel) ?_
    refine lv_iload hx hb dX12_copyRow_20 (lv_at hl 0 rfl) ?_
    refine lv_iadd hx hb dX12_copyRow_22 ?_
    refine va_iald hx hb hK hP 0 0 rfl rfl (vi_o 0 (by decide +kernel) (by have hlt := lt_of (M := 104) (n := 104) (by decide +kernel) hi c_3; omega) (by decide +kernel)) dX12_copyRow_23 ?_
    refine lv_topi (fun x_4 ex_4 => ?_)
    refine va_iast hx hb hK hP hD hS 0 0 rfl rfl (vi_o 312 (by decide +kernel) (by have hlt := lt_of (M := 104) (n := 104) (by decide +kernel) hi c_3; omega) (by decide +kernel)) dX12_copyRow_24 (fun H locs hP hD hS => ?_)
    have hP : va_P D vwCl [(ra, .inl (cy 0, 416, .inl (upd f_2 (312 + (nI i_1)).toNatClampNeg x_4)))] H := hP
    have hD : va_D A [(ra, .inl (cy 0, 416, .inl (upd f_2 (312 + (nI i_1)).toNatClampNeg x_4)))] := hD
    generalize upd f_2 (312 + (nI i_1)).toNatClampNeg x_4 = f_5 at hP hD
    have hP : va_P D vwCl [(ra, .inl (cy 0, 416, .inl f_5))] H := hP
    have hD : va_D A [(ra, .inl (cy 0, 416, .inl f_5))] := hD
    refine lv_iinc (v := (nI (i_1 + 1))) (lv' := [(4, .int (nI (i_1 + 1))), (0, .ref ra), (1, .int 104), (2, .int 0), (3, .int 3)]) hx hb dX12_copyRow_25 hl (k := 0) rfl (nI_1 i_1) (by decide) rfl (fun ls hl => ?_)
    refine lv_goto (tgt := 3) hx hb dX12_copyRow_28 (by decide) ?_
    have hlt := lt_of (M := 104) (n := 104) (by decide +kernel) hi c_3
    exact ih (i_1 + 1, f_5) _ _ _ (by show 104 - (i_1 + 1) < 104 - i_1; omega) ⟨by show i_1 + 1 ≤ 104; omega, hP, hD, hS, lv_sub hl [0, 1, 2, 3, 4] rfl⟩
