theorem nf_good {s a : Int32} (h : ¬ inn s 0 2 = 0) (ha : a = -1) : ¬ nf s a = -2 := by
  unfold nf
  rw [if_neg (inn_in h).1, if_pos (lt3.mpr (inn_in h).2), if_pos ha]
  decide
theorem i3_bad {v : Int32} (h : inn v 0 2 = 0) : i3 v = 0 := by
  unfold i3
  rcases inn_out h with q | q
  · rw [if_pos q]
  · by_cases h1 : v < 0
    · rw [if_pos h1]
    · rw [if_neg h1, if_neg (fun g => lt3.mp g q)]
theorem inn_012 {v : Int32} (h : ¬ inn v 0 2 = 0) : v = 0 ∨ v = 1 ∨ v = 2 := by
  obtain ⟨j, hj, e⟩ := nI_of2 (M := 2) (n := 2) (by decide) (inn_in h).1 (Int32.not_lt.mp (inn_in h).2)
  rcases (show j = 0 ∨ j = 1 ∨ j = 2 by omega) with r | r | r <;> subst r <;> rw [e]
  · exact Or.inl (by decide)
  · exact Or.inr (Or.inl (by decide))
  · exact Or.inr (Or.inr (by decide))
theorem nf_split {s a : Int32} (h : ¬ nf s a = -2) : ¬ inn s 0 2 = 0 ∧ a = -1 := by
  unfold nf at h
  by_cases h1 : s < 0
  · rw [if_pos h1] at h
    exact absurd rfl h
  · rw [if_neg h1] at h
    by_cases h2 : s < 3
    · rw [if_pos h2] at h
      by_cases h3 : a = -1
      · refine ⟨fun g => ?_, h3⟩
        rcases inn_out g with q | q
        · exact h1 q
        · exact lt3.mp h2 q
      · rw [if_neg h3] at h
        exact absurd rfl h
    · rw [if_neg h2] at h
      exact absurd rfl h
theorem dX12_text_72 : decode cX12_text 72 = .ok (.bipush (-2), 2) := by decide +kernel
theorem dX12_text_74 : decode cX12_text 74 = .ok (.ireturn, 1) := by decide +kernel
theorem dX12_text_63 : decode cX12_text 63 = .ok (.aload_n 0, 1) := by decide +kernel
theorem dX12_text_64 : decode cX12_text 64 = .ok (.iload_n 1, 1) := by decide +kernel
theorem dX12_text_65 : decode cX12_text 65 = .ok (.iload_n 2, 1) := by decide +kernel
theorem dX12_text_66 : decode cX12_text 66 = .ok (.invokevirtual 272, 3) := by decide +kernel
set_option maxRecDepth 20000 in
theorem ggX12_text_X12_is : GoodIn wsX12_text wsX12_is := goodIn_r _ [17, 6, 10, 11, 12, 13, 129, 130, 131, 132, 133, 134, 135, 136, 137, 138, 139, 140, 141, 142, 143, 144, 145, 146, 147, 148, 149, 150, 151, 152, 153, 154, 155, 156, 157, 158, 159, 160, 161, 162, 163, 164, 165, 166, 167, 168, 169, 170, 171, 172, 173, 174, 175, 176, 177, 178, 179, 180, 181, 182, 183, 184, 185, 186, 187, 188, 189, 190, 191, 192] (by decide +kernel) (by decide +kernel)
set_option maxRecDepth 20000 in
theorem gX12_text_X12_is : GoodIn wsX12_text (wsV RX12 272 RX12 yX12_is wsX12_is) := goodIn_app (goodIn_of _ (by decide +kernel)) ggX12_text_X12_is
theorem dX12_text_69 : decode cX12_text 69 = .ok (.ifCond .ne 6, 3) := by decide +kernel
set_option maxHeartbeats 4000000 in
set_option maxRecDepth 100000 in
theorem c_X12_text_x (l : Launch) (D : va_G) (cy : Nat → ClassId) (m0 : Nat) (m1 : Nat) (m2 : Nat) (m3 : Nat) (m4 : Nat) (m5 : Nat) (m6 : Nat) (m7 : Nat) (m8 : Nat) (m18 : Nat) (m19 : Nat) (m30 : Nat) (m31 : Nat) (m32 : Nat) (m36 : Nat) (m37 : Nat) (m38 : Nat) (m39 : Nat) (m40 : Nat) (m41 : Nat) (m42 : Nat) (m43 : Nat) (m44 : Nat) (m45 : Nat) (m46 : Nat) (m47 : Nat) (m48 : Nat) (m52 : Nat) (m53 : Nat) (m54 : Nat) (m58 : Nat) (m59 : Nat) (m60 : Nat) (m61 : Nat) (m62 : Nat) (m63 : Nat) (p0 : Int32) (p1 : Int32) (sz : Nat) (hbad : nf p0 p1 = -2) : Met l yX12_text wsX12_text ({ frames := 2, cells := 0, slots := 0, locals := 44 } : Room) (va_Pc [.ref m0, .int p0, .int p1] (PW D cy [(m0, .inr (12, [.int 0, .ref m1, .ref m2, .ref m3, .ref m4, .ref m5, .ref m6, .ref m7, .ref m8, .int 0, .int 0, .int 0, .int 0, .int 0, .long 0, .int 0, .int 0, .int 0, .ref m18, .ref m19, .int 0, .int 0, .int 0, .int 0, .int 0, .int 0, .int 0, .int 0, .int 0, .int 0, .ref m30, .ref m31, .ref m32, .int 0, .int 0, .int 0, .ref m36, .ref m37, .ref m38, .ref m39, .ref m40, .ref m41, .ref m42, .ref m43, .ref m44, .ref m45, .ref m46, .ref m47, .ref m48, .int 0, .int 0, .int 0, .ref m52, .ref m53, .ref m54, .int 0, .int 0, .int 0, .ref m58, .ref m59, .ref m60, .ref m61, .ref m62, .ref m63])), (m2, .inl (cy 0, 4, .inl (fun _ => 0))), (m3, .inl (cy 0, 4, .inl (fun _ => 0))), (m4, .inl (cy 0, 4, .inl (upd (fun _ => 0) 0 (-1)))), (m5, .inl (cy 0, 12, .inl (fun _ => 0)))] sz)) (va_Qi (fun (r : Int32) (_ : Unit) => r = -2) (fun _ t => va_P D vwCl [] t.heap ∧ va_D (va_A [(m0, .inr (12, [.int 0, .ref m1, .ref m2, .ref m3, .ref m4, .ref m5, .ref m6, .ref m7, .ref m8, .int 0, .int 0, .int 0, .int 0, .int 0, .long 0, .int 0, .int 0, .int 0, .ref m18, .ref m19, .int 0, .int 0, .int 0, .int 0, .int 0, .int 0, .int 0, .int 0, .int 0, .int 0, .ref m30, .ref m31, .ref m32, .int 0, .int 0, .int 0, .ref m36, .ref m37, .ref m38, .ref m39, .ref m40, .ref m41, .ref m42, .ref m43, .ref m44, .ref m45, .ref m46, .ref m47, .ref m48, .int 0, .int 0, .int 0, .ref m52, .ref m53, .ref m54, .int 0, .int 0, .int 0, .ref m58, .ref m59, .ref m60, .ref m61, .ref m62, .ref m63])), (m2, .inl (cy 0, 4, .inl (fun _ => 0))), (m3, .inl (cy 0, 4, .inl (fun _ => 0))), (m4, .inl (cy 0, 4, .inl (upd (fun _ => 0) 0 (-1)))), (m5, .inl (cy 0, 12, .inl (fun _ => 0)))] sz) []) (va_A [(m0, .inr (12, [.int 0, .ref m1, .ref m2, .ref m3, .ref m4, .ref m5, .ref m6, .ref m7, .ref m8, .int 0, .int 0, .int 0, .int 0, .int 0, .long 0, .int 0, .int 0, .int 0, .ref m18, .ref m19, .int 0, .int 0, .int 0, .int 0, .int 0, .int 0, .int 0, .int 0, .int 0, .int 0, .ref m30, .ref m31, .ref m32, .int 0, .int 0, .int 0, .ref m36, .ref m37, .ref m38, .ref m39, .ref m40, .ref m41, .ref m42, .ref m43, .ref m44, .ref m45, .ref m46, .ref m47, .ref m48, .int 0, .int 0, .int 0, .ref m52, .ref m53, .ref m54, .int 0, .int 0, .int 0, .ref m58, .ref m59, .ref m60, .ref m61, .ref m62, .ref m63])), (m2, .inl (cy 0, 4, .inl (fun _ => 0))), (m3, .inl (cy 0, 4, .inl (fun _ => 0))), (m4, .inl (cy 0, 4, .inl (upd (fun _ => 0) 0 (-1)))), (m5, .inl (cy 0, 12, .inl (fun _ => 0)))] sz)) 0 0 (va_A [(m0, .inr (12, [.int 0, .ref m1, .ref m2, .ref m3, .ref m4, .ref m5, .ref m6, .ref m7, .ref m8, .int 0, .int 0, .int 0, .int 0, .int 0, .long 0, .int 0, .int 0, .int 0, .ref m18, .ref m19, .int 0, .int 0, .int 0, .int 0, .int 0, .int 0, .int 0, .int 0, .int 0, .int 0, .ref m30, .ref m31, .ref m32, .int 0, .int 0, .int 0, .ref m36, .ref m37, .ref m38, .ref m39, .ref m40, .ref m41, .ref m42, .ref m43, .ref m44, .ref m45, .ref m46, .ref m47, .ref m48, .int 0, .int 0, .int 0, .ref m52, .ref m53, .ref m54, .int 0, .int 0, .int 0, .ref m58, .ref m59, .ref m60, .ref m61, .ref m62, .ref m63])), (m2, .inl (cy 0, 4, .inl (fun _ => 0))), (m3, .inl (cy 0, 4, .inl (fun _ => 0))), (m4, .inl (cy 0, 4, .inl (upd (fun _ => 0) 0 (-1)))), (m5, .inl (cy 0, 12, .inl (fun _ => 0)))] sz) := by
  refine Met.ofW (cc := cX12_text) (maxL := 4) (ret := (some .int)) (by decide) rfl ?_
  intro p e s m args below meth c s₁ B hml hv
  obtain ⟨rfl, hsz, hP, hKW, hD0⟩ := hv
  have hK := hKW.1
  have hx := B.exec
  have hb := B.bytes
  have hr := B.returns
  have hts := atoms_spec (ws := wsX12_text) B.pre
  have hown : s.vm.findClass RX12 = some m.cls := findClass_of_methodNamed B.named
  have hlocks := B.notSynchronized
  have in_12 : ∀ w ∈ u_ws RX12 TX12 64, w ∈ wsX12_text := by decide +kernel
  have fl_117 := hts (.fieldLink RX12 117 "ShoalClaimsModel" "code" "I") (by decide +kernel)
  have fl_13 := hts (.fieldLink RX12 13 "ShoalClaimsModel" "size" "[I") (by decide +kernel)
  have fl_140 := hts (.fieldLink RX12 140 "ShoalClaimsModel" "length" "I") (by decide +kernel)
  have fl_17 := hts (.fieldLink RX12 17 "ShoalClaimsModel" "fault" "[I") (by decide +kernel)
  have fl_20 := hts (.fieldLink RX12 20 "ShoalClaimsModel" "faultPlace" "[I") (by decide +kernel)
  subst hsz
  have hD := hD0.self (sz := s.heap.size)
  generalize hAe : va_A [(m0, .inr (12, [.int 0, .ref m1, .ref m2, .ref m3, .ref m4, .ref m5, .ref m6, .ref m7, .ref m8, .int 0, .int 0, .int 0, .int 0, .int 0, .long 0, .int 0, .int 0, .int 0, .ref m18, .ref m19, .int 0, .int 0, .int 0, .int 0, .int 0, .int 0, .int 0, .int 0, .int 0, .int 0, .ref m30, .ref m31, .ref m32, .int 0, .int 0, .int 0, .ref m36, .ref m37, .ref m38, .ref m39, .ref m40, .ref m41, .ref m42, .ref m43, .ref m44, .ref m45, .ref m46, .ref m47, .ref m48, .int 0, .int 0, .int 0, .ref m52, .ref m53, .ref m54, .int 0, .int 0, .int 0, .ref m58, .ref m59, .ref m60, .ref m61, .ref m62, .ref m63])), (m2, .inl (cy 0, 4, .inl (fun _ => 0))), (m3, .inl (cy 0, 4, .inl (fun _ => 0))), (m4, .inl (cy 0, 4, .inl (upd (fun _ => 0) 0 (-1)))), (m5, .inl (cy 0, 12, .inl (fun _ => 0)))] s.heap.size = A at hD ⊢
  have hA : ∀ q : Nat, s.heap.size ≤ q → A q := fun q h => by rw [← hAe]; exact Or.inr h
  have hS : va_S A s.heap s.heap [] := va_S.rf
  have hP : va_P D vwCl [(m0, .inr (12, [.int 0, .ref m1, .ref m2, .ref m3, .ref m4, .ref m5, .ref m6, .ref m7, .ref m8, .int 0, .int 0, .int 0, .int 0, .int 0, .long 0, .int 0, .int 0, .int 0, .ref m18, .ref m19, .int 0, .int 0, .int 0, .int 0, .int 0, .int 0, .int 0, .int 0, .int 0, .int 0, .ref m30, .ref m31, .ref m32, .int 0, .int 0, .int 0, .ref m36, .ref m37, .ref m38, .ref m39, .ref m40, .ref m41, .ref m42, .ref m43, .ref m44, .ref m45, .ref m46, .ref m47, .ref m48, .int 0, .int 0, .int 0, .ref m52, .ref m53, .ref m54, .int 0, .int 0, .int 0, .ref m58, .ref m59, .ref m60, .ref m61, .ref m62, .ref m63])), (m2, .inl (cy 0, 4, .inl (fun _ => 0))), (m3, .inl (cy 0, 4, .inl (fun _ => 0))), (m4, .inl (cy 0, 4, .inl (upd (fun _ => 0) 0 (-1)))), (m5, .inl (cy 0, 12, .inl (fun _ => 0)))] s.heap := hP
  have hl := lv_entry ([.ref m0, .int p0, .int p1]) (n := 4) (Nat.le_of_ble_eq_true rfl)
  rw [lg_entry_eq]
  generalize (lg_sl ([.ref m0, .int p0, .int p1]) ++ List.replicate (4 - (lg_sl ([.ref m0, .int p0, .int p1])).length) Slot.unset).toArray = ls at hl ⊢
  have hl : lv_has ls 4 [(0, .ref m0), (1, .int p0), (2, .int p1)] := hl
  refine lv_aload_n hx hb dX12_text_0 rfl (lv_at hl 0 rfl) ?_
  refine lv_iconst (v := 0) hx hb dX12_text_1 (by decide +kernel) ?_
  refine va_put (D := D) (ci := 12) (v := .int 0) (ty := .int) (C := RX12) (T := TX12) (N := 64) hx hb hts in_12 tyX12 tyX12_ok nmX12 hown hK hP hD hS 0 rfl rfl 0 (by decide) fl_117 (fun _ h9 => h9) rfl (by decide +kernel) rfl rfl (Nat.le_of_ble_eq_true rfl) dX12_text_2 (fun H locs hP hD hS => ?_)
  have hP : va_P D vwCl [(m0, .inr (12, [.int 0, .ref m1, .ref m2, .ref m3, .ref m4, .ref m5, .ref m6, .ref m7, .ref m8, .int 0, .int 0, .int 0, .int 0, .int 0, .long 0, .int 0, .int 0, .int 0, .ref m18, .ref m19, .int 0, .int 0, .int 0, .int 0, .int 0, .int 0, .int 0, .int 0, .int 0, .int 0, .ref m30, .ref m31, .ref m32, .int 0, .int 0, .int 0, .ref m36, .ref m37, .ref m38, .ref m39, .ref m40, .ref m41, .ref m42, .ref m43, .ref m44, .ref m45, .ref m46, .ref m47, .ref m48, .int 0, .int 0, .int 0, .ref m52, .ref m53, .ref m54, .int 0, .int 0, .int 0, .ref m58, .ref m59, .ref m60, .ref m61, .ref m62, .ref m63])), (m2, .inl (cy 0, 4, .inl (fun _ => 0))), (m3, .inl (cy 0, 4, .inl (fun _ => 0))), (m4, .inl (cy 0, 4, .inl (upd (fun _ => 0) 0 (-1)))), (m5, .inl (cy 0, 12, .inl (fun _ => 0)))] H := hP
  have hD : va_D A [(m0, .inr (12, [.int 0, .ref m1, .ref m2, .ref m3, .ref m4, .ref m5, .ref m6, .ref m7, .ref m8, .int 0, .int 0, .int 0, .int 0, .int 0, .long 0, .int 0, .int 0, .int 0, .ref m18, .ref m19, .int 0, .int 0, .int 0, .int 0, .int 0, .int 0, .int 0, .int 0, .int 0, .int 0, .ref m30, .ref m31, .ref m32, .int 0, .int 0, .int 0, .ref m36, .ref m37, .ref m38, .ref m39, .ref m40, .ref m41, .ref m42, .ref m43, .ref m44, .ref m45, .ref m46, .ref m47, .ref m48, .int 0, .int 0, .int 0, .ref m52, .ref m53, .ref m54, .int 0, .int 0, .int 0, .ref m58, .ref m59, .ref m60, .ref m61, .ref m62, .ref m63])), (m2, .inl (cy 0, 4, .inl (fun _ => 0))), (m3, .inl (cy 0, 4, .inl (fun _ => 0))), (m4, .inl (cy 0, 4, .inl (upd (fun _ => 0) 0 (-1)))), (m5, .inl (cy 0, 12, .inl (fun _ => 0)))] := hD
  refine lv_aload_n hx hb dX12_text_5 rfl (lv_at hl 0 rfl) ?_
  refine lv_aload_n hx hb dX12_text_6 rfl (lv_at hl 0 rfl) ?_
  refine va_get (D := D) (ci := 12) (v := .ref m2) (C := RX12) (T := TX12) (N := 64) hx hb hts in_12 hown hK hP 0 rfl rfl 2 (by decide) fl_13 (fun _ h9 => h9) rfl dX12_text_7 ?_
  refine lv_iconst (v := 0) hx hb dX12_text_10 (by decide +kernel) ?_
  refine va_iald hx hb hK hP 1 0 rfl rfl (vi_c (by decide +kernel)) dX12_text_11 ?_
  refine tp_i 0 rfl ?_
  refine va_put (D := D) (ci := 12) (v := .int 0) (ty := .int) (C := RX12) (T := TX12) (N := 64) hx hb hts in_12 tyX12 tyX12_ok nmX12 hown hK hP hD hS 0 rfl rfl 10 (by decide) fl_140 (fun _ h9 => h9) rfl (by decide +kernel) rfl rfl (Nat.le_of_ble_eq_true rfl) dX12_text_12 (fun H locs hP hD hS => ?_)
  have hP : va_P D vwCl [(m0, .inr (12, [.int 0, .ref m1, .ref m2, .ref m3, .ref m4, .ref m5, .ref m6, .ref m7, .ref m8, .int 0, .int 0, .int 0, .int 0, .int 0, .long 0, .int 0, .int 0, .int 0, .ref m18, .ref m19, .int 0, .int 0, .int 0, .int 0, .int 0, .int 0, .int 0, .int 0, .int 0, .int 0, .ref m30, .ref m31, .ref m32, .int 0, .int 0, .int 0, .ref m36, .ref m37, .ref m38, .ref m39, .ref m40, .ref m41, .ref m42, .ref m43, .ref m44, .ref m45, .ref m46, .ref m47, .ref m48, .int 0, .int 0, .int 0, .ref m52, .ref m53, .ref m54, .int 0, .int 0, .int 0, .ref m58, .ref m59, .ref m60, .ref m61, .ref m62, .ref m63])), (m2, .inl (cy 0, 4, .inl (fun _ => 0))), (m3, .inl (cy 0, 4, .inl (fun _ => 0))), (m4, .inl (cy 0, 4, .inl (upd (fun _ => 0) 0 (-1)))), (m5, .inl (cy 0, 12, .inl (fun _ => 0)))] H := hP
  have hD : va_D A [(m0, .inr (12, [.int 0, .ref m1, .ref m2, .ref m3, .ref m4, .ref m5, .ref m6, .ref m7, .ref m8, .int 0, .int 0, .int 0, .int 0, .int 0, .long 0, .int 0, .int 0, .int 0, .ref m18, .ref m19, .int 0, .int 0, .int 0, .int 0, .int 0, .int 0, .int 0, .int 0, .int 0, .int 0, .ref m30, .ref m31, .ref m32, .int 0, .int 0, .int 0, .ref m36, .ref m37, .ref m38, .ref m39, .ref m40, .ref m41, .ref m42, .ref m43, .ref m44, .ref m45, .ref m46, .ref m47, .ref m48, .int 0, .int 0, .int 0, .ref m52, .ref m53, .ref m54, .int 0, .int 0, .int 0, .ref m58, .ref m59, .ref m60, .ref m61, .ref m62, .ref m63])), (m2, .inl (cy 0, 4, .inl (fun _ => 0))), (m3, .inl (cy 0, 4, .inl (fun _ => 0))), (m4, .inl (cy 0, 4, .inl (upd (fun _ => 0) 0 (-1)))), (m5, .inl (cy 0, 12, .inl (fun _ => 0)))] := hD
  refine lv_aload_n hx hb dX12_text_15 rfl (lv_at hl 0 rfl) ?_
  refine va_get (D := D) (ci := 12) (v := .ref m2) (C := RX12) (T := TX12) (N := 64) hx hb hts in_12 hown hK hP 0 rfl rfl 2 (by decide) fl_13 (fun _ h9 => h9) rfl dX12_text_16 ?_
  refine lv_iconst (v := 0) hx hb dX12_text_19 (by decide +kernel) ?_
  refine lv_iconst (v := 0) hx hb dX12_text_20 (by decide +kernel) ?_
  refine va_iast hx hb hK hP hD hS 1 0 rfl rfl (vi_c (by decide +kernel)) dX12_text_21 (fun H locs hP hD hS => ?_)
  have hP : va_P D vwCl [(m0, .inr (12, [.int 0, .ref m1, .ref m2, .ref m3, .ref m4, .ref m5, .ref m6, .ref m7, .ref m8, .int 0, .int 0, .int 0, .int 0, .int 0, .long 0, .int 0, .int 0, .int 0, .ref m18, .ref m19, .int 0, .int 0, .int 0, .int 0, .int 0, .int 0, .int 0, .int 0, .int 0, .int 0, .ref m30, .ref m31, .ref m32, .int 0, .int 0, .int 0, .ref m36, .ref m37, .ref m38, .ref m39, .ref m40, .ref m41, .ref m42, .ref m43, .ref m44, .ref m45, .ref m46, .ref m47, .ref m48, .int 0, .int 0, .int 0, .ref m52, .ref m53, .ref m54, .int 0, .int 0, .int 0, .ref m58, .ref m59, .ref m60, .ref m61, .ref m62, .ref m63])), (m2, .inl (cy 0, 4, .inl (upd (fun _ => 0) 0 0))), (m3, .inl (cy 0, 4, .inl (fun _ => 0))), (m4, .inl (cy 0, 4, .inl (upd (fun _ => 0) 0 (-1)))), (m5, .inl (cy 0, 12, .inl (fun _ => 0)))] H := hP
  have hD : va_D A [(m0, .inr (12, [.int 0, .ref m1, .ref m2, .ref m3, .ref m4, .ref m5, .ref m6, .ref m7, .ref m8, .int 0, .int 0, .int 0, .int 0, .int 0, .long 0, .int 0, .int 0, .int 0, .ref m18, .ref m19, .int 0, .int 0, .int 0, .int 0, .int 0, .int 0, .int 0, .int 0, .int 0, .int 0, .ref m30, .ref m31, .ref m32, .int 0, .int 0, .int 0, .ref m36, .ref m37, .ref m38, .ref m39, .ref m40, .ref m41, .ref m42, .ref m43, .ref m44, .ref m45, .ref m46, .ref m47, .ref m48, .int 0, .int 0, .int 0, .ref m52, .ref m53, .ref m54, .int 0, .int 0, .int 0, .ref m58, .ref m59, .ref m60, .ref m61, .ref m62, .ref m63])), (m2, .inl (cy 0, 4, .inl (upd (fun _ => 0) 0 0))), (m3, .inl (cy 0, 4, .inl (fun _ => 0))), (m4, .inl (cy 0, 4, .inl (upd (fun _ => 0) 0 (-1)))), (m5, .inl (cy 0, 12, .inl (fun _ => 0)))] := hD
  refine lv_aload_n hx hb dX12_text_22 rfl (lv_at hl 0 rfl) ?_
  refine va_get (D := D) (ci := 12) (v := .ref m3) (C := RX12) (T := TX12) (N := 64) hx hb hts in_12 hown hK hP 0 rfl rfl 3 (by decide) fl_17 (fun _ h9 => h9) rfl dX12_text_23 ?_
  refine lv_iconst (v := 0) hx hb dX12_text_26 (by decide +kernel) ?_
  refine lv_iconst (v := 0) hx hb dX12_text_27 (by decide +kernel) ?_
  refine va_iast hx hb hK hP hD hS 2 0 rfl rfl (vi_c (by decide +kernel)) dX12_text_28 (fun H locs hP hD hS => ?_)
  have hP : va_P D vwCl [(m0, .inr (12, [.int 0, .ref m1, .ref m2, .ref m3, .ref m4, .ref m5, .ref m6, .ref m7, .ref m8, .int 0, .int 0, .int 0, .int 0, .int 0, .long 0, .int 0, .int 0, .int 0, .ref m18, .ref m19, .int 0, .int 0, .int 0, .int 0, .int 0, .int 0, .int 0, .int 0, .int 0, .int 0, .ref m30, .ref m31, .ref m32, .int 0, .int 0, .int 0, .ref m36, .ref m37, .ref m38, .ref m39, .ref m40, .ref m41, .ref m42, .ref m43, .ref m44, .ref m45, .ref m46, .ref m47, .ref m48, .int 0, .int 0, .int 0, .ref m52, .ref m53, .ref m54, .int 0, .int 0, .int 0, .ref m58, .ref m59, .ref m60, .ref m61, .ref m62, .ref m63])), (m2, .inl (cy 0, 4, .inl (upd (fun _ => 0) 0 0))), (m3, .inl (cy 0, 4, .inl (upd (fun _ => 0) 0 0))), (m4, .inl (cy 0, 4, .inl (upd (fun _ => 0) 0 (-1)))), (m5, .inl (cy 0, 12, .inl (fun _ => 0)))] H := hP
  have hD : va_D A [(m0, .inr (12, [.int 0, .ref m1, .ref m2, .ref m3, .ref m4, .ref m5, .ref m6, .ref m7, .ref m8, .int 0, .int 0, .int 0, .int 0, .int 0, .long 0, .int 0, .int 0, .int 0, .ref m18, .ref m19, .int 0, .int 0, .int 0, .int 0, .int 0, .int 0, .int 0, .int 0, .int 0, .int 0, .ref m30, .ref m31, .ref m32, .int 0, .int 0, .int 0, .ref m36, .ref m37, .ref m38, .ref m39, .ref m40, .ref m41, .ref m42, .ref m43, .ref m44, .ref m45, .ref m46, .ref m47, .ref m48, .int 0, .int 0, .int 0, .ref m52, .ref m53, .ref m54, .int 0, .int 0, .int 0, .ref m58, .ref m59, .ref m60, .ref m61, .ref m62, .ref m63])), (m2, .inl (cy 0, 4, .inl (upd (fun _ => 0) 0 0))), (m3, .inl (cy 0, 4, .inl (upd (fun _ => 0) 0 0))), (m4, .inl (cy 0, 4, .inl (upd (fun _ => 0) 0 (-1)))), (m5, .inl (cy 0, 12, .inl (fun _ => 0)))] := hD
  refine lv_aload_n hx hb dX12_text_29 rfl (lv_at hl 0 rfl) ?_
  refine va_get (D := D) (ci := 12) (v := .ref m4) (C := RX12) (T := TX12) (N := 64) hx hb hts in_12 hown hK hP 0 rfl rfl 4 (by decide) fl_20 (fun _ h9 => h9) rfl dX12_text_30 ?_
  refine lv_iconst (v := 0) hx hb dX12_text_33 (by decide +kernel) ?_
  refine lv_iconst (v := (-1)) hx hb dX12_text_34 (by decide +kernel) ?_
  refine va_iast hx hb hK hP hD hS 3 0 rfl rfl (vi_c (by decide +kernel)) dX12_text_35 (fun H locs hP hD hS => ?_)
  have hP : va_P D vwCl [(m0, .inr (12, [.int 0, .ref m1, .ref m2, .ref m3, .ref m4, .ref m5, .ref m6, .ref m7, .ref m8, .int 0, .int 0, .int 0, .int 0, .int 0, .long 0, .int 0, .int 0, .int 0, .ref m18, .ref m19, .int 0, .int 0, .int 0, .int 0, .int 0, .int 0, .int 0, .int 0, .int 0, .int 0, .ref m30, .ref m31, .ref m32, .int 0, .int 0, .int 0, .ref m36, .ref m37, .ref m38, .ref m39, .ref m40, .ref m41, .ref m42, .ref m43, .ref m44, .ref m45, .ref m46, .ref m47, .ref m48, .int 0, .int 0, .int 0, .ref m52, .ref m53, .ref m54, .int 0, .int 0, .int 0, .ref m58, .ref m59, .ref m60, .ref m61, .ref m62, .ref m63])), (m2, .inl (cy 0, 4, .inl (upd (fun _ => 0) 0 0))), (m3, .inl (cy 0, 4, .inl (upd (fun _ => 0) 0 0))), (m4, .inl (cy 0, 4, .inl (upd (upd (fun _ => 0) 0 (-1)) 0 (-1)))), (m5, .inl (cy 0, 12, .inl (fun _ => 0)))] H := hP
  have hD : va_D A [(m0, .inr (12, [.int 0, .ref m1, .ref m2, .ref m3, .ref m4, .ref m5, .ref m6, .ref m7, .ref m8, .int 0, .int 0, .int 0, .int 0, .int 0, .long 0, .int 0, .int 0, .int 0, .ref m18, .ref m19, .int 0, .int 0, .int 0, .int 0, .int 0, .int 0, .int 0, .int 0, .int 0, .int 0, .ref m30, .ref m31, .ref m32, .int 0, .int 0, .int 0, .ref m36, .ref m37, .ref m38, .ref m39, .ref m40, .ref m41, .ref m42, .ref m43, .ref m44, .ref m45, .ref m46, .ref m47, .ref m48, .int 0, .int 0, .int 0, .ref m52, .ref m53, .ref m54, .int 0, .int 0, .int 0, .ref m58, .ref m59, .ref m60, .ref m61, .ref m62, .ref m63])), (m2, .inl (cy 0, 4, .inl (upd (fun _ => 0) 0 0))), (m3, .inl (cy 0, 4, .inl (upd (fun _ => 0) 0 0))), (m4, .inl (cy 0, 4, .inl (upd (upd (fun _ => 0) 0 (-1)) 0 (-1)))), (m5, .inl (cy 0, 12, .inl (fun _ => 0)))] := hD
  refine lv_iload_n hx hb dX12_text_36 rfl (lv_at hl 1 rfl) ?_
  refine lv_iconst (v := 0) hx hb dX12_text_37 (by decide +kernel) ?_
  refine lv_iconst (v := 2) hx hb dX12_text_38 (by decide +kernel) ?_
  have hPc_1 := hP.sub (ws' := []) [] rfl
  refine pc_i (va_runS (As := [.int p0, .int 0, .int 2]) (rest := []) ⟨hx, hb, hml, hown, hts⟩ (c_X12_in l D cy p0 0 2) (cwS 3 hts gX12_text_X12_in rfl rfl rfl (by decide +kernel) ⟨Nat.le_of_ble_eq_true rfl, Nat.le_of_ble_eq_true rfl⟩) ⟨prB, fun U hU hW => ⟨rfl, PR.of hU hW hKW hPc_1⟩⟩ rfl rfl hl.1 rfl (lv_room (Nat.le_of_ble_eq_true rfl)) dX12_text_39 ⟨by decide +kernel, by decide +kernel⟩) (fun r_2 hr_2 => ?_)
  subst hr_2
  refine lv_if_eq (tgt := 72) hx hb dX12_text_42 (by decide) (fun c_3 => ?_) (fun c_3 => ?_)
  · refine lv_bipush (v := (-2)) hx hb dX12_text_72 (by decide +kernel) ?_
    have hP9 := hP.sub (ws' := []) [] rfl
    have hD9 := hD.sub (ws' := []) [] (by decide) rfl
    exact W.iret (v := (-2)) hx hb hr (fun t ht hW => ⟨⟨(-2), (), rfl, rfl, by rw [ht]; exact hP9, hD9⟩, hS.F ht⟩) hS.2.2 dX12_text_74
  · refine lv_iload_n hx hb dX12_text_45 rfl (lv_at hl 2 rfl) ?_
    refine lv_iconst (v := (-1)) hx hb dX12_text_46 (by decide +kernel) ?_
    refine lv_icmp_ne (tgt := 63) hx hb dX12_text_47 (by decide) (fun c_4 => ?_) (fun c_4 => absurd hbad (nf_good c_3 c_4))
    refine lv_aload_n hx hb dX12_text_63 rfl (lv_at hl 0 rfl) ?_
    refine lv_iload_n hx hb dX12_text_64 rfl (lv_at hl 1 rfl) ?_
    refine lv_iload_n hx hb dX12_text_65 rfl (lv_at hl 2 rfl) ?_
    have hPc_5 := hP.sub (ws' := [(m0, .inr (12, [.int 0, .ref m1, .ref m2, .ref m3, .ref m4, .ref m5, .ref m6, .ref m7, .ref m8, .int 0, .int 0, .int 0, .int 0, .int 0, .long 0, .int 0, .int 0, .int 0, .ref m18, .ref m19, .int 0, .int 0, .int 0, .int 0, .int 0, .int 0, .int 0, .int 0, .int 0, .int 0, .ref m30, .ref m31, .ref m32, .int 0, .int 0, .int 0, .ref m36, .ref m37, .ref m38, .ref m39, .ref m40, .ref m41, .ref m42, .ref m43, .ref m44, .ref m45, .ref m46, .ref m47, .ref m48, .int 0, .int 0, .int 0, .ref m52, .ref m53, .ref m54, .int 0, .int 0, .int 0, .ref m58, .ref m59, .ref m60, .ref m61, .ref m62, .ref m63])), (m5, .inl (cy 0, 12, .inl (fun _ => 0)))]) [0, 4] rfl
    refine pc_i (va_runV (As := [.int p0, .int p1]) (rest := []) ⟨hx, hb, hml, hown, hts⟩ (c_X12_is l D cy m0 m1 m2 m3 m4 m5 m6 m7 m8 m18 m19 m30 m31 m32 m36 m37 m38 m39 m40 m41 m42 m43 m44 m45 m46 m47 m48 m52 m53 m54 m58 m59 m60 m61 m62 m63 p0 p1 (inn_i12 (by assumption))) (cwV 2 hts gX12_text_X12_is rfl rfl rfl (by decide +kernel) ⟨Nat.le_of_ble_eq_true rfl, Nat.le_of_ble_eq_true rfl⟩) ⟨prB, va_recv hK hPc_5 (ci := 12) (q0 := 0) rfl rfl, fun U hU hW => ⟨rfl, PR.of hU hW hKW hPc_5⟩⟩ rfl rfl hl.1 rfl (lv_room (Nat.le_of_ble_eq_true rfl)) dX12_text_66 ⟨by decide +kernel, by decide +kernel⟩) (fun r_6 hr_6 => ?_)
    subst hr_6
    refine lv_if_ne (tgt := 75) hx hb dX12_text_69 (by decide) (fun c_7 => absurd (by decide +kernel) c_7) (fun _ => ?_)
    refine lv_bipush (v := (-2)) hx hb dX12_text_72 (by decide +kernel) ?_
    have hP9 := hP.sub (ws' := []) [] rfl
    have hD9 := hD.sub (ws' := []) [] (by decide) rfl
    exact W.iret (v := (-2)) hx hb hr (fun t ht hW => ⟨⟨(-2), (), rfl, rfl, by rw [ht]; exact hP9, hD9⟩, hS.F ht⟩) hS.2.2 dX12_text_74
