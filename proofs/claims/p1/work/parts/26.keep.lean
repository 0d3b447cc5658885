theorem dX9_numberFor_0 : decode cX9_numberFor 0 = .ok (.iload_n 1, 1) := by decide +kernel
theorem dX9_numberFor_1 : decode cX9_numberFor 1 = .ok (.ifCond .lt 8, 3) := by decide +kernel
theorem dX9_numberFor_9 : decode cX9_numberFor 9 = .ok (.bipush (-2), 2) := by decide +kernel
theorem dX9_numberFor_11 : decode cX9_numberFor 11 = .ok (.ireturn, 1) := by decide +kernel
theorem dX9_numberFor_4 : decode cX9_numberFor 4 = .ok (.iload_n 1, 1) := by decide +kernel
theorem dX9_numberFor_5 : decode cX9_numberFor 5 = .ok (.iconst 3, 1) := by decide +kernel
theorem dX9_numberFor_6 : decode cX9_numberFor 6 = .ok (.if_icmp .lt 6, 3) := by decide +kernel
theorem dX9_numberFor_12 : decode cX9_numberFor 12 = .ok (.iload_n 2, 1) := by decide +kernel
theorem dX9_numberFor_13 : decode cX9_numberFor 13 = .ok (.iconst (-1), 1) := by decide +kernel
theorem dX9_numberFor_14 : decode cX9_numberFor 14 = .ok (.if_icmp .ne 25, 3) := by decide +kernel
theorem dX9_numberFor_39 : decode cX9_numberFor 39 = .ok (.iload_n 2, 1) := by decide +kernel
theorem dX9_numberFor_40 : decode cX9_numberFor 40 = .ok (.ifCond .lt 13, 3) := by decide +kernel
theorem dX9_numberFor_53 : decode cX9_numberFor 53 = .ok (.bipush (-2), 2) := by decide +kernel
theorem dX9_numberFor_55 : decode cX9_numberFor 55 = .ok (.goto 4, 3) := by decide +kernel
theorem dX9_numberFor_59 : decode cX9_numberFor 59 = .ok (.ireturn, 1) := by decide +kernel
theorem dX9_numberFor_43 : decode cX9_numberFor 43 = .ok (.iload_n 2, 1) := by decide +kernel
theorem dX9_numberFor_44 : decode cX9_numberFor 44 = .ok (.aload_n 0, 1) := by decide +kernel
theorem dX9_numberFor_45 : decode cX9_numberFor 45 = .ok (.getfield 18, 3) := by decide +kernel
theorem dX9_numberFor_48 : decode cX9_numberFor 48 = .ok (.iload_n 1, 1) := by decide +kernel
theorem dX9_numberFor_49 : decode cX9_numberFor 49 = .ok (.iaload, 1) := by decide +kernel
theorem dX9_numberFor_50 : decode cX9_numberFor 50 = .ok (.if_icmp .lt 8, 3) := by decide +kernel
theorem dX9_numberFor_17 : decode cX9_numberFor 17 = .ok (.aload_n 0, 1) := by decide +kernel
theorem dX9_numberFor_18 : decode cX9_numberFor 18 = .ok (.getfield 18, 3) := by decide +kernel
theorem dX9_numberFor_21 : decode cX9_numberFor 21 = .ok (.iload_n 1, 1) := by decide +kernel
theorem dX9_numberFor_22 : decode cX9_numberFor 22 = .ok (.iaload, 1) := by decide +kernel
theorem dX9_numberFor_23 : decode cX9_numberFor 23 = .ok (.iconst 2, 1) := by decide +kernel
theorem dX9_numberFor_24 : decode cX9_numberFor 24 = .ok (.if_icmp .ge 12, 3) := by decide +kernel
theorem dX9_numberFor_27 : decode cX9_numberFor 27 = .ok (.aload_n 0, 1) := by decide +kernel
theorem dX9_numberFor_28 : decode cX9_numberFor 28 = .ok (.getfield 18, 3) := by decide +kernel
theorem dX9_numberFor_31 : decode cX9_numberFor 31 = .ok (.iload_n 1, 1) := by decide +kernel
theorem dX9_numberFor_32 : decode cX9_numberFor 32 = .ok (.iaload, 1) := by decide +kernel
theorem dX9_numberFor_33 : decode cX9_numberFor 33 = .ok (.goto 5, 3) := by decide +kernel
theorem dX9_numberFor_38 : decode cX9_numberFor 38 = .ok (.ireturn, 1) := by decide +kernel
theorem dX9_takeTape_0 : decode cX9_takeTape 0 = .ok (.aload_n 0, 1) := by decide +kernel
theorem dX9_takeTape_1 : decode cX9_takeTape 1 = .ok (.getfield 12, 3) := by decide +kernel
theorem dX9_takeTape_4 : decode cX9_takeTape 4 = .ok (.iconst 0, 1) := by decide +kernel
theorem dX9_takeTape_5 : decode cX9_takeTape 5 = .ok (.putfield 69, 3) := by decide +kernel
theorem dX9_takeTape_8 : decode cX9_takeTape 8 = .ok (.aload_n 0, 1) := by decide +kernel
theorem dX9_takeTape_9 : decode cX9_takeTape 9 = .ok (.iload_n 1, 1) := by decide +kernel
theorem dX9_takeTape_10 : decode cX9_takeTape 10 = .ok (.putfield 66, 3) := by decide +kernel
theorem dX9_takeTape_13 : decode cX9_takeTape 13 = .ok (.aload_n 0, 1) := by decide +kernel
theorem dX9_takeTape_14 : decode cX9_takeTape 14 = .ok (.iload_n 2, 1) := by decide +kernel
theorem dX9_takeTape_15 : decode cX9_takeTape 15 = .ok (.putfield 43, 3) := by decide +kernel
theorem dX9_takeTape_18 : decode cX9_takeTape 18 = .ok (.return_, 1) := by decide +kernel
theorem dX9_keep_0 : decode cX9_keep 0 = .ok (.iload_n 2, 1) := by decide +kernel
theorem dX9_keep_1 : decode cX9_keep 1 = .ok (.ifCond .ne 19, 3) := by decide +kernel
theorem dX9_keep_4 : decode cX9_keep 4 = .ok (.aload_n 0, 1) := by decide +kernel
theorem dX9_keep_5 : decode cX9_keep 5 = .ok (.getfield 25, 3) := by decide +kernel
theorem dX9_keep_8 : decode cX9_keep 8 = .ok (.iload_n 3, 1) := by decide +kernel
theorem dX9_keep_9 : decode cX9_keep 9 = .ok (.aaload, 1) := by decide +kernel
theorem dX9_keep_10 : decode cX9_keep 10 = .ok (.aload_n 1, 1) := by decide +kernel
theorem dX9_keep_11 : decode cX9_keep 11 = .ok (.getfield 72, 3) := by decide +kernel
theorem dX9_keep_14 : decode cX9_keep 14 = .ok (.invokevirtual 57, 3) := by decide +kernel
set_option maxRecDepth 20000 in
theorem ggX9_keep_X6_copyFrom : GoodIn wsX9_keep wsX6_copyFrom := goodIn_r _ [16, 17, 18, 19, 20, 21, 22, 23, 24, 25, 26, 27, 28, 29, 30, 31, 32, 33, 34, 35, 74, 75, 76, 77, 78, 79, 80, 81, 82, 83, 84, 85, 86, 87, 88] (by decide +kernel) (by decide +kernel)
set_option maxRecDepth 20000 in
theorem gX9_keep_X6_copyFrom : GoodIn wsX9_keep (wsV RX9 57 RX6 yX6_copyFrom wsX6_copyFrom) := goodIn_app (goodIn_of _ (by decide +kernel)) ggX9_keep_X6_copyFrom
theorem dX9_keep_17 : decode cX9_keep 17 = .ok (.goto 37, 3) := by decide +kernel
theorem dX9_keep_54 : decode cX9_keep 54 = .ok (.aload_n 0, 1) := by decide +kernel
theorem dX9_keep_55 : decode cX9_keep 55 = .ok (.getfield 18, 3) := by decide +kernel
theorem dX9_keep_58 : decode cX9_keep 58 = .ok (.iload_n 2, 1) := by decide +kernel
theorem dX9_keep_59 : decode cX9_keep 59 = .ok (.aload_n 0, 1) := by decide +kernel
theorem dX9_keep_60 : decode cX9_keep 60 = .ok (.getfield 18, 3) := by decide +kernel
theorem dX9_keep_63 : decode cX9_keep 63 = .ok (.iload_n 2, 1) := by decide +kernel
theorem dX9_keep_64 : decode cX9_keep 64 = .ok (.iaload, 1) := by decide +kernel
theorem dX9_keep_65 : decode cX9_keep 65 = .ok (.iload_n 3, 1) := by decide +kernel
theorem dX9_keep_66 : decode cX9_keep 66 = .ok (.iconst 1, 1) := by decide +kernel
theorem dX9_keep_67 : decode cX9_keep 67 = .ok (.iadd, 1) := by decide +kernel
theorem dX9_keep_68 : decode cX9_keep 68 = .ok (.invokestatic 86, 3) := by decide +kernel
theorem dX9_keep_71 : decode cX9_keep 71 = .ok (.iastore, 1) := by decide +kernel
theorem dX9_keep_72 : decode cX9_keep 72 = .ok (.return_, 1) := by decide +kernel
theorem dX9_keep_20 : decode cX9_keep 20 = .ok (.iload_n 2, 1) := by decide +kernel
theorem dX9_keep_21 : decode cX9_keep 21 = .ok (.iconst 1, 1) := by decide +kernel
theorem dX9_keep_22 : decode cX9_keep 22 = .ok (.if_icmp .ne 19, 3) := by decide +kernel
theorem dX9_keep_25 : decode cX9_keep 25 = .ok (.aload_n 0, 1) := by decide +kernel
theorem dX9_keep_26 : decode cX9_keep 26 = .ok (.getfield 32, 3) := by decide +kernel
theorem dX9_keep_29 : decode cX9_keep 29 = .ok (.iload_n 3, 1) := by decide +kernel
theorem dX9_keep_30 : decode cX9_keep 30 = .ok (.aaload, 1) := by decide +kernel
theorem dX9_keep_31 : decode cX9_keep 31 = .ok (.aload_n 1, 1) := by decide +kernel
theorem dX9_keep_32 : decode cX9_keep 32 = .ok (.getfield 78, 3) := by decide +kernel
theorem dX9_keep_35 : decode cX9_keep 35 = .ok (.invokevirtual 60, 3) := by decide +kernel
set_option maxRecDepth 20000 in
theorem ggX9_keep_X1_copyFrom : GoodIn wsX9_keep wsX1_copyFrom := goodIn_r _ [40, 41, 42, 43, 24, 25, 26, 44, 89, 90, 91] (by decide +kernel) (by decide +kernel)
set_option maxRecDepth 20000 in
theorem gX9_keep_X1_copyFrom : GoodIn wsX9_keep (wsV RX9 60 RX1 yX1_copyFrom wsX1_copyFrom) := goodIn_app (goodIn_of _ (by decide +kernel)) ggX9_keep_X1_copyFrom
theorem dX9_keep_38 : decode cX9_keep 38 = .ok (.goto 16, 3) := by decide +kernel
set_option maxHeartbeats 4000000 in
set_option maxRecDepth 100000 in
theorem c_X9_numberFor (l : Launch) (D : va_G) (cy : Nat → ClassId) (t0 : Nat) (tp : Nat) (nu : Nat) (se : Nat) (da : Nat) (di : Nat) (p0 : Int32) (p1 : Int32)  : Met l yX9_numberFor wsX9_numberFor ({ frames := 0, cells := 0, slots := 0, locals := 0 } : Room) (va_Pc [.ref t0, .int p0, .int p1] (PR D cy [(t0, .inr (9, [.ref tp, .ref nu, .ref se, .ref da, .ref di, .int 0, .int (-1)])), (nu, .inl (cy 0, 3, .inl (fun _ => 0)))])) (vp_Si (fun r : Int32 => r = nf p0 p1)) 0 0 (fun _ => False) := by
  refine Met.ofW (cc := cX9_numberFor) (maxL := 3) (ret := (some .int)) (by decide) rfl ?_
  intro p e s m args below meth c s₁ B hml hv
  obtain ⟨rfl, hP, hKW⟩ := hv
  have hK := hKW.1
  have hx := B.exec
  have hb := B.bytes
  have hr := B.returns
  have hts := atoms_spec (ws := wsX9_numberFor) B.pre
  have hown : s.vm.findClass RX9 = some m.cls := findClass_of_methodNamed B.named
  have hlocks := B.notSynchronized
  have in_9 : ∀ w ∈ u_ws RX9 TX9 7, w ∈ wsX9_numberFor := by decide +kernel
  have fl_18 := hts (.fieldLink RX9 18 "ShoalClaims$Told" "numbers" "[I") (by decide +kernel)
  have hP : va_P D vwCl [(t0, .inr (9, [.ref tp, .ref nu, .ref se, .ref da, .ref di, .int 0, .int (-1)])), (nu, .inl (cy 0, 3, .inl (fun _ => 0)))] s.heap := hP
  have hl := lv_entry ([.ref t0, .int p0, .int p1]) (n := 3) (Nat.le_of_ble_eq_true rfl)
  rw [lg_entry_eq]
  generalize (lg_sl ([.ref t0, .int p0, .int p1]) ++ List.replicate (3 - (lg_sl ([.ref t0, .int p0, .int p1])).length) Slot.unset).toArray = ls at hl ⊢
  have hl : lv_has ls 3 [(0, .ref t0), (1, .int p0), (2, .int p1)] := hl
  refine lv_iload_n hx hb dX9_numberFor_0 rfl (lv_at hl 1 rfl) ?_
  refine lv_if_lt (tgt := 9) hx hb dX9_numberFor_1 (by decide) (fun c_1 => ?_) (fun c_1 => ?_)
  · refine lv_bipush (v := (-2)) hx hb dX9_numberFor_9 (by decide +kernel) ?_
    exact W.iret (v := (-2)) hx hb hr (fun t ht hW => ⟨(-2), rfl, (by simp [nf, c_1]), ht⟩) (fun _ h => absurd h List.not_mem_nil) dX9_numberFor_11
  · refine lv_iload_n hx hb dX9_numberFor_4 rfl (lv_at hl 1 rfl) ?_
    refine lv_iconst (v := 3) hx hb dX9_numberFor_5 (by decide +kernel) ?_
    refine lv_icmp_lt (tgt := 12) hx hb dX9_numberFor_6 (by decide) (fun c_2 => ?_) (fun c_2 => ?_)
    · refine lv_iload_n hx hb dX9_numberFor_12 rfl (lv_at hl 2 rfl) ?_
      refine lv_iconst (v := (-1)) hx hb dX9_numberFor_13 (by decide +kernel) ?_
      refine lv_icmp_ne (tgt := 39) hx hb dX9_numberFor_14 (by decide) (fun c_3 => ?_) (fun c_3 => ?_)
      · refine lv_iload_n hx hb dX9_numberFor_39 rfl (lv_at hl 2 rfl) ?_
        refine lv_if_lt (tgt := 53) hx hb dX9_numberFor_40 (by decide) (fun c_4 => ?_) (fun c_4 => ?_)
        · refine lv_bipush (v := (-2)) hx hb dX9_numberFor_53 (by decide +kernel) ?_
          refine lv_goto (tgt := 59) hx hb dX9_numberFor_55 (by decide) ?_
          exact W.iret (v := (-2)) hx hb hr (fun t ht hW => ⟨(-2), rfl, (by simp [nf, c_1, c_2, c_3, c_4]), ht⟩) (fun _ h => absurd h List.not_mem_nil) dX9_numberFor_59
        · refine lv_iload_n hx hb dX9_numberFor_43 rfl (lv_at hl 2 rfl) ?_
          refine lv_aload_n hx hb dX9_numberFor_44 rfl (lv_at hl 0 rfl) ?_
          refine va_get (D := D) (ci := 9) (v := .ref nu) (C := RX9) (T := TX9) (N := 7) hx hb hts in_9 hown hK hP 0 rfl rfl 1 (by decide) fl_18 (fun _ h9 => h9) rfl dX9_numberFor_45 ?_
          refine lv_iload_n hx hb dX9_numberFor_48 rfl (lv_at hl 1 rfl) ?_
          refine va_iald hx hb hK hP 1 0 rfl rfl (vi_s (M := 3) (by decide) c_1 c_2) dX9_numberFor_49 ?_
          refine tp_i 0 rfl ?_
          refine lv_icmp_lt (tgt := 58) hx hb dX9_numberFor_50 (by decide) (fun c_5 => absurd c_5 c_4) (fun c_5 => ?_)
          refine lv_bipush (v := (-2)) hx hb dX9_numberFor_53 (by decide +kernel) ?_
          refine lv_goto (tgt := 59) hx hb dX9_numberFor_55 (by decide) ?_
          exact W.iret (v := (-2)) hx hb hr (fun t ht hW => ⟨(-2), rfl, (by simp [nf, c_1, c_2, c_3, c_4, c_5]), ht⟩) (fun _ h => absurd h List.not_mem_nil) dX9_numberFor_59
      · refine lv_aload_n hx hb dX9_numberFor_17 rfl (lv_at hl 0 rfl) ?_
        refine va_get (D := D) (ci := 9) (v := .ref nu) (C := RX9) (T := TX9) (N := 7) hx hb hts in_9 hown hK hP 0 rfl rfl 1 (by decide) fl_18 (fun _ h9 => h9) rfl dX9_numberFor_18 ?_
        refine lv_iload_n hx hb dX9_numberFor_21 rfl (lv_at hl 1 rfl) ?_
        refine va_iald hx hb hK hP 1 0 rfl rfl (vi_s (M := 3) (by decide) c_1 c_2) dX9_numberFor_22 ?_
        refine tp_i 0 rfl ?_
        refine lv_iconst (v := 2) hx hb dX9_numberFor_23 (by decide +kernel) ?_
        refine lv_icmp_ge (tgt := 36) hx hb dX9_numberFor_24 (by decide) (fun c_6 => absurd c_6 (by decide +kernel)) (fun _ => ?_)
        refine lv_aload_n hx hb dX9_numberFor_27 rfl (lv_at hl 0 rfl) ?_
        refine va_get (D := D) (ci := 9) (v := .ref nu) (C := RX9) (T := TX9) (N := 7) hx hb hts in_9 hown hK hP 0 rfl rfl 1 (by decide) fl_18 (fun _ h9 => h9) rfl dX9_numberFor_28 ?_
        refine lv_iload_n hx hb dX9_numberFor_31 rfl (lv_at hl 1 rfl) ?_
        refine va_iald hx hb hK hP 1 0 rfl rfl (vi_s (M := 3) (by decide) c_1 c_2) dX9_numberFor_32 ?_
        refine tp_i 0 rfl ?_
        refine lv_goto (tgt := 38) hx hb dX9_numberFor_33 (by decide) ?_
        exact W.iret (v := 0) hx hb hr (fun t ht hW => ⟨0, rfl, (by simp [nf, c_1, c_2, c_3]), ht⟩) (fun _ h => absurd h List.not_mem_nil) dX9_numberFor_38
    · refine lv_bipush (v := (-2)) hx hb dX9_numberFor_9 (by decide +kernel) ?_
      exact W.iret (v := (-2)) hx hb hr (fun t ht hW => ⟨(-2), rfl, (by simp [nf, c_1, c_2]), ht⟩) (fun _ h => absurd h List.not_mem_nil) dX9_numberFor_11
set_option maxHeartbeats 4000000 in
set_option maxRecDepth 100000 in
theorem c_X9_takeTape (l : Launch) (D : va_G) (cy : Nat → ClassId) (t0 : Nat) (tp : Nat) (nu : Nat) (se : Nat) (da : Nat) (di : Nat) (tf : Int32) (tg : Int32) (bt : Nat) (tl : Int32) (p0 : Int32) (p1 : Int32) (sz : Nat)  : Met l yX9_takeTape wsX9_takeTape ({ frames := 0, cells := 0, slots := 0, locals := 0 } : Room) (va_Pc [.ref t0, .int p0, .int p1] (PW D cy [(t0, .inr (9, [.ref tp, .ref nu, .ref se, .ref da, .ref di, .int tf, .int tg])), (tp, .inr (8, [.ref bt, .int tl]))] sz)) (va_Qv (fun _ : Unit => True) (fun _ t => va_P D vwCl [(t0, .inr (9, [.ref tp, .ref nu, .ref se, .ref da, .ref di, .int p0, .int p1])), (tp, .inr (8, [.ref bt, .int 0]))] t.heap ∧ va_D (va_A [(t0, .inr (9, [.ref tp, .ref nu, .ref se, .ref da, .ref di, .int tf, .int tg])), (tp, .inr (8, [.ref bt, .int tl]))] sz) [(t0, .inr (9, [.ref tp, .ref nu, .ref se, .ref da, .ref di, .int p0, .int p1])), (tp, .inr (8, [.ref bt, .int 0]))]) (va_A [(t0, .inr (9, [.ref tp, .ref nu, .ref se, .ref da, .ref di, .int tf, .int tg])), (tp, .inr (8, [.ref bt, .int tl]))] sz)) 0 0 (va_A [(t0, .inr (9, [.ref tp, .ref nu, .ref se, .ref da, .ref di, .int tf, .int tg])), (tp, .inr (8, [.ref bt, .int tl]))] sz) := by
  refine Met.ofW (cc := cX9_takeTape) (maxL := 3) (ret := none) (by decide) rfl ?_
  intro p e s m args below meth c s₁ B hml hv
  obtain ⟨rfl, hsz, hP, hKW, hD0⟩ := hv
  have hK := hKW.1
  have hx := B.exec
  have hb := B.bytes
  have hr := B.returns
  have hts := atoms_spec (ws := wsX9_takeTape) B.pre
  have hown : s.vm.findClass RX9 = some m.cls := findClass_of_methodNamed B.named
  have hlocks := B.notSynchronized
  have in_8 : ∀ w ∈ u_ws RX8 TX8 2, w ∈ wsX9_takeTape := by decide +kernel
  have in_9 : ∀ w ∈ u_ws RX9 TX9 7, w ∈ wsX9_takeTape := by decide +kernel
  have fl_12 := hts (.fieldLink RX9 12 "ShoalClaims$Told" "tape" "LShoalClaims$Tape;") (by decide +kernel)
  have fl_69 := hts (.fieldLink RX9 69 "ShoalClaims$Tape" "length" "I") (by decide +kernel)
  have fl_66 := hts (.fieldLink RX9 66 "ShoalClaims$Told" "fault" "I") (by decide +kernel)
  have fl_43 := hts (.fieldLink RX9 43 "ShoalClaims$Told" "place" "I") (by decide +kernel)
  subst hsz
  have hD := hD0.self (sz := s.heap.size)
  generalize hAe : va_A [(t0, .inr (9, [.ref tp, .ref nu, .ref se, .ref da, .ref di, .int tf, .int tg])), (tp, .inr (8, [.ref bt, .int tl]))] s.heap.size = A at hD ⊢
  have hA : ∀ q : Nat, s.heap.size ≤ q → A q := fun q h => by rw [← hAe]; exact Or.inr h
  have hS : va_S A s.heap s.heap [] := va_S.rf
  have hP : va_P D vwCl [(t0, .inr (9, [.ref tp, .ref nu, .ref se, .ref da, .ref di, .int tf, .int tg])), (tp, .inr (8, [.ref bt, .int tl]))] s.heap := hP
  have hl := lv_entry ([.ref t0, .int p0, .int p1]) (n := 3) (Nat.le_of_ble_eq_true rfl)
  rw [lg_entry_eq]
  generalize (lg_sl ([.ref t0, .int p0, .int p1]) ++ List.replicate (3 - (lg_sl ([.ref t0, .int p0, .int p1])).length) Slot.unset).toArray = ls at hl ⊢
  have hl : lv_has ls 3 [(0, .ref t0), (1, .int p0), (2, .int p1)] := hl
  refine lv_aload_n hx hb dX9_takeTape_0 rfl (lv_at hl 0 rfl) ?_
  refine va_get (D := D) (ci := 9) (v := .ref tp) (C := RX9) (T := TX9) (N := 7) hx hb hts in_9 hown hK hP 0 rfl rfl 0 (by decide) fl_12 (fun _ h9 => h9) rfl dX9_takeTape_1 ?_
  refine lv_iconst (v := 0) hx hb dX9_takeTape_4 (by decide +kernel) ?_
  refine va_put (D := D) (ci := 8) (v := .int 0) (ty := .int) (C := RX8) (T := TX8) (N := 2) hx hb hts in_8 tyX8 tyX8_ok nmX8 hown hK hP hD hS 1 rfl rfl 1 (by decide) fl_69 (fun _ h9 => h9) rfl (by decide +kernel) rfl rfl (Nat.le_of_ble_eq_true rfl) dX9_takeTape_5 (fun H locs hP hD hS => ?_)
  have hP : va_P D vwCl [(t0, .inr (9, [.ref tp, .ref nu, .ref se, .ref da, .ref di, .int tf, .int tg])), (tp, .inr (8, [.ref bt, .int 0]))] H := hP
  have hD : va_D A [(t0, .inr (9, [.ref tp, .ref nu, .ref se, .ref da, .ref di, .int tf, .int tg])), (tp, .inr (8, [.ref bt, .int 0]))] := hD
  refine lv_aload_n hx hb dX9_takeTape_8 rfl (lv_at hl 0 rfl) ?_
  refine lv_iload_n hx hb dX9_takeTape_9 rfl (lv_at hl 1 rfl) ?_
  refine va_put (D := D) (ci := 9) (v := .int p0) (ty := .int) (C := RX9) (T := TX9) (N := 7) hx hb hts in_9 tyX9 tyX9_ok nmX9 hown hK hP hD hS 0 rfl rfl 5 (by decide) fl_66 (fun _ h9 => h9) rfl (by decide +kernel) rfl rfl (Nat.le_of_ble_eq_true rfl) dX9_takeTape_10 (fun H locs hP hD hS => ?_)
  have hP : va_P D vwCl [(t0, .inr (9, [.ref tp, .ref nu, .ref se, .ref da, .ref di, .int p0, .int tg])), (tp, .inr (8, [.ref bt, .int 0]))] H := hP
  have hD : va_D A [(t0, .inr (9, [.ref tp, .ref nu, .ref se, .ref da, .ref di, .int p0, .int tg])), (tp, .inr (8, [.ref bt, .int 0]))] := hD
  refine lv_aload_n hx hb dX9_takeTape_13 rfl (lv_at hl 0 rfl) ?_
  refine lv_iload_n hx hb dX9_takeTape_14 rfl (lv_at hl 2 rfl) ?_
  refine va_put (D := D) (ci := 9) (v := .int p1) (ty := .int) (C := RX9) (T := TX9) (N := 7) hx hb hts in_9 tyX9 tyX9_ok nmX9 hown hK hP hD hS 0 rfl rfl 6 (by decide) fl_43 (fun _ h9 => h9) rfl (by decide +kernel) rfl rfl (Nat.le_of_ble_eq_true rfl) dX9_takeTape_15 (fun H locs hP hD hS => ?_)
  have hP : va_P D vwCl [(t0, .inr (9, [.ref tp, .ref nu, .ref se, .ref da, .ref di, .int p0, .int p1])), (tp, .inr (8, [.ref bt, .int 0]))] H := hP
  have hD : va_D A [(t0, .inr (9, [.ref tp, .ref nu, .ref se, .ref da, .ref di, .int p0, .int p1])), (tp, .inr (8, [.ref bt, .int 0]))] := hD
  have hP9 := hP.sub (ws' := [(t0, .inr (9, [.ref tp, .ref nu, .ref se, .ref da, .ref di, .int p0, .int p1])), (tp, .inr (8, [.ref bt, .int 0]))]) [0, 1] rfl
  have hD9 := hD.sub (ws' := [(t0, .inr (9, [.ref tp, .ref nu, .ref se, .ref da, .ref di, .int p0, .int p1])), (tp, .inr (8, [.ref bt, .int 0]))]) [0, 1] (by decide) rfl
  exact W.vret hx hb hr (fun t ht hW => ⟨⟨(), rfl, trivial, by rw [ht]; exact hP9, hD9⟩, hS.F ht⟩) hS.2.2 dX9_takeTape_18
set_option maxHeartbeats 4000000 in
set_option maxRecDepth 100000 in
theorem c_X9_keep_0 (l : Launch) (D : va_G) (cy : Nat → ClassId) (t0 : Nat) (tp : Nat) (nu : Nat) (se : Nat) (da : Nat) (di : Nat) (tf : Int32) (tg : Int32) (e1 : Nat) (rd : Nat) (e0 : Nat) (e0_v0 : Int32) (e0_v1 : Int32) (e0_v2 : Int32) (e0_v3 : Int32) (e0_v4 : Int32) (e0_a5 : Nat) (e0_f5 : Nat → Int32) (e0_v6 : Int32) (e0_a7 : Nat) (e0_f7 : Nat → Int32) (e0_a8 : Nat) (e0_f8 : Nat → Int32) (e0_a9 : Nat) (e0_f9 : Nat → Int32) (e0_v10 : Int32) (e0_a11 : Nat) (e0_f11 : Nat → Int32) (e0_a12 : Nat) (e0_f12 : Nat → Int32) (e0_a13 : Nat) (e0_f13 : Nat → Int32) (e0_v14 : Int32) (r0 : Nat) (ru : Nat) (rn : Nat) (rp : Nat) (g0 : Int32) (g1 : Int32) (g2 : Int32) (g3 : Int32) (g4 : Int32) (rs : Nat) (rs_v0 : Int32) (rs_v1 : Int32) (rs_v2 : Int32) (rs_v3 : Int32) (rs_v4 : Int32) (rs_a5 : Nat) (rs_f5 : Nat → Int32) (rs_v6 : Int32) (rs_a7 : Nat) (rs_f7 : Nat → Int32) (rs_a8 : Nat) (rs_f8 : Nat → Int32) (rs_a9 : Nat) (rs_f9 : Nat → Int32) (rs_v10 : Int32) (rs_a11 : Nat) (rs_f11 : Nat → Int32) (rs_a12 : Nat) (rs_f12 : Nat → Int32) (rs_a13 : Nat) (rs_f13 : Nat → Int32) (rs_v14 : Int32) (sz : Nat)  : Met l yX9_keep wsX9_keep ({ frames := 2, cells := 0, slots := 0, locals := 61 } : Room) (va_Pc [.ref t0, .ref r0, .int 0, .int 0] (PW D cy [(t0, .inr (9, [.ref tp, .ref nu, .ref se, .ref da, .ref di, .int tf, .int tg])), (nu, .inl (cy 0, 3, .inl (fun _ => 0))), (se, .inl (cy 3, 2, .inr (.inr (.inr (.inr (ar2 e0 e1)))))), (e0, .inr (6, [.int e0_v0, .int e0_v1, .int e0_v2, .int e0_v3, .int e0_v4, .ref e0_a5, .int e0_v6, .ref e0_a7, .ref e0_a8, .ref e0_a9, .int e0_v10, .ref e0_a11, .ref e0_a12, .ref e0_a13, .int e0_v14])), (e0_a5, .inl (cy 0, 12, .inl e0_f5)), (e0_a7, .inl (cy 0, 4, .inl e0_f7)), (e0_a8, .inl (cy 0, 4, .inl e0_f8)), (e0_a9, .inl (cy 0, 4, .inl e0_f9)), (e0_a11, .inl (cy 0, 6, .inl e0_f11)), (e0_a12, .inl (cy 0, 6, .inl e0_f12)), (e0_a13, .inl (cy 0, 6, .inl e0_f13)), (r0, .inr (4, [.ref rs, .ref rd, .ref ru, .int g0, .int g1, .ref rn, .ref rp, .int g2, .int g3, .int g4])), (rs, .inr (6, [.int rs_v0, .int rs_v1, .int rs_v2, .int rs_v3, .int rs_v4, .ref rs_a5, .int rs_v6, .ref rs_a7, .ref rs_a8, .ref rs_a9, .int rs_v10, .ref rs_a11, .ref rs_a12, .ref rs_a13, .int rs_v14])), (rs_a5, .inl (cy 0, 12, .inl rs_f5)), (rs_a7, .inl (cy 0, 4, .inl rs_f7)), (rs_a8, .inl (cy 0, 4, .inl rs_f8)), (rs_a9, .inl (cy 0, 4, .inl rs_f9)), (rs_a11, .inl (cy 0, 6, .inl rs_f11)), (rs_a12, .inl (cy 0, 6, .inl rs_f12)), (rs_a13, .inl (cy 0, 6, .inl rs_f13))] sz)) (va_Qv (fun _ : Unit => True) (fun _ t => va_P D vwCl [] t.heap ∧ va_D (va_A [(t0, .inr (9, [.ref tp, .ref nu, .ref se, .ref da, .ref di, .int tf, .int tg])), (nu, .inl (cy 0, 3, .inl (fun _ => 0))), (se, .inl (cy 3, 2, .inr (.inr (.inr (.inr (ar2 e0 e1)))))), (e0, .inr (6, [.int e0_v0, .int e0_v1, .int e0_v2, .int e0_v3, .int e0_v4, .ref e0_a5, .int e0_v6, .ref e0_a7, .ref e0_a8, .ref e0_a9, .int e0_v10, .ref e0_a11, .ref e0_a12, .ref e0_a13, .int e0_v14])), (e0_a5, .inl (cy 0, 12, .inl e0_f5)), (e0_a7, .inl (cy 0, 4, .inl e0_f7)), (e0_a8, .inl (cy 0, 4, .inl e0_f8)), (e0_a9, .inl (cy 0, 4, .inl e0_f9)), (e0_a11, .inl (cy 0, 6, .inl e0_f11)), (e0_a12, .inl (cy 0, 6, .inl e0_f12)), (e0_a13, .inl (cy 0, 6, .inl e0_f13)), (r0, .inr (4, [.ref rs, .ref rd, .ref ru, .int g0, .int g1, .ref rn, .ref rp, .int g2, .int g3, .int g4])), (rs, .inr (6, [.int rs_v0, .int rs_v1, .int rs_v2, .int rs_v3, .int rs_v4, .ref rs_a5, .int rs_v6, .ref rs_a7, .ref rs_a8, .ref rs_a9, .int rs_v10, .ref rs_a11, .ref rs_a12, .ref rs_a13, .int rs_v14])), (rs_a5, .inl (cy 0, 12, .inl rs_f5)), (rs_a7, .inl (cy 0, 4, .inl rs_f7)), (rs_a8, .inl (cy 0, 4, .inl rs_f8)), (rs_a9, .inl (cy 0, 4, .inl rs_f9)), (rs_a11, .inl (cy 0, 6, .inl rs_f11)), (rs_a12, .inl (cy 0, 6, .inl rs_f12)), (rs_a13, .inl (cy 0, 6, .inl rs_f13))] sz) []) (va_A [(t0, .inr (9, [.ref tp, .ref nu, .ref se, .ref da, .ref di, .int tf, .int tg])), (nu, .inl (cy 0, 3, .inl (fun _ => 0))), (se, .inl (cy 3, 2, .inr (.inr (.inr (.inr (ar2 e0 e1)))))), (e0, .inr (6, [.int e0_v0, .int e0_v1, .int e0_v2, .int e0_v3, .int e0_v4, .ref e0_a5, .int e0_v6, .ref e0_a7, .ref e0_a8, .ref e0_a9, .int e0_v10, .ref e0_a11, .ref e0_a12, .ref e0_a13, .int e0_v14])), (e0_a5, .inl (cy 0, 12, .inl e0_f5)), (e0_a7, .inl (cy 0, 4, .inl e0_f7)), (e0_a8, .inl (cy 0, 4, .inl e0_f8)), (e0_a9, .inl (cy 0, 4, .inl e0_f9)), (e0_a11, .inl (cy 0, 6, .inl e0_f11)), (e0_a12, .inl (cy 0, 6, .inl e0_f12)), (e0_a13, .inl (cy 0, 6, .inl e0_f13)), (r0, .inr (4, [.ref rs, .ref rd, .ref ru, .int g0, .int g1, .ref rn, .ref rp, .int g2, .int g3, .int g4])), (rs, .inr (6, [.int rs_v0, .int rs_v1, .int rs_v2, .int rs_v3, .int rs_v4, .ref rs_a5, .int rs_v6, .ref rs_a7, .ref rs_a8, .ref rs_a9, .int rs_v10, .ref rs_a11, .ref rs_a12, .ref rs_a13, .int rs_v14])), (rs_a5, .inl (cy 0, 12, .inl rs_f5)), (rs_a7, .inl (cy 0, 4, .inl rs_f7)), (rs_a8, .inl (cy 0, 4, .inl rs_f8)), (rs_a9, .inl (cy 0, 4, .inl rs_f9)), (rs_a11, .inl (cy 0, 6, .inl rs_f11)), (rs_a12, .inl (cy 0, 6, .inl rs_f12)), (rs_a13, .inl (cy 0, 6, .inl rs_f13))] sz)) 0 0 (va_A [(t0, .inr (9, [.ref tp, .ref nu, .ref se, .ref da, .ref di, .int tf, .int tg])), (nu, .inl (cy 0, 3, .inl (fun _ => 0))), (se, .inl (cy 3, 2, .inr (.inr (.inr (.inr (ar2 e0 e1)))))), (e0, .inr (6, [.int e0_v0, .int e0_v1, .int e0_v2, .int e0_v3, .int e0_v4, .ref e0_a5, .int e0_v6, .ref e0_a7, .ref e0_a8, .ref e0_a9, .int e0_v10, .ref e0_a11, .ref e0_a12, .ref e0_a13, .int e0_v14])), (e0_a5, .inl (cy 0, 12, .inl e0_f5)), (e0_a7, .inl (cy 0, 4, .inl e0_f7)), (e0_a8, .inl (cy 0, 4, .inl e0_f8)), (e0_a9, .inl (cy 0, 4, .inl e0_f9)), (e0_a11, .inl (cy 0, 6, .inl e0_f11)), (e0_a12, .inl (cy 0, 6, .inl e0_f12)), (e0_a13, .inl (cy 0, 6, .inl e0_f13)), (r0, .inr (4, [.ref rs, .ref rd, .ref ru, .int g0, .int g1, .ref rn, .ref rp, .int g2, .int g3, .int g4])), (rs, .inr (6, [.int rs_v0, .int rs_v1, .int rs_v2, .int rs_v3, .int rs_v4, .ref rs_a5, .int rs_v6, .ref rs_a7, .ref rs_a8, .ref rs_a9, .int rs_v10, .ref rs_a11, .ref rs_a12, .ref rs_a13, .int rs_v14])), (rs_a5, .inl (cy 0, 12, .inl rs_f5)), (rs_a7, .inl (cy 0, 4, .inl rs_f7)), (rs_a8, .inl (cy 0, 4, .inl rs_f8)), (rs_a9, .inl (cy 0, 4, .inl rs_f9)), (rs_a11, .inl (cy 0, 6, .inl rs_f11)), (rs_a12, .inl (cy 0, 6, .inl rs_f12)), (rs_a13, .inl (cy 0, 6, .inl rs_f13))] sz) := by
  refine Met.ofW (cc := cX9_keep) (maxL := 4) (ret := none) (by decide) rfl ?_
  intro p e s m args below meth c s₁ B hml hv
  obtain ⟨rfl, hsz, hP, hKW, hD0⟩ := hv
  have hK := hKW.1
  have hx := B.exec
  have hb := B.bytes
  have hr := B.returns
  have hts := atoms_spec (ws := wsX9_keep) B.pre
  have hown : s.vm.findClass RX9 = some m.cls := findClass_of_methodNamed B.named
  have hlocks := B.notSynchronized
  have in_4 : ∀ w ∈ u_ws RX4 TX4 10, w ∈ wsX9_keep := by decide +kernel
  have in_9 : ∀ w ∈ u_ws RX9 TX9 7, w ∈ wsX9_keep := by decide +kernel
  have fl_25 := hts (.fieldLink RX9 25 "ShoalClaims$Told" "seas" "[LShoalClaims$Sea;") (by decide +kernel)
  have fl_72 := hts (.fieldLink RX9 72 "ShoalClaims$Reader" "sea" "LShoalClaims$Sea;") (by decide +kernel)
  have fl_18 := hts (.fieldLink RX9 18 "ShoalClaims$Told" "numbers" "[I") (by decide +kernel)
  have hy_3 := hts (.methodLink RX9 86 Lib.Math.max.name) (by decide +kernel)
  have hy_4 := hts (.static Lib.Math.max.name) (by decide +kernel)
  have hy_5 := hts (.initialized "java/lang/Math") (by decide +kernel)
  have hy_6 := hts (.code Lib.Math.max.name Lib.Math.max.code 2 (some .int)) (by decide +kernel)
  subst hsz
  have hD := hD0.self (sz := s.heap.size)
  generalize hAe : va_A [(t0, .inr (9, [.ref tp, .ref nu, .ref se, .ref da, .ref di, .int tf, .int tg])), (nu, .inl (cy 0, 3, .inl (fun _ => 0))), (se, .inl (cy 3, 2, .inr (.inr (.inr (.inr (ar2 e0 e1)))))), (e0, .inr (6, [.int e0_v0, .int e0_v1, .int e0_v2, .int e0_v3, .int e0_v4, .ref e0_a5, .int e0_v6, .ref e0_a7, .ref e0_a8, .ref e0_a9, .int e0_v10, .ref e0_a11, .ref e0_a12, .ref e0_a13, .int e0_v14])), (e0_a5, .inl (cy 0, 12, .inl e0_f5)), (e0_a7, .inl (cy 0, 4, .inl e0_f7)), (e0_a8, .inl (cy 0, 4, .inl e0_f8)), (e0_a9, .inl (cy 0, 4, .inl e0_f9)), (e0_a11, .inl (cy 0, 6, .inl e0_f11)), (e0_a12, .inl (cy 0, 6, .inl e0_f12)), (e0_a13, .inl (cy 0, 6, .inl e0_f13)), (r0, .inr (4, [.ref rs, .ref rd, .ref ru, .int g0, .int g1, .ref rn, .ref rp, .int g2, .int g3, .int g4])), (rs, .inr (6, [.int rs_v0, .int rs_v1, .int rs_v2, .int rs_v3, .int rs_v4, .ref rs_a5, .int rs_v6, .ref rs_a7, .ref rs_a8, .ref rs_a9, .int rs_v10, .ref rs_a11, .ref rs_a12, .ref rs_a13, .int rs_v14])), (rs_a5, .inl (cy 0, 12, .inl rs_f5)), (rs_a7, .inl (cy 0, 4, .inl rs_f7)), (rs_a8, .inl (cy 0, 4, .inl rs_f8)), (rs_a9, .inl (cy 0, 4, .inl rs_f9)), (rs_a11, .inl (cy 0, 6, .inl rs_f11)), (rs_a12, .inl (cy 0, 6, .inl rs_f12)), (rs_a13, .inl (cy 0, 6, .inl rs_f13))] s.heap.size = A at hD ⊢
  have hA : ∀ q : Nat, s.heap.size ≤ q → A q := fun q h => by rw [← hAe]; exact Or.inr h
  have hS : va_S A s.heap s.heap [] := va_S.rf
  have hP : va_P D vwCl [(t0, .inr (9, [.ref tp, .ref nu, .ref se, .ref da, .ref di, .int tf, .int tg])), (nu, .inl (cy 0, 3, .inl (fun _ => 0))), (se, .inl (cy 3, 2, .inr (.inr (.inr (.inr (ar2 e0 e1)))))), (e0, .inr (6, [.int e0_v0, .int e0_v1, .int e0_v2, .int e0_v3, .int e0_v4, .ref e0_a5, .int e0_v6, .ref e0_a7, .ref e0_a8, .ref e0_a9, .int e0_v10, .ref e0_a11, .ref e0_a12, .ref e0_a13, .int e0_v14])), (e0_a5, .inl (cy 0, 12, .inl e0_f5)), (e0_a7, .inl (cy 0, 4, .inl e0_f7)), (e0_a8, .inl (cy 0, 4, .inl e0_f8)), (e0_a9, .inl (cy 0, 4, .inl e0_f9)), (e0_a11, .inl (cy 0, 6, .inl e0_f11)), (e0_a12, .inl (cy 0, 6, .inl e0_f12)), (e0_a13, .inl (cy 0, 6, .inl e0_f13)), (r0, .inr (4, [.ref rs, .ref rd, .ref ru, .int g0, .int g1, .ref rn, .ref rp, .int g2, .int g3, .int g4])), (rs, .inr (6, [.int rs_v0, .int rs_v1, .int rs_v2, .int rs_v3, .int rs_v4, .ref rs_a5, .int rs_v6, .ref rs_a7, .ref rs_a8, .ref rs_a9, .int rs_v10, .ref rs_a11, .ref rs_a12, .ref rs_a13, .int rs_v14])), (rs_a5, .inl (cy 0, 12, .inl rs_f5)), (rs_a7, .inl (cy 0, 4, .inl rs_f7)), (rs_a8, .inl (cy 0, 4, .inl rs_f8)), (rs_a9, .inl (cy 0, 4, .inl rs_f9)), (rs_a11, .inl (cy 0, 6, .inl rs_f11)), (rs_a12, .inl (cy 0, 6, .inl rs_f12)), (rs_a13, .inl (cy 0, 6, .inl rs_f13))] s.heap := hP
  have hl := lv_entry ([.ref t0, .ref r0, .int 0, .int 0]) (n := 4) (Nat.le_of_ble_eq_true rfl)
  rw [lg_entry_eq]
  generalize (lg_sl ([.ref t0, .ref r0, .int 0, .int 0]) ++ List.replicate (4 - (lg_sl ([.ref t0, .ref r0, .int 0, .int 0])).length) Slot.unset).toArray = ls at hl ⊢
  have hl : lv_has ls 4 [(0, .ref t0), (1, .ref r0), (2, .int 0), (3, .int 0)] := hl
  refine lv_iload_n hx hb dX9_keep_0 rfl (lv_at hl 2 rfl) ?_
  refine lv_if_ne (tgt := 20) hx hb dX9_keep_1 (by decide) (fun c_1 => absurd (by decide +kernel) c_1) (fun _ => ?_)
  refine lv_aload_n hx hb dX9_keep_4 rfl (lv_at hl 0 rfl) ?_
  refine va_get (D := D) (ci := 9) (v := .ref se) (C := RX9) (T := TX9) (N := 7) hx hb hts in_9 hown hK hP 0 rfl rfl 2 (by decide) fl_25 (fun _ h9 => h9) rfl dX9_keep_5 ?_
  refine lv_iload_n hx hb dX9_keep_8 rfl (lv_at hl 3 rfl) ?_
  refine va_aldq hx hb hK hP 2 3 rfl rfl (vi_c (by decide +kernel)) dX9_keep_9 ?_
  refine tp_v (.ref e0) (rfl) ?_
  refine lv_aload_n hx hb dX9_keep_10 rfl (lv_at hl 1 rfl) ?_
  refine va_get (D := D) (ci := 4) (v := .ref rs) (C := RX4) (T := TX4) (N := 10) hx hb hts in_4 hown hK hP 11 rfl rfl 0 (by decide) fl_72 (fun _ h9 => h9) rfl dX9_keep_11 ?_
  have hPc_2 := hP.sub (ws' := [(e0, .inr (6, [.int e0_v0, .int e0_v1, .int e0_v2, .int e0_v3, .int e0_v4, .ref e0_a5, .int e0_v6, .ref e0_a7, .ref e0_a8, .ref e0_a9, .int e0_v10, .ref e0_a11, .ref e0_a12, .ref e0_a13, .int e0_v14])), (e0_a5, .inl (cy 0, 12, .inl e0_f5)), (e0_a7, .inl (cy 0, 4, .inl e0_f7)), (e0_a8, .inl (cy 0, 4, .inl e0_f8)), (e0_a9, .inl (cy 0, 4, .inl e0_f9)), (e0_a11, .inl (cy 0, 6, .inl e0_f11)), (e0_a12, .inl (cy 0, 6, .inl e0_f12)), (e0_a13, .inl (cy 0, 6, .inl e0_f13)), (rs, .inr (6, [.int rs_v0, .int rs_v1, .int rs_v2, .int rs_v3, .int rs_v4, .ref rs_a5, .int rs_v6, .ref rs_a7, .ref rs_a8, .ref rs_a9, .int rs_v10, .ref rs_a11, .ref rs_a12, .ref rs_a13, .int rs_v14])), (rs_a5, .inl (cy 0, 12, .inl rs_f5)), (rs_a7, .inl (cy 0, 4, .inl rs_f7)), (rs_a8, .inl (cy 0, 4, .inl rs_f8)), (rs_a9, .inl (cy 0, 4, .inl rs_f9)), (rs_a11, .inl (cy 0, 6, .inl rs_f11)), (rs_a12, .inl (cy 0, 6, .inl rs_f12)), (rs_a13, .inl (cy 0, 6, .inl rs_f13))]) [3, 4, 5, 6, 7, 8, 9, 10, 12, 13, 14, 15, 16, 17, 18, 19] rfl
  have hDc_3 := hD.sub (ws' := [(e0, .inr (6, [.int e0_v0, .int e0_v1, .int e0_v2, .int e0_v3, .int e0_v4, .ref e0_a5, .int e0_v6, .ref e0_a7, .ref e0_a8, .ref e0_a9, .int e0_v10, .ref e0_a11, .ref e0_a12, .ref e0_a13, .int e0_v14])), (e0_a5, .inl (cy 0, 12, .inl e0_f5)), (e0_a7, .inl (cy 0, 4, .inl e0_f7)), (e0_a8, .inl (cy 0, 4, .inl e0_f8)), (e0_a9, .inl (cy 0, 4, .inl e0_f9)), (e0_a11, .inl (cy 0, 6, .inl e0_f11)), (e0_a12, .inl (cy 0, 6, .inl e0_f12)), (e0_a13, .inl (cy 0, 6, .inl e0_f13)), (rs, .inr (6, [.int rs_v0, .int rs_v1, .int rs_v2, .int rs_v3, .int rs_v4, .ref rs_a5, .int rs_v6, .ref rs_a7, .ref rs_a8, .ref rs_a9, .int rs_v10, .ref rs_a11, .ref rs_a12, .ref rs_a13, .int rs_v14])), (rs_a5, .inl (cy 0, 12, .inl rs_f5)), (rs_a7, .inl (cy 0, 4, .inl rs_f7)), (rs_a8, .inl (cy 0, 4, .inl rs_f8)), (rs_a9, .inl (cy 0, 4, .inl rs_f9)), (rs_a11, .inl (cy 0, 6, .inl rs_f11)), (rs_a12, .inl (cy 0, 6, .inl rs_f12)), (rs_a13, .inl (cy 0, 6, .inl rs_f13))]) [3, 4, 5, 6, 7, 8, 9, 10, 12, 13, 14, 15, 16, 17, 18, 19] (by decide) rfl
  have hFc_4 := va_free (wc := [(e0, .inr (6, [.int e0_v0, .int e0_v1, .int e0_v2, .int e0_v3, .int e0_v4, .ref e0_a5, .int e0_v6, .ref e0_a7, .ref e0_a8, .ref e0_a9, .int e0_v10, .ref e0_a11, .ref e0_a12, .ref e0_a13, .int e0_v14])), (e0_a5, .inl (cy 0, 12, .inl e0_f5)), (e0_a7, .inl (cy 0, 4, .inl e0_f7)), (e0_a8, .inl (cy 0, 4, .inl e0_f8)), (e0_a9, .inl (cy 0, 4, .inl e0_f9)), (e0_a11, .inl (cy 0, 6, .inl e0_f11)), (e0_a12, .inl (cy 0, 6, .inl e0_f12)), (e0_a13, .inl (cy 0, 6, .inl e0_f13)), (rs, .inr (6, [.int rs_v0, .int rs_v1, .int rs_v2, .int rs_v3, .int rs_v4, .ref rs_a5, .int rs_v6, .ref rs_a7, .ref rs_a8, .ref rs_a9, .int rs_v10, .ref rs_a11, .ref rs_a12, .ref rs_a13, .int rs_v14])), (rs_a5, .inl (cy 0, 12, .inl rs_f5)), (rs_a7, .inl (cy 0, 4, .inl rs_f7)), (rs_a8, .inl (cy 0, 4, .inl rs_f8)), (rs_a9, .inl (cy 0, 4, .inl rs_f9)), (rs_a11, .inl (cy 0, 6, .inl rs_f11)), (rs_a12, .inl (cy 0, 6, .inl rs_f12)), (rs_a13, .inl (cy 0, 6, .inl rs_f13))]) hD hS hA [3, 4, 5, 6, 7, 8, 9, 10, 12, 13, 14, 15, 16, 17, 18, 19] rfl
  refine va_callv (va_runV (As := [.ref rs]) (rest := []) ⟨hx, hb, hml, hown, hts⟩ (c_X6_copyFrom l D cy e0 rs e0_v0 e0_v1 e0_v2 e0_v3 e0_v4 e0_a5 e0_f5 e0_v6 e0_a7 e0_f7 e0_a8 e0_f8 e0_a9 e0_f9 e0_v10 e0_a11 e0_f11 e0_a12 e0_f12 e0_a13 e0_f13 e0_v14 rs_v0 rs_v1 rs_v2 rs_v3 rs_v4 rs_a5 rs_f5 rs_v6 rs_a7 rs_f7 rs_a8 rs_f8 rs_a9 rs_f9 rs_v10 rs_a11 rs_f11 rs_a12 rs_f12 rs_a13 rs_f13 rs_v14 s.heap.size) (cwV 1 hts gX9_keep_X6_copyFrom rfl rfl rfl (by decide +kernel) ⟨Nat.le_of_ble_eq_true rfl, Nat.le_of_ble_eq_true rfl⟩) ⟨pwB, va_recv hK hPc_2 (ci := 6) (q0 := 0) rfl rfl, fun U hU hW => ⟨rfl, PW.of hU hW hKW hPc_2 hDc_3⟩⟩ rfl rfl hl.1 rfl (lv_room (Nat.le_of_ble_eq_true rfl)) dX9_keep_14 ⟨by decide +kernel, by decide +kernel⟩) hS (fun q _ h => hFc_4 q h) hFc_4 (fun u t H1 locs ht hvm hw_5 hB hz1 hk1 hS => ?_)
  obtain ⟨f_6, f_7, f_8, f_9, f_10, f_11, f_12, hP1, hD1⟩ := hB
  rw [ht] at hP1
  obtain ⟨hP, hD⟩ := va_join (wr := [(t0, .inr (9, [.ref tp, .ref nu, .ref se, .ref da, .ref di, .int tf, .int tg])), (nu, .inl (cy 0, 3, .inl (fun _ => 0))), (se, .inl (cy 3, 2, .inr (.inr (.inr (.inr (ar2 e0 e1)))))), (r0, .inr (4, [.ref rs, .ref rd, .ref ru, .int g0, .int g1, .ref rn, .ref rp, .int g2, .int g3, .int g4]))]) (w1 := [(e0, .inr (6, [.int rs_v0, .int rs_v1, .int rs_v2, .int rs_v3, .int rs_v4, .ref e0_a5, .int rs_v6, .ref e0_a7, .ref e0_a8, .ref e0_a9, .int rs_v10, .ref e0_a11, .ref e0_a12, .ref e0_a13, .int rs_v14])), (e0_a5, .inl (cy 0, 12, .inl f_6)), (e0_a7, .inl (cy 0, 4, .inl f_7)), (e0_a8, .inl (cy 0, 4, .inl f_8)), (e0_a9, .inl (cy 0, 4, .inl f_9)), (e0_a11, .inl (cy 0, 6, .inl f_10)), (e0_a12, .inl (cy 0, 6, .inl f_11)), (e0_a13, .inl (cy 0, 6, .inl f_12)), (rs, .inr (6, [.int rs_v0, .int rs_v1, .int rs_v2, .int rs_v3, .int rs_v4, .ref rs_a5, .int rs_v6, .ref rs_a7, .ref rs_a8, .ref rs_a9, .int rs_v10, .ref rs_a11, .ref rs_a12, .ref rs_a13, .int rs_v14])), (rs_a5, .inl (cy 0, 12, .inl rs_f5)), (rs_a7, .inl (cy 0, 4, .inl rs_f7)), (rs_a8, .inl (cy 0, 4, .inl rs_f8)), (rs_a9, .inl (cy 0, 4, .inl rs_f9)), (rs_a11, .inl (cy 0, 6, .inl rs_f11)), (rs_a12, .inl (cy 0, 6, .inl rs_f12)), (rs_a13, .inl (cy 0, 6, .inl rs_f13))]) hP hD [3, 4, 5, 6, 7, 8, 9, 10, 12, 13, 14, 15, 16, 17, 18, 19] [0, 1, 2, 11] rfl rfl (by decide) (by decide) hk1 hFc_4 hP1 hD1
  generalize H1 = H at hP hS ⊢
  have hP : va_P D vwCl [(t0, .inr (9, [.ref tp, .ref nu, .ref se, .ref da, .ref di, .int tf, .int tg])), (nu, .inl (cy 0, 3, .inl (fun _ => 0))), (se, .inl (cy 3, 2, .inr (.inr (.inr (.inr (ar2 e0 e1)))))), (r0, .inr (4, [.ref rs, .ref rd, .ref ru, .int g0, .int g1, .ref rn, .ref rp, .int g2, .int g3, .int g4])), (e0, .inr (6, [.int rs_v0, .int rs_v1, .int rs_v2, .int rs_v3, .int rs_v4, .ref e0_a5, .int rs_v6, .ref e0_a7, .ref e0_a8, .ref e0_a9, .int rs_v10, .ref e0_a11, .ref e0_a12, .ref e0_a13, .int rs_v14])), (e0_a5, .inl (cy 0, 12, .inl f_6)), (e0_a7, .inl (cy 0, 4, .inl f_7)), (e0_a8, .inl (cy 0, 4, .inl f_8)), (e0_a9, .inl (cy 0, 4, .inl f_9)), (e0_a11, .inl (cy 0, 6, .inl f_10)), (e0_a12, .inl (cy 0, 6, .inl f_11)), (e0_a13, .inl (cy 0, 6, .inl f_12)), (rs, .inr (6, [.int rs_v0, .int rs_v1, .int rs_v2, .int rs_v3, .int rs_v4, .ref rs_a5, .int rs_v6, .ref rs_a7, .ref rs_a8, .ref rs_a9, .int rs_v10, .ref rs_a11, .ref rs_a12, .ref rs_a13, .int rs_v14])), (rs_a5, .inl (cy 0, 12, .inl rs_f5)), (rs_a7, .inl (cy 0, 4, .inl rs_f7)), (rs_a8, .inl (cy 0, 4, .inl rs_f8)), (rs_a9, .inl (cy 0, 4, .inl rs_f9)), (rs_a11, .inl (cy 0, 6, .inl rs_f11)), (rs_a12, .inl (cy 0, 6, .inl rs_f12)), (rs_a13, .inl (cy 0, 6, .inl rs_f13))] H := hP
  have hD : va_D A [(t0, .inr (9, [.ref tp, .ref nu, .ref se, .ref da, .ref di, .int tf, .int tg])), (nu, .inl (cy 0, 3, .inl (fun _ => 0))), (se, .inl (cy 3, 2, .inr (.inr (.inr (.inr (ar2 e0 e1)))))), (r0, .inr (4, [.ref rs, .ref rd, .ref ru, .int g0, .int g1, .ref rn, .ref rp, .int g2, .int g3, .int g4])), (e0, .inr (6, [.int rs_v0, .int rs_v1, .int rs_v2, .int rs_v3, .int rs_v4, .ref e0_a5, .int rs_v6, .ref e0_a7, .ref e0_a8, .ref e0_a9, .int rs_v10, .ref e0_a11, .ref e0_a12, .ref e0_a13, .int rs_v14])), (e0_a5, .inl (cy 0, 12, .inl f_6)), (e0_a7, .inl (cy 0, 4, .inl f_7)), (e0_a8, .inl (cy 0, 4, .inl f_8)), (e0_a9, .inl (cy 0, 4, .inl f_9)), (e0_a11, .inl (cy 0, 6, .inl f_10)), (e0_a12, .inl (cy 0, 6, .inl f_11)), (e0_a13, .inl (cy 0, 6, .inl f_12)), (rs, .inr (6, [.int rs_v0, .int rs_v1, .int rs_v2, .int rs_v3, .int rs_v4, .ref rs_a5, .int rs_v6, .ref rs_a7, .ref rs_a8, .ref rs_a9, .int rs_v10, .ref rs_a11, .ref rs_a12, .ref rs_a13, .int rs_v14])), (rs_a5, .inl (cy 0, 12, .inl rs_f5)), (rs_a7, .inl (cy 0, 4, .inl rs_f7)), (rs_a8, .inl (cy 0, 4, .inl rs_f8)), (rs_a9, .inl (cy 0, 4, .inl rs_f9)), (rs_a11, .inl (cy 0, 6, .inl rs_f11)), (rs_a12, .inl (cy 0, 6, .inl rs_f12)), (rs_a13, .inl (cy 0, 6, .inl rs_f13))] := hD
  refine lv_goto (tgt := 54) hx hb dX9_keep_17 (by decide) ?_
  refine lv_aload_n hx hb dX9_keep_54 rfl (lv_at hl 0 rfl) ?_
  refine va_get (D := D) (ci := 9) (v := .ref nu) (C := RX9) (T := TX9) (N := 7) hx hb hts in_9 hown hK hP 0 rfl rfl 1 (by decide) fl_18 (fun _ h9 => h9) rfl dX9_keep_55 ?_
  refine lv_iload_n hx hb dX9_keep_58 rfl (lv_at hl 2 rfl) ?_
  refine lv_aload_n hx hb dX9_keep_59 rfl (lv_at hl 0 rfl) ?_
  refine va_get (D := D) (ci := 9) (v := .ref nu) (C := RX9) (T := TX9) (N := 7) hx hb hts in_9 hown hK hP 0 rfl rfl 1 (by decide) fl_18 (fun _ h9 => h9) rfl dX9_keep_60 ?_
  refine lv_iload_n hx hb dX9_keep_63 rfl (lv_at hl 2 rfl) ?_
  refine va_iald hx hb hK hP 1 0 rfl rfl (vi_c (by decide +kernel)) dX9_keep_64 ?_
  refine tp_i 0 rfl ?_
  refine lv_iload_n hx hb dX9_keep_65 rfl (lv_at hl 3 rfl) ?_
  refine lv_iconst (v := 1) hx hb dX9_keep_66 (by decide +kernel) ?_
  refine lv_iadd hx hb dX9_keep_67 ?_
  refine tp_i 1 (by decide +kernel) ?_
  refine va_mmax hx hb (hml.trans hl.1.symm) hown hy_3 hy_4 hy_5 hy_6 (Nat.le_of_ble_eq_true rfl) (Nat.le_of_ble_eq_true rfl) (Nat.le_of_ble_eq_true rfl) (Nat.le_of_ble_eq_true rfl) dX9_keep_68 ?_
  refine tp_i 1 (by decide +kernel) ?_
  refine va_iast hx hb hK hP hD hS 1 0 rfl rfl (vi_c (by decide +kernel)) dX9_keep_71 (fun H locs hP hD hS => ?_)
  have hP : va_P D vwCl [(t0, .inr (9, [.ref tp, .ref nu, .ref se, .ref da, .ref di, .int tf, .int tg])), (nu, .inl (cy 0, 3, .inl (upd (fun _ => 0) 0 1))), (se, .inl (cy 3, 2, .inr (.inr (.inr (.inr (ar2 e0 e1)))))), (r0, .inr (4, [.ref rs, .ref rd, .ref ru, .int g0, .int g1, .ref rn, .ref rp, .int g2, .int g3, .int g4])), (e0, .inr (6, [.int rs_v0, .int rs_v1, .int rs_v2, .int rs_v3, .int rs_v4, .ref e0_a5, .int rs_v6, .ref e0_a7, .ref e0_a8, .ref e0_a9, .int rs_v10, .ref e0_a11, .ref e0_a12, .ref e0_a13, .int rs_v14])), (e0_a5, .inl (cy 0, 12, .inl f_6)), (e0_a7, .inl (cy 0, 4, .inl f_7)), (e0_a8, .inl (cy 0, 4, .inl f_8)), (e0_a9, .inl (cy 0, 4, .inl f_9)), (e0_a11, .inl (cy 0, 6, .inl f_10)), (e0_a12, .inl (cy 0, 6, .inl f_11)), (e0_a13, .inl (cy 0, 6, .inl f_12)), (rs, .inr (6, [.int rs_v0, .int rs_v1, .int rs_v2, .int rs_v3, .int rs_v4, .ref rs_a5, .int rs_v6, .ref rs_a7, .ref rs_a8, .ref rs_a9, .int rs_v10, .ref rs_a11, .ref rs_a12, .ref rs_a13, .int rs_v14])), (rs_a5, .inl (cy 0, 12, .inl rs_f5)), (rs_a7, .inl (cy 0, 4, .inl rs_f7)), (rs_a8, .inl (cy 0, 4, .inl rs_f8)), (rs_a9, .inl (cy 0, 4, .inl rs_f9)), (rs_a11, .inl (cy 0, 6, .inl rs_f11)), (rs_a12, .inl (cy 0, 6, .inl rs_f12)), (rs_a13, .inl (cy 0, 6, .inl rs_f13))] H := hP
  have hD : va_D A [(t0, .inr (9, [.ref tp, .ref nu, .ref se, .ref da, .ref di, .int tf, .int tg])), (nu, .inl (cy 0, 3, .inl (upd (fun _ => 0) 0 1))), (se, .inl (cy 3, 2, .inr (.inr (.inr (.inr (ar2 e0 e1)))))), (r0, .inr (4, [.ref rs, .ref rd, .ref ru, .int g0, .int g1, .ref rn, .ref rp, .int g2, .int g3, .int g4])), (e0, .inr (6, [.int rs_v0, .int rs_v1, .int rs_v2, .int rs_v3, .int rs_v4, .ref e0_a5, .int rs_v6, .ref e0_a7, .ref e0_a8, .ref e0_a9, .int rs_v10, .ref e0_a11, .ref e0_a12, .ref e0_a13, .int rs_v14])), (e0_a5, .inl (cy 0, 12, .inl f_6)), (e0_a7, .inl (cy 0, 4, .inl f_7)), (e0_a8, .inl (cy 0, 4, .inl f_8)), (e0_a9, .inl (cy 0, 4, .inl f_9)), (e0_a11, .inl (cy 0, 6, .inl f_10)), (e0_a12, .inl (cy 0, 6, .inl f_11)), (e0_a13, .inl (cy 0, 6, .inl f_12)), (rs, .inr (6, [.int rs_v0, .int rs_v1, .int rs_v2, .int rs_v3, .int rs_v4, .ref rs_a5, .int rs_v6, .ref rs_a7, .ref rs_a8, .ref rs_a9, .int rs_v10, .ref rs_a11, .ref rs_a12, .ref rs_a13, .int rs_v14])), (rs_a5, .inl (cy 0, 12, .inl rs_f5)), (rs_a7, .inl (cy 0, 4, .inl rs_f7)), (rs_a8, .inl (cy 0, 4, .inl rs_f8)), (rs_a9, .inl (cy 0, 4, .inl rs_f9)), (rs_a11, .inl (cy 0, 6, .inl rs_f11)), (rs_a12, .inl (cy 0, 6, .inl rs_f12)), (rs_a13, .inl (cy 0, 6, .inl rs_f13))] := hD
  have hP9 := hP.sub (ws' := []) [] rfl
  have hD9 := hD.sub (ws' := []) [] (by decide) rfl
  exact W.vret hx hb hr (fun t ht hW => ⟨⟨(), rfl, trivial, by rw [ht]; exact hP9, hD9⟩, hS.F ht⟩) hS.2.2 dX9_keep_72
set_option maxHeartbeats 4000000 in
set_option maxRecDepth 100000 in
theorem c_X9_keep_1 (l : Launch) (D : va_G) (cy : Nat → ClassId) (t0 : Nat) (tp : Nat) (nu : Nat) (se : Nat) (da : Nat) (di : Nat) (tf : Int32) (tg : Int32) (d1 : Nat) (rs : Nat) (d0 : Nat) (d0_v0 : Int32) (d0_a1 : Nat) (d0_f1 : Nat → Int32) (d0_a2 : Nat) (d0_f2 : Nat → Int32) (r0 : Nat) (ru : Nat) (rn : Nat) (rp : Nat) (g0 : Int32) (g1 : Int32) (g2 : Int32) (g3 : Int32) (g4 : Int32) (rd : Nat) (rd_v0 : Int32) (rd_a1 : Nat) (rd_f1 : Nat → Int32) (rd_a2 : Nat) (rd_f2 : Nat → Int32) (sz : Nat)  : Met l yX9_keep wsX9_keep ({ frames := 2, cells := 0, slots := 0, locals := 61 } : Room) (va_Pc [.ref t0, .ref r0, .int 1, .int 0] (PW D cy [(t0, .inr (9, [.ref tp, .ref nu, .ref se, .ref da, .ref di, .int tf, .int tg])), (nu, .inl (cy 0, 3, .inl (fun _ => 0))), (da, .inl (cy 4, 2, .inr (.inr (.inr (.inr (ar2 d0 d1)))))), (d0, .inr (1, [.int d0_v0, .ref d0_a1, .ref d0_a2])), (d0_a1, .inl (cy 0, 30, .inl d0_f1)), (d0_a2, .inl (cy 0, 90, .inl d0_f2)), (r0, .inr (4, [.ref rs, .ref rd, .ref ru, .int g0, .int g1, .ref rn, .ref rp, .int g2, .int g3, .int g4])), (rd, .inr (1, [.int rd_v0, .ref rd_a1, .ref rd_a2])), (rd_a1, .inl (cy 0, 30, .inl rd_f1)), (rd_a2, .inl (cy 0, 90, .inl rd_f2))] sz)) (va_Qv (fun _ : Unit => True) (fun _ t => va_P D vwCl [] t.heap ∧ va_D (va_A [(t0, .inr (9, [.ref tp, .ref nu, .ref se, .ref da, .ref di, .int tf, .int tg])), (nu, .inl (cy 0, 3, .inl (fun _ => 0))), (da, .inl (cy 4, 2, .inr (.inr (.inr (.inr (ar2 d0 d1)))))), (d0, .inr (1, [.int d0_v0, .ref d0_a1, .ref d0_a2])), (d0_a1, .inl (cy 0, 30, .inl d0_f1)), (d0_a2, .inl (cy 0, 90, .inl d0_f2)), (r0, .inr (4, [.ref rs, .ref rd, .ref ru, .int g0, .int g1, .ref rn, .ref rp, .int g2, .int g3, .int g4])), (rd, .inr (1, [.int rd_v0, .ref rd_a1, .ref rd_a2])), (rd_a1, .inl (cy 0, 30, .inl rd_f1)), (rd_a2, .inl (cy 0, 90, .inl rd_f2))] sz) []) (va_A [(t0, .inr (9, [.ref tp, .ref nu, .ref se, .ref da, .ref di, .int tf, .int tg])), (nu, .inl (cy 0, 3, .inl (fun _ => 0))), (da, .inl (cy 4, 2, .inr (.inr (.inr (.inr (ar2 d0 d1)))))), (d0, .inr (1, [.int d0_v0, .ref d0_a1, .ref d0_a2])), (d0_a1, .inl (cy 0, 30, .inl d0_f1)), (d0_a2, .inl (cy 0, 90, .inl d0_f2)), (r0, .inr (4, [.ref rs, .ref rd, .ref ru, .int g0, .int g1, .ref rn, .ref rp, .int g2, .int g3, .int g4])), (rd, .inr (1, [.int rd_v0, .ref rd_a1, .ref rd_a2])), (rd_a1, .inl (cy 0, 30, .inl rd_f1)), (rd_a2, .inl (cy 0, 90, .inl rd_f2))] sz)) 0 0 (va_A [(t0, .inr (9, [.ref tp, .ref nu, .ref se, .ref da, .ref di, .int tf, .int tg])), (nu, .inl (cy 0, 3, .inl (fun _ => 0))), (da, .inl (cy 4, 2, .inr (.inr (.inr (.inr (ar2 d0 d1)))))), (d0, .inr (1, [.int d0_v0, .ref d0_a1, .ref d0_a2])), (d0_a1, .inl (cy 0, 30, .inl d0_f1)), (d0_a2, .inl (cy 0, 90, .inl d0_f2)), (r0, .inr (4, [.ref rs, .ref rd, .ref ru, .int g0, .int g1, .ref rn, .ref rp, .int g2, .int g3, .int g4])), (rd, .inr (1, [.int rd_v0, .ref rd_a1, .ref rd_a2])), (rd_a1, .inl (cy 0, 30, .inl rd_f1)), (rd_a2, .inl (cy 0, 90, .inl rd_f2))] sz) := by
  refine Met.ofW (cc := cX9_keep) (maxL := 4) (ret := none) (by decide) rfl ?_
  intro p e s m args below meth c s₁ B hml hv
  obtain ⟨rfl, hsz, hP, hKW, hD0⟩ := hv
  have hK := hKW.1
  have hx := B.exec
  have hb := B.bytes
  have hr := B.returns
  have hts := atoms_spec (ws := wsX9_keep) B.pre
  have hown : s.vm.findClass RX9 = some m.cls := findClass_of_methodNamed B.named
  have hlocks := B.notSynchronized
  have in_4 : ∀ w ∈ u_ws RX4 TX4 10, w ∈ wsX9_keep := by decide +kernel
  have in_9 : ∀ w ∈ u_ws RX9 TX9 7, w ∈ wsX9_keep := by decide +kernel
  have fl_32 := hts (.fieldLink RX9 32 "ShoalClaims$Told" "days" "[LShoalClaims$Day;") (by decide +kernel)
  have fl_78 := hts (.fieldLink RX9 78 "ShoalClaims$Reader" "day" "LShoalClaims$Day;") (by decide +kernel)
  have fl_18 := hts (.fieldLink RX9 18 "ShoalClaims$Told" "numbers" "[I") (by decide +kernel)
  have hy_3 := hts (.methodLink RX9 86 Lib.Math.max.name) (by decide +kernel)
  have hy_4 := hts (.static Lib.Math.max.name) (by decide +kernel)
  have hy_5 := hts (.initialized "java/lang/Math") (by decide +kernel)
  have hy_6 := hts (.code Lib.Math.max.name Lib.Math.max.code 2 (some .int)) (by decide +kernel)
  subst hsz
  have hD := hD0.self (sz := s.heap.size)
  generalize hAe : va_A [(t0, .inr (9, [.ref tp, .ref nu, .ref se, .ref da, .ref di, .int tf, .int tg])), (nu, .inl (cy 0, 3, .inl (fun _ => 0))), (da, .inl (cy 4, 2, .inr (.inr (.inr (.inr (ar2 d0 d1)))))), (d0, .inr (1, [.int d0_v0, .ref d0_a1, .ref d0_a2])), (d0_a1, .inl (cy 0, 30, .inl d0_f1)), (d0_a2, .inl (cy 0, 90, .inl d0_f2)), (r0, .inr (4, [.ref rs, .ref rd, .ref ru, .int g0, .int g1, .ref rn, .ref rp, .int g2, .int g3, .int g4])), (rd, .inr (1, [.int rd_v0, .ref rd_a1, .ref rd_a2])), (rd_a1, .inl (cy 0, 30, .inl rd_f1)), (rd_a2, .inl (cy 0, 90, .inl rd_f2))] s.heap.size = A at hD ⊢
  have hA : ∀ q : Nat, s.heap.size ≤ q → A q := fun q h => by rw [← hAe]; exact Or.inr h
  have hS : va_S A s.heap s.heap [] := va_S.rf
  have hP : va_P D vwCl [(t0, .inr (9, [.ref tp, .ref nu, .ref se, .ref da, .ref di, .int tf, .int tg])), (nu, .inl (cy 0, 3, .inl (fun _ => 0))), (da, .inl (cy 4, 2, .inr (.inr (.inr (.inr (ar2 d0 d1)))))), (d0, .inr (1, [.int d0_v0, .ref d0_a1, .ref d0_a2])), (d0_a1, .inl (cy 0, 30, .inl d0_f1)), (d0_a2, .inl (cy 0, 90, .inl d0_f2)), (r0, .inr (4, [.ref rs, .ref rd, .ref ru, .int g0, .int g1, .ref rn, .ref rp, .int g2, .int g3, .int g4])), (rd, .inr (1, [.int rd_v0, .ref rd_a1, .ref rd_a2])), (rd_a1, .inl (cy 0, 30, .inl rd_f1)), (rd_a2, .inl (cy 0, 90, .inl rd_f2))] s.heap := hP
  have hl := lv_entry ([.ref t0, .ref r0, .int 1, .int 0]) (n := 4) (Nat.le_of_ble_eq_true rfl)
  rw [lg_entry_eq]
  generalize (lg_sl ([.ref t0, .ref r0, .int 1, .int 0]) ++ List.replicate (4 - (lg_sl ([.ref t0, .ref r0, .int 1, .int 0])).length) Slot.unset).toArray = ls at hl ⊢
  have hl : lv_has ls 4 [(0, .ref t0), (1, .ref r0), (2, .int 1), (3, .int 0)] := hl
  refine lv_iload_n hx hb dX9_keep_0 rfl (lv_at hl 2 rfl) ?_
  refine lv_if_ne (tgt := 20) hx hb dX9_keep_1 (by decide) (fun _ => ?_) (fun c_1 => absurd c_1 (by decide +kernel))
  refine lv_iload_n hx hb dX9_keep_20 rfl (lv_at hl 2 rfl) ?_
  refine lv_iconst (v := 1) hx hb dX9_keep_21 (by decide +kernel) ?_
  refine lv_icmp_ne (tgt := 41) hx hb dX9_keep_22 (by decide) (fun c_2 => absurd (by decide +kernel) c_2) (fun _ => ?_)
  refine lv_aload_n hx hb dX9_keep_25 rfl (lv_at hl 0 rfl) ?_
  refine va_get (D := D) (ci := 9) (v := .ref da) (C := RX9) (T := TX9) (N := 7) hx hb hts in_9 hown hK hP 0 rfl rfl 3 (by decide) fl_32 (fun _ h9 => h9) rfl dX9_keep_26 ?_
  refine lv_iload_n hx hb dX9_keep_29 rfl (lv_at hl 3 rfl) ?_
  refine va_aldq hx hb hK hP 2 4 rfl rfl (vi_c (by decide +kernel)) dX9_keep_30 ?_
  refine tp_v (.ref d0) (rfl) ?_
  refine lv_aload_n hx hb dX9_keep_31 rfl (lv_at hl 1 rfl) ?_
  refine va_get (D := D) (ci := 4) (v := .ref rd) (C := RX4) (T := TX4) (N := 10) hx hb hts in_4 hown hK hP 6 rfl rfl 1 (by decide) fl_78 (fun _ h9 => h9) rfl dX9_keep_32 ?_
  have hPc_3 := hP.sub (ws' := [(d0, .inr (1, [.int d0_v0, .ref d0_a1, .ref d0_a2])), (d0_a1, .inl (cy 0, 30, .inl d0_f1)), (d0_a2, .inl (cy 0, 90, .inl d0_f2)), (rd, .inr (1, [.int rd_v0, .ref rd_a1, .ref rd_a2])), (rd_a1, .inl (cy 0, 30, .inl rd_f1)), (rd_a2, .inl (cy 0, 90, .inl rd_f2))]) [3, 4, 5, 7, 8, 9] rfl
  have hDc_4 := hD.sub (ws' := [(d0, .inr (1, [.int d0_v0, .ref d0_a1, .ref d0_a2])), (d0_a1, .inl (cy 0, 30, .inl d0_f1)), (d0_a2, .inl (cy 0, 90, .inl d0_f2)), (rd, .inr (1, [.int rd_v0, .ref rd_a1, .ref rd_a2])), (rd_a1, .inl (cy 0, 30, .inl rd_f1)), (rd_a2, .inl (cy 0, 90, .inl rd_f2))]) [3, 4, 5, 7, 8, 9] (by decide) rfl
  have hFc_5 := va_free (wc := [(d0, .inr (1, [.int d0_v0, .ref d0_a1, .ref d0_a2])), (d0_a1, .inl (cy 0, 30, .inl d0_f1)), (d0_a2, .inl (cy 0, 90, .inl d0_f2)), (rd, .inr (1, [.int rd_v0, .ref rd_a1, .ref rd_a2])), (rd_a1, .inl (cy 0, 30, .inl rd_f1)), (rd_a2, .inl (cy 0, 90, .inl rd_f2))]) hD hS hA [3, 4, 5, 7, 8, 9] rfl
  refine va_callv (va_runV (As := [.ref rd]) (rest := []) ⟨hx, hb, hml, hown, hts⟩ (c_X1_copyFrom l D cy d0 rd d0_v0 d0_a1 d0_f1 d0_a2 d0_f2 rd_v0 rd_a1 rd_f1 rd_a2 rd_f2 s.heap.size) (cwV 1 hts gX9_keep_X1_copyFrom rfl rfl rfl (by decide +kernel) ⟨Nat.le_of_ble_eq_true rfl, Nat.le_of_ble_eq_true rfl⟩) ⟨pwB, va_recv hK hPc_3 (ci := 1) (q0 := 0) rfl rfl, fun U hU hW => ⟨rfl, PW.of hU hW hKW hPc_3 hDc_4⟩⟩ rfl rfl hl.1 rfl (lv_room (Nat.le_of_ble_eq_true rfl)) dX9_keep_35 ⟨by decide +kernel, by decide +kernel⟩) hS (fun q _ h => hFc_5 q h) hFc_5 (fun u t H1 locs ht hvm hw_6 hB hz1 hk1 hS => ?_)
  obtain ⟨f_7, f_8, hP1, hD1⟩ := hB
  rw [ht] at hP1
  obtain ⟨hP, hD⟩ := va_join (wr := [(t0, .inr (9, [.ref tp, .ref nu, .ref se, .ref da, .ref di, .int tf, .int tg])), (nu, .inl (cy 0, 3, .inl (fun _ => 0))), (da, .inl (cy 4, 2, .inr (.inr (.inr (.inr (ar2 d0 d1)))))), (r0, .inr (4, [.ref rs, .ref rd, .ref ru, .int g0, .int g1, .ref rn, .ref rp, .int g2, .int g3, .int g4]))]) (w1 := [(d0, .inr (1, [.int rd_v0, .ref d0_a1, .ref d0_a2])), (d0_a1, .inl (cy 0, 30, .inl f_7)), (d0_a2, .inl (cy 0, 90, .inl f_8)), (rd, .inr (1, [.int rd_v0, .ref rd_a1, .ref rd_a2])), (rd_a1, .inl (cy 0, 30, .inl rd_f1)), (rd_a2, .inl (cy 0, 90, .inl rd_f2))]) hP hD [3, 4, 5, 7, 8, 9] [0, 1, 2, 6] rfl rfl (by decide) (by decide) hk1 hFc_5 hP1 hD1
  generalize H1 = H at hP hS ⊢
  have hP : va_P D vwCl [(t0, .inr (9, [.ref tp, .ref nu, .ref se, .ref da, .ref di, .int tf, .int tg])), (nu, .inl (cy 0, 3, .inl (fun _ => 0))), (da, .inl (cy 4, 2, .inr (.inr (.inr (.inr (ar2 d0 d1)))))), (r0, .inr (4, [.ref rs, .ref rd, .ref ru, .int g0, .int g1, .ref rn, .ref rp, .int g2, .int g3, .int g4])), (d0, .inr (1, [.int rd_v0, .ref d0_a1, .ref d0_a2])), (d0_a1, .inl (cy 0, 30, .inl f_7)), (d0_a2, .inl (cy 0, 90, .inl f_8)), (rd, .inr (1, [.int rd_v0, .ref rd_a1, .ref rd_a2])), (rd_a1, .inl (cy 0, 30, .inl rd_f1)), (rd_a2, .inl (cy 0, 90, .inl rd_f2))] H := hP
  have hD : va_D A [(t0, .inr (9, [.ref tp, .ref nu, .ref se, .ref da, .ref di, .int tf, .int tg])), (nu, .inl (cy 0, 3, .inl (fun _ => 0))), (da, .inl (cy 4, 2, .inr (.inr (.inr (.inr (ar2 d0 d1)))))), (r0, .inr (4, [.ref rs, .ref rd, .ref ru, .int g0, .int g1, .ref rn, .ref rp, .int g2, .int g3, .int g4])), (d0, .inr (1, [.int rd_v0, .ref d0_a1, .ref d0_a2])), (d0_a1, .inl (cy 0, 30, .inl f_7)), (d0_a2, .inl (cy 0, 90, .inl f_8)), (rd, .inr (1, [.int rd_v0, .ref rd_a1, .ref rd_a2])), (rd_a1, .inl (cy 0, 30, .inl rd_f1)), (rd_a2, .inl (cy 0, 90, .inl rd_f2))] := hD
  refine lv_goto (tgt := 54) hx hb dX9_keep_38 (by decide) ?_
  refine lv_aload_n hx hb dX9_keep_54 rfl (lv_at hl 0 rfl) ?_
  refine va_get (D := D) (ci := 9) (v := .ref nu) (C := RX9) (T := TX9) (N := 7) hx hb hts in_9 hown hK hP 0 rfl rfl 1 (by decide) fl_18 (fun _ h9 => h9) rfl dX9_keep_55 ?_
  refine lv_iload_n hx hb dX9_keep_58 rfl (lv_at hl 2 rfl) ?_
  refine lv_aload_n hx hb dX9_keep_59 rfl (lv_at hl 0 rfl) ?_
  refine va_get (D := D) (ci := 9) (v := .ref nu) (C := RX9) (T := TX9) (N := 7) hx hb hts in_9 hown hK hP 0 rfl rfl 1 (by decide) fl_18 (fun _ h9 => h9) rfl dX9_keep_60 ?_
  refine lv_iload_n hx hb dX9_keep_63 rfl (lv_at hl 2 rfl) ?_
  refine va_iald hx hb hK hP 1 0 rfl rfl (vi_c (by decide +kernel)) dX9_keep_64 ?_
  refine tp_i 0 rfl ?_
  refine lv_iload_n hx hb dX9_keep_65 rfl (lv_at hl 3 rfl) ?_
  refine lv_iconst (v := 1) hx hb dX9_keep_66 (by decide +kernel) ?_
  refine lv_iadd hx hb dX9_keep_67 ?_
  refine tp_i 1 (by decide +kernel) ?_
  refine va_mmax hx hb (hml.trans hl.1.symm) hown hy_3 hy_4 hy_5 hy_6 (Nat.le_of_ble_eq_true rfl) (Nat.le_of_ble_eq_true rfl) (Nat.le_of_ble_eq_true rfl) (Nat.le_of_ble_eq_true rfl) dX9_keep_68 ?_
  refine tp_i 1 (by decide +kernel) ?_
  refine va_iast hx hb hK hP hD hS 1 0 rfl rfl (vi_c (by decide +kernel)) dX9_keep_71 (fun H locs hP hD hS => ?_)
  have hP : va_P D vwCl [(t0, .inr (9, [.ref tp, .ref nu, .ref se, .ref da, .ref di, .int tf, .int tg])), (nu, .inl (cy 0, 3, .inl (upd (fun _ => 0) 1 1))), (da, .inl (cy 4, 2, .inr (.inr (.inr (.inr (ar2 d0 d1)))))), (r0, .inr (4, [.ref rs, .ref rd, .ref ru, .int g0, .int g1, .ref rn, .ref rp, .int g2, .int g3, .int g4])), (d0, .inr (1, [.int rd_v0, .ref d0_a1, .ref d0_a2])), (d0_a1, .inl (cy 0, 30, .inl f_7)), (d0_a2, .inl (cy 0, 90, .inl f_8)), (rd, .inr (1, [.int rd_v0, .ref rd_a1, .ref rd_a2])), (rd_a1, .inl (cy 0, 30, .inl rd_f1)), (rd_a2, .inl (cy 0, 90, .inl rd_f2))] H := hP
  have hD : va_D A [(t0, .inr (9, [.ref tp, .ref nu, .ref se, .ref da, .ref di, .int tf, .int tg])), (nu, .inl (cy 0, 3, .inl (upd (fun _ => 0) 1 1))), (da, .inl (cy 4, 2, .inr (.inr (.inr (.inr (ar2 d0 d1)))))), (r0, .inr (4, [.ref rs, .ref rd, .ref ru, .int g0, .int g1, .ref rn, .ref rp, .int g2, .int g3, .int g4])), (d0, .inr (1, [.int rd_v0, .ref d0_a1, .ref d0_a2])), (d0_a1, .inl (cy 0, 30, .inl f_7)), (d0_a2, .inl (cy 0, 90, .inl f_8)), (rd, .inr (1, [.int rd_v0, .ref rd_a1, .ref rd_a2])), (rd_a1, .inl (cy 0, 30, .inl rd_f1)), (rd_a2, .inl (cy 0, 90, .inl rd_f2))] := hD
  have hP9 := hP.sub (ws' := []) [] rfl
  have hD9 := hD.sub (ws' := []) [] (by decide) rfl
  exact W.vret hx hb hr (fun t ht hW => ⟨⟨(), rfl, trivial, by rw [ht]; exact hP9, hD9⟩, hS.F ht⟩) hS.2.2 dX9_keep_72
