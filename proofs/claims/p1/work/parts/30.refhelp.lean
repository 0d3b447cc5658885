theorem dX12_in_0 : decode cX12_in 0 = .ok (.iload_n 0, 1) := by decide +kernel
theorem dX12_in_1 : decode cX12_in 1 = .ok (.iload_n 1, 1) := by decide +kernel
theorem dX12_in_2 : decode cX12_in 2 = .ok (.if_icmp .lt 12, 3) := by decide +kernel
theorem dX12_in_14 : decode cX12_in 14 = .ok (.iconst 0, 1) := by decide +kernel
theorem dX12_in_15 : decode cX12_in 15 = .ok (.ireturn, 1) := by decide +kernel
theorem dX12_in_5 : decode cX12_in 5 = .ok (.iload_n 0, 1) := by decide +kernel
theorem dX12_in_6 : decode cX12_in 6 = .ok (.iload_n 2, 1) := by decide +kernel
theorem dX12_in_7 : decode cX12_in 7 = .ok (.if_icmp .gt 7, 3) := by decide +kernel
theorem dX12_in_10 : decode cX12_in 10 = .ok (.iconst 1, 1) := by decide +kernel
theorem dX12_in_11 : decode cX12_in 11 = .ok (.goto 4, 3) := by decide +kernel
theorem dX12_is_0 : decode cX12_is 0 = .ok (.iload_n 2, 1) := by decide +kernel
theorem dX12_is_1 : decode cX12_is 1 = .ok (.iconst 0, 1) := by decide +kernel
theorem dX12_is_2 : decode cX12_is 2 = .ok (.aload_n 0, 1) := by decide +kernel
theorem dX12_is_3 : decode cX12_is 3 = .ok (.getfield 23, 3) := by decide +kernel
theorem dX12_is_6 : decode cX12_is 6 = .ok (.iload_n 1, 1) := by decide +kernel
theorem dX12_is_7 : decode cX12_is 7 = .ok (.iaload, 1) := by decide +kernel
theorem dX12_is_8 : decode cX12_is 8 = .ok (.iconst 1, 1) := by decide +kernel
theorem dX12_is_9 : decode cX12_is 9 = .ok (.isub, 1) := by decide +kernel
theorem dX12_is_10 : decode cX12_is 10 = .ok (.invokestatic 129, 3) := by decide +kernel
set_option maxRecDepth 20000 in
theorem ggX12_is_X12_in : GoodIn wsX12_is wsX12_in := goodIn_r _ [5] (by decide +kernel) (by decide +kernel)
set_option maxRecDepth 20000 in
theorem gX12_is_X12_in : GoodIn wsX12_is (va_wsS RX12 129 yX12_in wsX12_in) := goodIn_app (goodIn_of _ (by decide +kernel)) ggX12_is_X12_in
theorem dX12_is_13 : decode cX12_is 13 = .ok (.ireturn, 1) := by decide +kernel
theorem dX12_hand_0 : decode cX12_hand 0 = .ok (.aload_n 0, 1) := by decide +kernel
theorem dX12_hand_1 : decode cX12_hand 1 = .ok (.iconst 0, 1) := by decide +kernel
theorem dX12_hand_2 : decode cX12_hand 2 = .ok (.iload_n 1, 1) := by decide +kernel
theorem dX12_hand_3 : decode cX12_hand 3 = .ok (.invokevirtual 272, 3) := by decide +kernel
set_option maxRecDepth 20000 in
theorem ggX12_hand_X12_is : GoodIn wsX12_hand wsX12_is := goodIn_r _ [14, 15, 16, 17, 13, 18, 24, 25, 26, 27, 28, 29, 30, 31, 32, 33, 34, 35, 36, 37, 38, 39, 40, 41, 42, 43, 44, 45, 46, 47, 48, 49, 50, 51, 52, 53, 54, 55, 56, 57, 58, 59, 60, 61, 62, 63, 64, 65, 66, 67, 68, 69, 70, 71, 72, 73, 74, 75, 76, 77, 78, 79, 80, 81, 82, 83, 84, 85, 86, 87] (by decide +kernel) (by decide +kernel)
set_option maxRecDepth 20000 in
theorem gX12_hand_X12_is : GoodIn wsX12_hand (wsV RX12 272 RX12 yX12_is wsX12_is) := goodIn_app (goodIn_of _ (by decide +kernel)) ggX12_hand_X12_is
theorem dX12_hand_6 : decode cX12_hand 6 = .ok (.ifCond .ne 5, 3) := by decide +kernel
theorem dX12_hand_9 : decode cX12_hand 9 = .ok (.iconst 0, 1) := by decide +kernel
theorem dX12_hand_10 : decode cX12_hand 10 = .ok (.ireturn, 1) := by decide +kernel
theorem dX12_handDispute_0 : decode cX12_handDispute 0 = .ok (.aload_n 0, 1) := by decide +kernel
theorem dX12_handDispute_1 : decode cX12_handDispute 1 = .ok (.iconst 2, 1) := by decide +kernel
theorem dX12_handDispute_2 : decode cX12_handDispute 2 = .ok (.iload_n 1, 1) := by decide +kernel
theorem dX12_handDispute_3 : decode cX12_handDispute 3 = .ok (.invokevirtual 272, 3) := by decide +kernel
set_option maxRecDepth 20000 in
theorem ggX12_handDispute_X12_is : GoodIn wsX12_handDispute wsX12_is := goodIn_r _ [8, 9, 10, 11, 7, 12, 26, 27, 28, 29, 30, 31, 32, 33, 34, 35, 36, 37, 38, 39, 40, 41, 42, 43, 44, 45, 46, 47, 48, 49, 50, 51, 52, 53, 54, 55, 56, 57, 58, 59, 60, 61, 62, 63, 64, 65, 66, 67, 68, 69, 70, 71, 72, 73, 74, 75, 76, 77, 78, 79, 80, 81, 82, 83, 84, 85, 86, 87, 88, 89] (by decide +kernel) (by decide +kernel)
set_option maxRecDepth 20000 in
theorem gX12_handDispute_X12_is : GoodIn wsX12_handDispute (wsV RX12 272 RX12 yX12_is wsX12_is) := goodIn_app (goodIn_of _ (by decide +kernel)) ggX12_handDispute_X12_is
theorem dX12_handDispute_6 : decode cX12_handDispute 6 = .ok (.ifCond .ne 5, 3) := by decide +kernel
theorem dX12_handDispute_9 : decode cX12_handDispute 9 = .ok (.iconst 0, 1) := by decide +kernel
theorem dX12_handDispute_10 : decode cX12_handDispute 10 = .ok (.ireturn, 1) := by decide +kernel
theorem dX12_layTold_0 : decode cX12_layTold 0 = .ok (.aload_n 0, 1) := by decide +kernel
theorem dX12_layTold_1 : decode cX12_layTold 1 = .ok (.iload_n 1, 1) := by decide +kernel
theorem dX12_layTold_2 : decode cX12_layTold 2 = .ok (.invokevirtual 317, 3) := by decide +kernel
set_option maxRecDepth 20000 in
theorem ggX12_layTold_X12_hand : GoodIn wsX12_layTold wsX12_hand := goodIn_r _ [5, 6, 7, 8, 9, 10, 11, 12, 13, 14, 15, 16, 17, 4, 18, 19, 20, 21, 22, 23, 24, 25, 26, 27, 43, 44, 45, 46, 47, 48, 49, 50, 51, 52, 53, 54, 55, 56, 57, 58, 59, 60, 61, 62, 63, 64, 65, 66, 67, 68, 69, 70, 71, 72, 73, 74, 75, 76, 77, 78, 79, 80, 81, 82, 83, 84, 85, 86, 87, 88, 89, 90, 91, 92, 93, 94, 95, 96, 97, 98, 99, 100, 101, 102, 103, 104, 105, 106] (by decide +kernel) (by decide +kernel)
set_option maxRecDepth 20000 in
theorem gX12_layTold_X12_hand : GoodIn wsX12_layTold (wsV RX12 317 RX12 yX12_hand wsX12_hand) := goodIn_app (goodIn_of _ (by decide +kernel)) ggX12_layTold_X12_hand
theorem dX12_layTold_5 : decode cX12_layTold 5 = .ok (.ifCond .ne 5, 3) := by decide +kernel
theorem dX12_layTold_8 : decode cX12_layTold 8 = .ok (.iconst 0, 1) := by decide +kernel
theorem dX12_layTold_9 : decode cX12_layTold 9 = .ok (.ireturn, 1) := by decide +kernel
theorem dX12_hasDay_0 : decode cX12_hasDay 0 = .ok (.aload_n 0, 1) := by decide +kernel
theorem dX12_hasDay_1 : decode cX12_hasDay 1 = .ok (.iload_n 1, 1) := by decide +kernel
theorem dX12_hasDay_2 : decode cX12_hasDay 2 = .ok (.putfield 335, 3) := by decide +kernel
theorem dX12_hasDay_5 : decode cX12_hasDay 5 = .ok (.aload_n 0, 1) := by decide +kernel
theorem dX12_hasDay_6 : decode cX12_hasDay 6 = .ok (.iconst 1, 1) := by decide +kernel
theorem dX12_hasDay_7 : decode cX12_hasDay 7 = .ok (.iload_n 1, 1) := by decide +kernel
theorem dX12_hasDay_8 : decode cX12_hasDay 8 = .ok (.invokevirtual 272, 3) := by decide +kernel
set_option maxRecDepth 20000 in
theorem ggX12_hasDay_X12_is : GoodIn wsX12_hasDay wsX12_is := goodIn_r _ [6, 7, 8, 9, 5, 10, 11, 12, 13, 14, 15, 16, 17, 18, 19, 20, 21, 22, 23, 24, 25, 26, 27, 28, 29, 30, 31, 32, 33, 34, 35, 36, 37, 38, 39, 40, 41, 42, 43, 44, 45, 46, 47, 48, 49, 50, 51, 52, 53, 54, 55, 56, 57, 58, 59, 60, 61, 62, 63, 64, 65, 66, 67, 68, 69, 70, 71, 72, 73, 74] (by decide +kernel) (by decide +kernel)
set_option maxRecDepth 20000 in
theorem gX12_hasDay_X12_is : GoodIn wsX12_hasDay (wsV RX12 272 RX12 yX12_is wsX12_is) := goodIn_app (goodIn_of _ (by decide +kernel)) ggX12_hasDay_X12_is
theorem dX12_hasDay_11 : decode cX12_hasDay 11 = .ok (.ireturn, 1) := by decide +kernel
theorem dX12_layDay_0 : decode cX12_layDay 0 = .ok (.aload_n 0, 1) := by decide +kernel
theorem dX12_layDay_1 : decode cX12_layDay 1 = .ok (.iload_n 2, 1) := by decide +kernel
theorem dX12_layDay_2 : decode cX12_layDay 2 = .ok (.invokevirtual 338, 3) := by decide +kernel
set_option maxRecDepth 20000 in
theorem ggX12_layDay_X12_hasDay : GoodIn wsX12_layDay wsX12_hasDay := goodIn_r _ [6, 7, 8, 9, 10, 5, 11, 12, 13, 14, 15, 146, 147, 148, 149, 150, 151, 152, 153, 154, 155, 156, 157, 158, 159, 160, 161, 162, 163, 164, 165, 166, 167, 168, 169, 170, 171, 172, 173, 174, 175, 176, 177, 178, 179, 180, 181, 182, 183, 184, 185, 186, 187, 188, 189, 190, 191, 192, 193, 194, 195, 196, 197, 198, 199, 200, 201, 202, 203, 204, 205, 206, 207, 208, 209] (by decide +kernel) (by decide +kernel)
set_option maxRecDepth 20000 in
theorem gX12_layDay_X12_hasDay : GoodIn wsX12_layDay (wsV RX12 338 RX12 yX12_hasDay wsX12_hasDay) := goodIn_app (goodIn_of _ (by decide +kernel)) ggX12_layDay_X12_hasDay
theorem dX12_layDay_5 : decode cX12_layDay 5 = .ok (.ifCond .eq 11, 3) := by decide +kernel
theorem dX12_layDay_16 : decode cX12_layDay 16 = .ok (.iconst 0, 1) := by decide +kernel
theorem dX12_layDay_17 : decode cX12_layDay 17 = .ok (.ireturn, 1) := by decide +kernel
theorem dX12_layState_0 : decode cX12_layState 0 = .ok (.iload_n 3, 1) := by decide +kernel
theorem dX12_layState_1 : decode cX12_layState 1 = .ok (.ifCond .lt 33, 3) := by decide +kernel
theorem dX12_layState_34 : decode cX12_layState 34 = .ok (.iconst 0, 1) := by decide +kernel
theorem dX12_layState_35 : decode cX12_layState 35 = .ok (.ireturn, 1) := by decide +kernel
theorem dX12_layState_4 : decode cX12_layState 4 = .ok (.aload_n 0, 1) := by decide +kernel
theorem dX12_layState_5 : decode cX12_layState 5 = .ok (.iload_n 1, 1) := by decide +kernel
theorem dX12_layState_6 : decode cX12_layState 6 = .ok (.iload_n 2, 1) := by decide +kernel
theorem dX12_layState_7 : decode cX12_layState 7 = .ok (.invokevirtual 406, 3) := by decide +kernel
set_option maxRecDepth 20000 in
theorem ggX12_layState_X12_layDay : GoodIn wsX12_layState wsX12_layDay := goodIn_r _ [6, 7, 8, 9, 10, 5, 11, 12, 13, 14, 15, 16, 17, 18, 19, 20, 21, 22, 23, 24, 25, 26, 27, 28, 29, 30, 31, 32, 33, 34, 35, 36, 37, 38, 39, 40, 41, 42, 43, 44, 45, 46, 47, 1, 48, 49, 50, 51, 52, 53, 54, 55, 56, 57, 58, 59, 60, 61, 62, 63, 64, 65, 66, 67, 68, 69, 70, 71, 72, 73, 74, 75, 76, 77, 78, 79, 80, 81, 82, 83, 84, 85, 86, 87, 88, 89, 90, 91, 92, 93, 94, 95, 96, 97, 98, 99, 100, 101, 102, 103, 104, 105, 106, 107, 108, 109, 110, 111, 112, 113, 114, 115, 116, 117, 118, 119, 120, 121, 122, 123, 124, 125, 126, 127, 128, 129, 130, 131, 132, 133, 134, 135, 136, 137, 138, 139, 140, 141, 142, 143, 144, 145, 146, 147, 148, 149, 150, 151, 152, 153, 154, 155, 156, 157, 158, 159, 160, 161, 162, 163, 164, 165, 166, 167, 168, 169, 170, 171, 172, 173, 174, 175, 176, 177, 178, 179, 180, 181, 182, 183, 184, 185, 186, 187, 188, 189, 190, 191, 192, 193, 194, 195, 196, 197, 198, 199, 200, 201, 202, 203, 204, 205, 206, 207, 208, 209, 210, 211, 212, 213] (by decide +kernel) (by decide +kernel)
set_option maxRecDepth 20000 in
theorem gX12_layState_X12_layDay : GoodIn wsX12_layState (wsV RX12 406 RX12 yX12_layDay wsX12_layDay) := goodIn_app (goodIn_of _ (by decide +kernel)) ggX12_layState_X12_layDay
theorem dX12_layState_10 : decode cX12_layState 10 = .ok (.ifCond .eq 24, 3) := by decide +kernel
set_option maxHeartbeats 4000000 in
set_option maxRecDepth 100000 in
theorem c_X12_in (l : Launch) (D : va_G) (cy : Nat → ClassId) (p0 : Int32) (p1 : Int32) (p2 : Int32)  : Met l yX12_in wsX12_in ({ frames := 0, cells := 0, slots := 0, locals := 0 } : Room) (va_Pc [.int p0, .int p1, .int p2] (PR D cy [])) (vp_Si (fun r : Int32 => r = inn p0 p1 p2)) 0 0 (fun _ => False) := by
  refine Met.ofW (cc := cX12_in) (maxL := 3) (ret := (some .boolean)) (by decide) rfl ?_
  intro p e s m args below meth c s₁ B hml hv
  obtain ⟨rfl, hP, hKW⟩ := hv
  have hK := hKW.1
  have hx := B.exec
  have hb := B.bytes
  have hr := B.returns
  have hts := atoms_spec (ws := wsX12_in) B.pre
  have hown : s.vm.findClass RX12 = some m.cls := findClass_of_methodNamed B.named
  have hlocks := B.notSynchronized
  have hP : va_P D vwCl [] s.heap := hP
  have hl := lv_entry ([.int p0, .int p1, .int p2]) (n := 3) (Nat.le_of_ble_eq_true rfl)
  rw [lg_entry_eq]
  generalize (lg_sl ([.int p0, .int p1, .int p2]) ++ List.replicate (3 - (lg_sl ([.int p0, .int p1, .int p2])).length) Slot.unset).toArray = ls at hl ⊢
  have hl : lv_has ls 3 [(0, .int p0), (1, .int p1), (2, .int p2)] := hl
  refine lv_iload_n hx hb dX12_in_0 rfl (lv_at hl 0 rfl) ?_
  refine lv_iload_n hx hb dX12_in_1 rfl (lv_at hl 1 rfl) ?_
  refine lv_icmp_lt (tgt := 14) hx hb dX12_in_2 (by decide) (fun c_1 => ?_) (fun c_1 => ?_)
  · refine lv_iconst (v := 0) hx hb dX12_in_14 (by decide +kernel) ?_
    exact W.zret (v := 0) hx hb hr (rfl) (fun t ht hW => ⟨0, rfl, (by simp [inn, c_1]), ht⟩) (fun _ h => absurd h List.not_mem_nil) dX12_in_15
  · refine lv_iload_n hx hb dX12_in_5 rfl (lv_at hl 0 rfl) ?_
    refine lv_iload_n hx hb dX12_in_6 rfl (lv_at hl 2 rfl) ?_
    refine lv_icmp_gt (tgt := 14) hx hb dX12_in_7 (by decide) (fun c_2 => ?_) (fun c_2 => ?_)
    · refine lv_iconst (v := 0) hx hb dX12_in_14 (by decide +kernel) ?_
      exact W.zret (v := 0) hx hb hr (rfl) (fun t ht hW => ⟨0, rfl, (by simp [inn, c_1, c_2]), ht⟩) (fun _ h => absurd h List.not_mem_nil) dX12_in_15
    · refine lv_iconst (v := 1) hx hb dX12_in_10 (by decide +kernel) ?_
      refine lv_goto (tgt := 15) hx hb dX12_in_11 (by decide) ?_
      exact W.zret (v := 1) hx hb hr (rfl) (fun t ht hW => ⟨1, rfl, (by simp [inn, c_1, c_2]), ht⟩) (fun _ h => absurd h List.not_mem_nil) dX12_in_15
set_option maxHeartbeats 4000000 in
set_option maxRecDepth 100000 in
theorem c_X12_is (l : Launch) (D : va_G) (cy : Nat → ClassId) (m0 : Nat) (m1 : Nat) (m2 : Nat) (m3 : Nat) (m4 : Nat) (m5 : Nat) (m6 : Nat) (m7 : Nat) (m8 : Nat) (m18 : Nat) (m19 : Nat) (m30 : Nat) (m31 : Nat) (m32 : Nat) (m36 : Nat) (m37 : Nat) (m38 : Nat) (m39 : Nat) (m40 : Nat) (m41 : Nat) (m42 : Nat) (m43 : Nat) (m44 : Nat) (m45 : Nat) (m46 : Nat) (m47 : Nat) (m48 : Nat) (m52 : Nat) (m53 : Nat) (m54 : Nat) (m58 : Nat) (m59 : Nat) (m60 : Nat) (m61 : Nat) (m62 : Nat) (m63 : Nat) (p0 : Int32) (p1 : Int32) (hi : vp_in p0 12) : Met l yX12_is wsX12_is ({ frames := 1, cells := 0, slots := 0, locals := 22 } : Room) (va_Pc [.ref m0, .int p0, .int p1] (PR D cy [(m0, .inr (12, [.int 0, .ref m1, .ref m2, .ref m3, .ref m4, .ref m5, .ref m6, .ref m7, .ref m8, .int 0, .int 0, .int 0, .int 0, .int 0, .long 0, .int 0, .int 0, .int 0, .ref m18, .ref m19, .int 0, .int 0, .int 0, .int 0, .int 0, .int 0, .int 0, .int 0, .int 0, .int 0, .ref m30, .ref m31, .ref m32, .int 0, .int 0, .int 0, .ref m36, .ref m37, .ref m38, .ref m39, .ref m40, .ref m41, .ref m42, .ref m43, .ref m44, .ref m45, .ref m46, .ref m47, .ref m48, .int 0, .int 0, .int 0, .ref m52, .ref m53, .ref m54, .int 0, .int 0, .int 0, .ref m58, .ref m59, .ref m60, .ref m61, .ref m62, .ref m63])), (m5, .inl (cy 0, 12, .inl (fun _ => 0)))])) (vp_Si (fun r : Int32 => r = 0)) 0 0 (fun _ => False) := by
  refine Met.ofW (cc := cX12_is) (maxL := 3) (ret := (some .boolean)) (by decide) rfl ?_
  intro p e s m args below meth c s₁ B hml hv
  obtain ⟨rfl, hP, hKW⟩ := hv
  have hK := hKW.1
  have hx := B.exec
  have hb := B.bytes
  have hr := B.returns
  have hts := atoms_spec (ws := wsX12_is) B.pre
  have hown : s.vm.findClass RX12 = some m.cls := findClass_of_methodNamed B.named
  have hlocks := B.notSynchronized
  have in_12 : ∀ w ∈ u_ws RX12 TX12 64, w ∈ wsX12_is := by decide +kernel
  have fl_23 := hts (.fieldLink RX12 23 "ShoalClaimsModel" "many" "[I") (by decide +kernel)
  have hP : va_P D vwCl [(m0, .inr (12, [.int 0, .ref m1, .ref m2, .ref m3, .ref m4, .ref m5, .ref m6, .ref m7, .ref m8, .int 0, .int 0, .int 0, .int 0, .int 0, .long 0, .int 0, .int 0, .int 0, .ref m18, .ref m19, .int 0, .int 0, .int 0, .int 0, .int 0, .int 0, .int 0, .int 0, .int 0, .int 0, .ref m30, .ref m31, .ref m32, .int 0, .int 0, .int 0, .ref m36, .ref m37, .ref m38, .ref m39, .ref m40, .ref m41, .ref m42, .ref m43, .ref m44, .ref m45, .ref m46, .ref m47, .ref m48, .int 0, .int 0, .int 0, .ref m52, .ref m53, .ref m54, .int 0, .int 0, .int 0, .ref m58, .ref m59, .ref m60, .ref m61, .ref m62, .ref m63])), (m5, .inl (cy 0, 12, .inl (fun _ => 0)))] s.heap := hP
  have hl := lv_entry ([.ref m0, .int p0, .int p1]) (n := 3) (Nat.le_of_ble_eq_true rfl)
  rw [lg_entry_eq]
  generalize (lg_sl ([.ref m0, .int p0, .int p1]) ++ List.replicate (3 - (lg_sl ([.ref m0, .int p0, .int p1])).length) Slot.unset).toArray = ls at hl ⊢
  have hl : lv_has ls 3 [(0, .ref m0), (1, .int p0), (2, .int p1)] := hl
  refine lv_iload_n hx hb dX12_is_0 rfl (lv_at hl 2 rfl) ?_
  refine lv_iconst (v := 0) hx hb dX12_is_1 (by decide +kernel) ?_
  refine lv_aload_n hx hb dX12_is_2 rfl (lv_at hl 0 rfl) ?_
  refine va_get (D := D) (ci := 12) (v := .ref m5) (C := RX12) (T := TX12) (N := 64) hx hb hts in_12 hown hK hP 0 rfl rfl 5 (by decide) fl_23 (fun _ h9 => h9) rfl dX12_is_3 ?_
  refine lv_iload_n hx hb dX12_is_6 rfl (lv_at hl 1 rfl) ?_
  refine va_iald hx hb hK hP 1 0 rfl rfl hi dX12_is_7 ?_
  refine tp_i 0 rfl ?_
  refine lv_iconst (v := 1) hx hb dX12_is_8 (by decide +kernel) ?_
  refine lv_isub hx hb dX12_is_9 ?_
  refine tp_i (-1) (by decide +kernel) ?_
  have hPc_1 := hP.sub (ws' := []) [] rfl
  refine pc_i (va_runS (As := [.int p1, .int 0, .int (-1)]) (rest := []) ⟨hx, hb, hml, hown, hts⟩ (c_X12_in l D cy p1 0 (-1)) (cwS 3 hts gX12_is_X12_in rfl rfl rfl (by decide +kernel) ⟨Nat.le_of_ble_eq_true rfl, Nat.le_of_ble_eq_true rfl⟩) ⟨prB, fun U hU hW => ⟨rfl, PR.of hU hW hKW hPc_1⟩⟩ rfl rfl hl.1 rfl (lv_room (Nat.le_of_ble_eq_true rfl)) dX12_is_10 ⟨by decide +kernel, by decide +kernel⟩) (fun r_2 hr_2 => ?_)
  replace hr_2 : r_2 = 0 := hr_2.trans (inn_0 _)
  subst hr_2
  exact W.zret (v := 0) hx hb hr (rfl) (fun t ht hW => ⟨0, rfl, rfl, ht⟩) (fun _ h => absurd h List.not_mem_nil) dX12_is_13
set_option maxHeartbeats 4000000 in
set_option maxRecDepth 100000 in
theorem c_X12_is_d (l : Launch) (D : va_G) (cy : Nat → ClassId) (m0 : Nat) (m1 : Nat) (m2 : Nat) (m3 : Nat) (m4 : Nat) (m5 : Nat) (m6 : Nat) (m7 : Nat) (m8 : Nat) (m18 : Nat) (m19 : Nat) (m30 : Nat) (m31 : Nat) (m32 : Nat) (m36 : Nat) (m37 : Nat) (m38 : Nat) (m39 : Nat) (m40 : Nat) (m41 : Nat) (m42 : Nat) (m43 : Nat) (m44 : Nat) (m45 : Nat) (m46 : Nat) (m47 : Nat) (m48 : Nat) (m52 : Nat) (m53 : Nat) (m54 : Nat) (m58 : Nat) (m59 : Nat) (m60 : Nat) (m61 : Nat) (m62 : Nat) (m63 : Nat) (dd : Int32) (p0 : Int32) (p1 : Int32) (hi : vp_in p0 12) : Met l yX12_is wsX12_is ({ frames := 1, cells := 0, slots := 0, locals := 22 } : Room) (va_Pc [.ref m0, .int p0, .int p1] (PR D cy [(m0, .inr (12, [.int 0, .ref m1, .ref m2, .ref m3, .ref m4, .ref m5, .ref m6, .ref m7, .ref m8, .int 0, .int 0, .int 0, .int 0, .int 0, .long 0, .int 0, .int 0, .int 0, .ref m18, .ref m19, .int 0, .int 0, .int 0, .int 0, .int 0, .int 0, .int 0, .int 0, .int 0, .int 0, .ref m30, .ref m31, .ref m32, .int dd, .int 0, .int 0, .ref m36, .ref m37, .ref m38, .ref m39, .ref m40, .ref m41, .ref m42, .ref m43, .ref m44, .ref m45, .ref m46, .ref m47, .ref m48, .int 0, .int 0, .int 0, .ref m52, .ref m53, .ref m54, .int 0, .int 0, .int 0, .ref m58, .ref m59, .ref m60, .ref m61, .ref m62, .ref m63])), (m5, .inl (cy 0, 12, .inl (fun _ => 0)))])) (vp_Si (fun r : Int32 => r = 0)) 0 0 (fun _ => False) := by
  refine Met.ofW (cc := cX12_is) (maxL := 3) (ret := (some .boolean)) (by decide) rfl ?_
  intro p e s m args below meth c s₁ B hml hv
  obtain ⟨rfl, hP, hKW⟩ := hv
  have hK := hKW.1
  have hx := B.exec
  have hb := B.bytes
  have hr := B.returns
  have hts := atoms_spec (ws := wsX12_is) B.pre
  have hown : s.vm.findClass RX12 = some m.cls := findClass_of_methodNamed B.named
  have hlocks := B.notSynchronized
  have in_12 : ∀ w ∈ u_ws RX12 TX12 64, w ∈ wsX12_is := by decide +kernel
  have fl_23 := hts (.fieldLink RX12 23 "ShoalClaimsModel" "many" "[I") (by decide +kernel)
  have hP : va_P D vwCl [(m0, .inr (12, [.int 0, .ref m1, .ref m2, .ref m3, .ref m4, .ref m5, .ref m6, .ref m7, .ref m8, .int 0, .int 0, .int 0, .int 0, .int 0, .long 0, .int 0, .int 0, .int 0, .ref m18, .ref m19, .int 0, .int 0, .int 0, .int 0, .int 0, .int 0, .int 0, .int 0, .int 0, .int 0, .ref m30, .ref m31, .ref m32, .int dd, .int 0, .int 0, .ref m36, .ref m37, .ref m38, .ref m39, .ref m40, .ref m41, .ref m42, .ref m43, .ref m44, .ref m45, .ref m46, .ref m47, .ref m48, .int 0, .int 0, .int 0, .ref m52, .ref m53, .ref m54, .int 0, .int 0, .int 0, .ref m58, .ref m59, .ref m60, .ref m61, .ref m62, .ref m63])), (m5, .inl (cy 0, 12, .inl (fun _ => 0)))] s.heap := hP
  have hl := lv_entry ([.ref m0, .int p0, .int p1]) (n := 3) (Nat.le_of_ble_eq_true rfl)
  rw [lg_entry_eq]
  generalize (lg_sl ([.ref m0, .int p0, .int p1]) ++ List.replicate (3 - (lg_sl ([.ref m0, .int p0, .int p1])).length) Slot.unset).toArray = ls at hl ⊢
  have hl : lv_has ls 3 [(0, .ref m0), (1, .int p0), (2, .int p1)] := hl
  refine lv_iload_n hx hb dX12_is_0 rfl (lv_at hl 2 rfl) ?_
  refine lv_iconst (v := 0) hx hb dX12_is_1 (by decide +kernel) ?_
  refine lv_aload_n hx hb dX12_is_2 rfl (lv_at hl 0 rfl) ?_
  refine va_get (D := D) (ci := 12) (v := .ref m5) (C := RX12) (T := TX12) (N := 64) hx hb hts in_12 hown hK hP 0 rfl rfl 5 (by decide) fl_23 (fun _ h9 => h9) rfl dX12_is_3 ?_
  refine lv_iload_n hx hb dX12_is_6 rfl (lv_at hl 1 rfl) ?_
  refine va_iald hx hb hK hP 1 0 rfl rfl hi dX12_is_7 ?_
  refine tp_i 0 rfl ?_
  refine lv_iconst (v := 1) hx hb dX12_is_8 (by decide +kernel) ?_
  refine lv_isub hx hb dX12_is_9 ?_
  refine tp_i (-1) (by decide +kernel) ?_
  have hPc_1 := hP.sub (ws' := []) [] rfl
  refine pc_i (va_runS (As := [.int p1, .int 0, .int (-1)]) (rest := []) ⟨hx, hb, hml, hown, hts⟩ (c_X12_in l D cy p1 0 (-1)) (cwS 3 hts gX12_is_X12_in rfl rfl rfl (by decide +kernel) ⟨Nat.le_of_ble_eq_true rfl, Nat.le_of_ble_eq_true rfl⟩) ⟨prB, fun U hU hW => ⟨rfl, PR.of hU hW hKW hPc_1⟩⟩ rfl rfl hl.1 rfl (lv_room (Nat.le_of_ble_eq_true rfl)) dX12_is_10 ⟨by decide +kernel, by decide +kernel⟩) (fun r_2 hr_2 => ?_)
  replace hr_2 : r_2 = 0 := hr_2.trans (inn_0 _)
  subst hr_2
  exact W.zret (v := 0) hx hb hr (rfl) (fun t ht hW => ⟨0, rfl, rfl, ht⟩) (fun _ h => absurd h List.not_mem_nil) dX12_is_13
set_option maxHeartbeats 4000000 in
set_option maxRecDepth 100000 in
theorem c_X12_hand (l : Launch) (D : va_G) (cy : Nat → ClassId) (m0 : Nat) (m1 : Nat) (m2 : Nat) (m3 : Nat) (m4 : Nat) (m5 : Nat) (m6 : Nat) (m7 : Nat) (m8 : Nat) (m18 : Nat) (m19 : Nat) (m30 : Nat) (m31 : Nat) (m32 : Nat) (m36 : Nat) (m37 : Nat) (m38 : Nat) (m39 : Nat) (m40 : Nat) (m41 : Nat) (m42 : Nat) (m43 : Nat) (m44 : Nat) (m45 : Nat) (m46 : Nat) (m47 : Nat) (m48 : Nat) (m52 : Nat) (m53 : Nat) (m54 : Nat) (m58 : Nat) (m59 : Nat) (m60 : Nat) (m61 : Nat) (m62 : Nat) (m63 : Nat) (p0 : Int32)  : Met l yX12_hand wsX12_hand ({ frames := 2, cells := 0, slots := 0, locals := 44 } : Room) (va_Pc [.ref m0, .int p0] (PR D cy [(m0, .inr (12, [.int 0, .ref m1, .ref m2, .ref m3, .ref m4, .ref m5, .ref m6, .ref m7, .ref m8, .int 0, .int 0, .int 0, .int 0, .int 0, .long 0, .int 0, .int 0, .int 0, .ref m18, .ref m19, .int 0, .int 0, .int 0, .int 0, .int 0, .int 0, .int 0, .int 0, .int 0, .int 0, .ref m30, .ref m31, .ref m32, .int 0, .int 0, .int 0, .ref m36, .ref m37, .ref m38, .ref m39, .ref m40, .ref m41, .ref m42, .ref m43, .ref m44, .ref m45, .ref m46, .ref m47, .ref m48, .int 0, .int 0, .int 0, .ref m52, .ref m53, .ref m54, .int 0, .int 0, .int 0, .ref m58, .ref m59, .ref m60, .ref m61, .ref m62, .ref m63])), (m5, .inl (cy 0, 12, .inl (fun _ => 0)))])) (vp_Si (fun r : Int32 => r = 0)) 0 0 (fun _ => False) := by
  refine Met.ofW (cc := cX12_hand) (maxL := 3) (ret := (some .boolean)) (by decide) rfl ?_
  intro p e s m args below meth c s₁ B hml hv
  obtain ⟨rfl, hP, hKW⟩ := hv
  have hK := hKW.1
  have hx := B.exec
  have hb := B.bytes
  have hr := B.returns
  have hts := atoms_spec (ws := wsX12_hand) B.pre
  have hown : s.vm.findClass RX12 = some m.cls := findClass_of_methodNamed B.named
  have hlocks := B.notSynchronized
  have hP : va_P D vwCl [(m0, .inr (12, [.int 0, .ref m1, .ref m2, .ref m3, .ref m4, .ref m5, .ref m6, .ref m7, .ref m8, .int 0, .int 0, .int 0, .int 0, .int 0, .long 0, .int 0, .int 0, .int 0, .ref m18, .ref m19, .int 0, .int 0, .int 0, .int 0, .int 0, .int 0, .int 0, .int 0, .int 0, .int 0, .ref m30, .ref m31, .ref m32, .int 0, .int 0, .int 0, .ref m36, .ref m37, .ref m38, .ref m39, .ref m40, .ref m41, .ref m42, .ref m43, .ref m44, .ref m45, .ref m46, .ref m47, .ref m48, .int 0, .int 0, .int 0, .ref m52, .ref m53, .ref m54, .int 0, .int 0, .int 0, .ref m58, .ref m59, .ref m60, .ref m61, .ref m62, .ref m63])), (m5, .inl (cy 0, 12, .inl (fun _ => 0)))] s.heap := hP
  have hl := lv_entry ([.ref m0, .int p0]) (n := 3) (Nat.le_of_ble_eq_true rfl)
  rw [lg_entry_eq]
  generalize (lg_sl ([.ref m0, .int p0]) ++ List.replicate (3 - (lg_sl ([.ref m0, .int p0])).length) Slot.unset).toArray = ls at hl ⊢
  have hl : lv_has ls 3 [(0, .ref m0), (1, .int p0)] := hl
  refine lv_aload_n hx hb dX12_hand_0 rfl (lv_at hl 0 rfl) ?_
  refine lv_iconst (v := 0) hx hb dX12_hand_1 (by decide +kernel) ?_
  refine lv_iload_n hx hb dX12_hand_2 rfl (lv_at hl 1 rfl) ?_
  have hPc_1 := hP.sub (ws' := [(m0, .inr (12, [.int 0, .ref m1, .ref m2, .ref m3, .ref m4, .ref m5, .ref m6, .ref m7, .ref m8, .int 0, .int 0, .int 0, .int 0, .int 0, .long 0, .int 0, .int 0, .int 0, .ref m18, .ref m19, .int 0, .int 0, .int 0, .int 0, .int 0, .int 0, .int 0, .int 0, .int 0, .int 0, .ref m30, .ref m31, .ref m32, .int 0, .int 0, .int 0, .ref m36, .ref m37, .ref m38, .ref m39, .ref m40, .ref m41, .ref m42, .ref m43, .ref m44, .ref m45, .ref m46, .ref m47, .ref m48, .int 0, .int 0, .int 0, .ref m52, .ref m53, .ref m54, .int 0, .int 0, .int 0, .ref m58, .ref m59, .ref m60, .ref m61, .ref m62, .ref m63])), (m5, .inl (cy 0, 12, .inl (fun _ => 0)))]) [0, 1] rfl
  refine pc_i (va_runV (As := [.int 0, .int p0]) (rest := []) ⟨hx, hb, hml, hown, hts⟩ (c_X12_is l D cy m0 m1 m2 m3 m4 m5 m6 m7 m8 m18 m19 m30 m31 m32 m36 m37 m38 m39 m40 m41 m42 m43 m44 m45 m46 m47 m48 m52 m53 m54 m58 m59 m60 m61 m62 m63 0 p0 (vi_c (by decide +kernel))) (cwV 2 hts gX12_hand_X12_is rfl rfl rfl (by decide +kernel) ⟨Nat.le_of_ble_eq_true rfl, Nat.le_of_ble_eq_true rfl⟩) ⟨prB, va_recv hK hPc_1 (ci := 12) (q0 := 0) rfl rfl, fun U hU hW => ⟨rfl, PR.of hU hW hKW hPc_1⟩⟩ rfl rfl hl.1 rfl (lv_room (Nat.le_of_ble_eq_true rfl)) dX12_hand_3 ⟨by decide +kernel, by decide +kernel⟩) (fun r_2 hr_2 => ?_)
  subst hr_2
  refine lv_if_ne (tgt := 11) hx hb dX12_hand_6 (by decide) (fun c_3 => absurd (by decide +kernel) c_3) (fun _ => ?_)
  refine lv_iconst (v := 0) hx hb dX12_hand_9 (by decide +kernel) ?_
  exact W.zret (v := 0) hx hb hr (rfl) (fun t ht hW => ⟨0, rfl, rfl, ht⟩) (fun _ h => absurd h List.not_mem_nil) dX12_hand_10
set_option maxHeartbeats 4000000 in
set_option maxRecDepth 100000 in
theorem c_X12_handDispute (l : Launch) (D : va_G) (cy : Nat → ClassId) (m0 : Nat) (m1 : Nat) (m2 : Nat) (m3 : Nat) (m4 : Nat) (m5 : Nat) (m6 : Nat) (m7 : Nat) (m8 : Nat) (m18 : Nat) (m19 : Nat) (m30 : Nat) (m31 : Nat) (m32 : Nat) (m36 : Nat) (m37 : Nat) (m38 : Nat) (m39 : Nat) (m40 : Nat) (m41 : Nat) (m42 : Nat) (m43 : Nat) (m44 : Nat) (m45 : Nat) (m46 : Nat) (m47 : Nat) (m48 : Nat) (m52 : Nat) (m53 : Nat) (m54 : Nat) (m58 : Nat) (m59 : Nat) (m60 : Nat) (m61 : Nat) (m62 : Nat) (m63 : Nat) (p0 : Int32)  : Met l yX12_handDispute wsX12_handDispute ({ frames := 2, cells := 0, slots := 0, locals := 44 } : Room) (va_Pc [.ref m0, .int p0] (PR D cy [(m0, .inr (12, [.int 0, .ref m1, .ref m2, .ref m3, .ref m4, .ref m5, .ref m6, .ref m7, .ref m8, .int 0, .int 0, .int 0, .int 0, .int 0, .long 0, .int 0, .int 0, .int 0, .ref m18, .ref m19, .int 0, .int 0, .int 0, .int 0, .int 0, .int 0, .int 0, .int 0, .int 0, .int 0, .ref m30, .ref m31, .ref m32, .int 0, .int 0, .int 0, .ref m36, .ref m37, .ref m38, .ref m39, .ref m40, .ref m41, .ref m42, .ref m43, .ref m44, .ref m45, .ref m46, .ref m47, .ref m48, .int 0, .int 0, .int 0, .ref m52, .ref m53, .ref m54, .int 0, .int 0, .int 0, .ref m58, .ref m59, .ref m60, .ref m61, .ref m62, .ref m63])), (m5, .inl (cy 0, 12, .inl (fun _ => 0)))])) (vp_Si (fun r : Int32 => r = 0)) 0 0 (fun _ => False) := by
  refine Met.ofW (cc := cX12_handDispute) (maxL := 2) (ret := (some .boolean)) (by decide) rfl ?_
  intro p e s m args below meth c s₁ B hml hv
  obtain ⟨rfl, hP, hKW⟩ := hv
  have hK := hKW.1
  have hx := B.exec
  have hb := B.bytes
  have hr := B.returns
  have hts := atoms_spec (ws := wsX12_handDispute) B.pre
  have hown : s.vm.findClass RX12 = some m.cls := findClass_of_methodNamed B.named
  have hlocks := B.notSynchronized
  have hP : va_P D vwCl [(m0, .inr (12, [.int 0, .ref m1, .ref m2, .ref m3, .ref m4, .ref m5, .ref m6, .ref m7, .ref m8, .int 0, .int 0, .int 0, .int 0, .int 0, .long 0, .int 0, .int 0, .int 0, .ref m18, .ref m19, .int 0, .int 0, .int 0, .int 0, .int 0, .int 0, .int 0, .int 0, .int 0, .int 0, .ref m30, .ref m31, .ref m32, .int 0, .int 0, .int 0, .ref m36, .ref m37, .ref m38, .ref m39, .ref m40, .ref m41, .ref m42, .ref m43, .ref m44, .ref m45, .ref m46, .ref m47, .ref m48, .int 0, .int 0, .int 0, .ref m52, .ref m53, .ref m54, .int 0, .int 0, .int 0, .ref m58, .ref m59, .ref m60, .ref m61, .ref m62, .ref m63])), (m5, .inl (cy 0, 12, .inl (fun _ => 0)))] s.heap := hP
  have hl := lv_entry ([.ref m0, .int p0]) (n := 2) (Nat.le_of_ble_eq_true rfl)
  rw [lg_entry_eq]
  generalize (lg_sl ([.ref m0, .int p0]) ++ List.replicate (2 - (lg_sl ([.ref m0, .int p0])).length) Slot.unset).toArray = ls at hl ⊢
  have hl : lv_has ls 2 [(0, .ref m0), (1, .int p0)] := hl
  refine lv_aload_n hx hb dX12_handDispute_0 rfl (lv_at hl 0 rfl) ?_
  refine lv_iconst (v := 2) hx hb dX12_handDispute_1 (by decide +kernel) ?_
  refine lv_iload_n hx hb dX12_handDispute_2 rfl (lv_at hl 1 rfl) ?_
  have hPc_1 := hP.sub (ws' := [(m0, .inr (12, [.int 0, .ref m1, .ref m2, .ref m3, .ref m4, .ref m5, .ref m6, .ref m7, .ref m8, .int 0, .int 0, .int 0, .int 0, .int 0, .long 0, .int 0, .int 0, .int 0, .ref m18, .ref m19, .int 0, .int 0, .int 0, .int 0, .int 0, .int 0, .int 0, .int 0, .int 0, .int 0, .ref m30, .ref m31, .ref m32, .int 0, .int 0, .int 0, .ref m36, .ref m37, .ref m38, .ref m39, .ref m40, .ref m41, .ref m42, .ref m43, .ref m44, .ref m45, .ref m46, .ref m47, .ref m48, .int 0, .int 0, .int 0, .ref m52, .ref m53, .ref m54, .int 0, .int 0, .int 0, .ref m58, .ref m59, .ref m60, .ref m61, .ref m62, .ref m63])), (m5, .inl (cy 0, 12, .inl (fun _ => 0)))]) [0, 1] rfl
  refine pc_i (va_runV (As := [.int 2, .int p0]) (rest := []) ⟨hx, hb, hml, hown, hts⟩ (c_X12_is l D cy m0 m1 m2 m3 m4 m5 m6 m7 m8 m18 m19 m30 m31 m32 m36 m37 m38 m39 m40 m41 m42 m43 m44 m45 m46 m47 m48 m52 m53 m54 m58 m59 m60 m61 m62 m63 2 p0 (vi_c (by decide +kernel))) (cwV 2 hts gX12_handDispute_X12_is rfl rfl rfl (by decide +kernel) ⟨Nat.le_of_ble_eq_true rfl, Nat.le_of_ble_eq_true rfl⟩) ⟨prB, va_recv hK hPc_1 (ci := 12) (q0 := 0) rfl rfl, fun U hU hW => ⟨rfl, PR.of hU hW hKW hPc_1⟩⟩ rfl rfl hl.1 rfl (lv_room (Nat.le_of_ble_eq_true rfl)) dX12_handDispute_3 ⟨by decide +kernel, by decide +kernel⟩) (fun r_2 hr_2 => ?_)
  subst hr_2
  refine lv_if_ne (tgt := 11) hx hb dX12_handDispute_6 (by decide) (fun c_3 => absurd (by decide +kernel) c_3) (fun _ => ?_)
  refine lv_iconst (v := 0) hx hb dX12_handDispute_9 (by decide +kernel) ?_
  exact W.zret (v := 0) hx hb hr (rfl) (fun t ht hW => ⟨0, rfl, rfl, ht⟩) (fun _ h => absurd h List.not_mem_nil) dX12_handDispute_10
set_option maxHeartbeats 4000000 in
set_option maxRecDepth 100000 in
theorem c_X12_layTold (l : Launch) (D : va_G) (cy : Nat → ClassId) (m0 : Nat) (m1 : Nat) (m2 : Nat) (m3 : Nat) (m4 : Nat) (m5 : Nat) (m6 : Nat) (m7 : Nat) (m8 : Nat) (m18 : Nat) (m19 : Nat) (m30 : Nat) (m31 : Nat) (m32 : Nat) (m36 : Nat) (m37 : Nat) (m38 : Nat) (m39 : Nat) (m40 : Nat) (m41 : Nat) (m42 : Nat) (m43 : Nat) (m44 : Nat) (m45 : Nat) (m46 : Nat) (m47 : Nat) (m48 : Nat) (m52 : Nat) (m53 : Nat) (m54 : Nat) (m58 : Nat) (m59 : Nat) (m60 : Nat) (m61 : Nat) (m62 : Nat) (m63 : Nat) (p0 : Int32)  : Met l yX12_layTold wsX12_layTold ({ frames := 3, cells := 0, slots := 0, locals := 66 } : Room) (va_Pc [.ref m0, .int p0] (PR D cy [(m0, .inr (12, [.int 0, .ref m1, .ref m2, .ref m3, .ref m4, .ref m5, .ref m6, .ref m7, .ref m8, .int 0, .int 0, .int 0, .int 0, .int 0, .long 0, .int 0, .int 0, .int 0, .ref m18, .ref m19, .int 0, .int 0, .int 0, .int 0, .int 0, .int 0, .int 0, .int 0, .int 0, .int 0, .ref m30, .ref m31, .ref m32, .int 0, .int 0, .int 0, .ref m36, .ref m37, .ref m38, .ref m39, .ref m40, .ref m41, .ref m42, .ref m43, .ref m44, .ref m45, .ref m46, .ref m47, .ref m48, .int 0, .int 0, .int 0, .ref m52, .ref m53, .ref m54, .int 0, .int 0, .int 0, .ref m58, .ref m59, .ref m60, .ref m61, .ref m62, .ref m63])), (m5, .inl (cy 0, 12, .inl (fun _ => 0)))])) (vp_Si (fun r : Int32 => r = 0)) 0 0 (fun _ => False) := by
  refine Met.ofW (cc := cX12_layTold) (maxL := 2) (ret := (some .boolean)) (by decide) rfl ?_
  intro p e s m args below meth c s₁ B hml hv
  obtain ⟨rfl, hP, hKW⟩ := hv
  have hK := hKW.1
  have hx := B.exec
  have hb := B.bytes
  have hr := B.returns
  have hts := atoms_spec (ws := wsX12_layTold) B.pre
  have hown : s.vm.findClass RX12 = some m.cls := findClass_of_methodNamed B.named
  have hlocks := B.notSynchronized
  have hP : va_P D vwCl [(m0, .inr (12, [.int 0, .ref m1, .ref m2, .ref m3, .ref m4, .ref m5, .ref m6, .ref m7, .ref m8, .int 0, .int 0, .int 0, .int 0, .int 0, .long 0, .int 0, .int 0, .int 0, .ref m18, .ref m19, .int 0, .int 0, .int 0, .int 0, .int 0, .int 0, .int 0, .int 0, .int 0, .int 0, .ref m30, .ref m31, .ref m32, .int 0, .int 0, .int 0, .ref m36, .ref m37, .ref m38, .ref m39, .ref m40, .ref m41, .ref m42, .ref m43, .ref m44, .ref m45, .ref m46, .ref m47, .ref m48, .int 0, .int 0, .int 0, .ref m52, .ref m53, .ref m54, .int 0, .int 0, .int 0, .ref m58, .ref m59, .ref m60, .ref m61, .ref m62, .ref m63])), (m5, .inl (cy 0, 12, .inl (fun _ => 0)))] s.heap := hP
  have hl := lv_entry ([.ref m0, .int p0]) (n := 2) (Nat.le_of_ble_eq_true rfl)
  rw [lg_entry_eq]
  generalize (lg_sl ([.ref m0, .int p0]) ++ List.replicate (2 - (lg_sl ([.ref m0, .int p0])).length) Slot.unset).toArray = ls at hl ⊢
  have hl : lv_has ls 2 [(0, .ref m0), (1, .int p0)] := hl
  refine lv_aload_n hx hb dX12_layTold_0 rfl (lv_at hl 0 rfl) ?_
  refine lv_iload_n hx hb dX12_layTold_1 rfl (lv_at hl 1 rfl) ?_
  have hPc_1 := hP.sub (ws' := [(m0, .inr (12, [.int 0, .ref m1, .ref m2, .ref m3, .ref m4, .ref m5, .ref m6, .ref m7, .ref m8, .int 0, .int 0, .int 0, .int 0, .int 0, .long 0, .int 0, .int 0, .int 0, .ref m18, .ref m19, .int 0, .int 0, .int 0, .int 0, .int 0, .int 0, .int 0, .int 0, .int 0, .int 0, .ref m30, .ref m31, .ref m32, .int 0, .int 0, .int 0, .ref m36, .ref m37, .ref m38, .ref m39, .ref m40, .ref m41, .ref m42, .ref m43, .ref m44, .ref m45, .ref m46, .ref m47, .ref m48, .int 0, .int 0, .int 0, .ref m52, .ref m53, .ref m54, .int 0, .int 0, .int 0, .ref m58, .ref m59, .ref m60, .ref m61, .ref m62, .ref m63])), (m5, .inl (cy 0, 12, .inl (fun _ => 0)))]) [0, 1] rfl
  refine pc_i (va_runV (As := [.int p0]) (rest := []) ⟨hx, hb, hml, hown, hts⟩ (c_X12_hand l D cy m0 m1 m2 m3 m4 m5 m6 m7 m8 m18 m19 m30 m31 m32 m36 m37 m38 m39 m40 m41 m42 m43 m44 m45 m46 m47 m48 m52 m53 m54 m58 m59 m60 m61 m62 m63 p0) (cwV 1 hts gX12_layTold_X12_hand rfl rfl rfl (by decide +kernel) ⟨Nat.le_of_ble_eq_true rfl, Nat.le_of_ble_eq_true rfl⟩) ⟨prB, va_recv hK hPc_1 (ci := 12) (q0 := 0) rfl rfl, fun U hU hW => ⟨rfl, PR.of hU hW hKW hPc_1⟩⟩ rfl rfl hl.1 rfl (lv_room (Nat.le_of_ble_eq_true rfl)) dX12_layTold_2 ⟨by decide +kernel, by decide +kernel⟩) (fun r_2 hr_2 => ?_)
  subst hr_2
  refine lv_if_ne (tgt := 10) hx hb dX12_layTold_5 (by decide) (fun c_3 => absurd (by decide +kernel) c_3) (fun _ => ?_)
  refine lv_iconst (v := 0) hx hb dX12_layTold_8 (by decide +kernel) ?_
  exact W.zret (v := 0) hx hb hr (rfl) (fun t ht hW => ⟨0, rfl, rfl, ht⟩) (fun _ h => absurd h List.not_mem_nil) dX12_layTold_9
set_option maxHeartbeats 4000000 in
set_option maxRecDepth 100000 in
theorem c_X12_hasDay (l : Launch) (D : va_G) (cy : Nat → ClassId) (m0 : Nat) (m1 : Nat) (m2 : Nat) (m3 : Nat) (m4 : Nat) (m5 : Nat) (m6 : Nat) (m7 : Nat) (m8 : Nat) (m18 : Nat) (m19 : Nat) (m30 : Nat) (m31 : Nat) (m32 : Nat) (m36 : Nat) (m37 : Nat) (m38 : Nat) (m39 : Nat) (m40 : Nat) (m41 : Nat) (m42 : Nat) (m43 : Nat) (m44 : Nat) (m45 : Nat) (m46 : Nat) (m47 : Nat) (m48 : Nat) (m52 : Nat) (m53 : Nat) (m54 : Nat) (m58 : Nat) (m59 : Nat) (m60 : Nat) (m61 : Nat) (m62 : Nat) (m63 : Nat) (p0 : Int32) (sz : Nat)  : Met l yX12_hasDay wsX12_hasDay ({ frames := 2, cells := 0, slots := 0, locals := 44 } : Room) (va_Pc [.ref m0, .int p0] (PW D cy [(m0, .inr (12, [.int 0, .ref m1, .ref m2, .ref m3, .ref m4, .ref m5, .ref m6, .ref m7, .ref m8, .int 0, .int 0, .int 0, .int 0, .int 0, .long 0, .int 0, .int 0, .int 0, .ref m18, .ref m19, .int 0, .int 0, .int 0, .int 0, .int 0, .int 0, .int 0, .int 0, .int 0, .int 0, .ref m30, .ref m31, .ref m32, .int 0, .int 0, .int 0, .ref m36, .ref m37, .ref m38, .ref m39, .ref m40, .ref m41, .ref m42, .ref m43, .ref m44, .ref m45, .ref m46, .ref m47, .ref m48, .int 0, .int 0, .int 0, .ref m52, .ref m53, .ref m54, .int 0, .int 0, .int 0, .ref m58, .ref m59, .ref m60, .ref m61, .ref m62, .ref m63])), (m5, .inl (cy 0, 12, .inl (fun _ => 0)))] sz)) (va_Qi (fun (r : Int32) (_ : Unit) => r = 0) (fun _ t => va_P D vwCl [] t.heap ∧ va_D (va_A [(m0, .inr (12, [.int 0, .ref m1, .ref m2, .ref m3, .ref m4, .ref m5, .ref m6, .ref m7, .ref m8, .int 0, .int 0, .int 0, .int 0, .int 0, .long 0, .int 0, .int 0, .int 0, .ref m18, .ref m19, .int 0, .int 0, .int 0, .int 0, .int 0, .int 0, .int 0, .int 0, .int 0, .int 0, .ref m30, .ref m31, .ref m32, .int 0, .int 0, .int 0, .ref m36, .ref m37, .ref m38, .ref m39, .ref m40, .ref m41, .ref m42, .ref m43, .ref m44, .ref m45, .ref m46, .ref m47, .ref m48, .int 0, .int 0, .int 0, .ref m52, .ref m53, .ref m54, .int 0, .int 0, .int 0, .ref m58, .ref m59, .ref m60, .ref m61, .ref m62, .ref m63])), (m5, .inl (cy 0, 12, .inl (fun _ => 0)))] sz) []) (va_A [(m0, .inr (12, [.int 0, .ref m1, .ref m2, .ref m3, .ref m4, .ref m5, .ref m6, .ref m7, .ref m8, .int 0, .int 0, .int 0, .int 0, .int 0, .long 0, .int 0, .int 0, .int 0, .ref m18, .ref m19, .int 0, .int 0, .int 0, .int 0, .int 0, .int 0, .int 0, .int 0, .int 0, .int 0, .ref m30, .ref m31, .ref m32, .int 0, .int 0, .int 0, .ref m36, .ref m37, .ref m38, .ref m39, .ref m40, .ref m41, .ref m42, .ref m43, .ref m44, .ref m45, .ref m46, .ref m47, .ref m48, .int 0, .int 0, .int 0, .ref m52, .ref m53, .ref m54, .int 0, .int 0, .int 0, .ref m58, .ref m59, .ref m60, .ref m61, .ref m62, .ref m63])), (m5, .inl (cy 0, 12, .inl (fun _ => 0)))] sz)) 0 0 (va_A [(m0, .inr (12, [.int 0, .ref m1, .ref m2, .ref m3, .ref m4, .ref m5, .ref m6, .ref m7, .ref m8, .int 0, .int 0, .int 0, .int 0, .int 0, .long 0, .int 0, .int 0, .int 0, .ref m18, .ref m19, .int 0, .int 0, .int 0, .int 0, .int 0, .int 0, .int 0, .int 0, .int 0, .int 0, .ref m30, .ref m31, .ref m32, .int 0, .int 0, .int 0, .ref m36, .ref m37, .ref m38, .ref m39, .ref m40, .ref m41, .ref m42, .ref m43, .ref m44, .ref m45, .ref m46, .ref m47, .ref m48, .int 0, .int 0, .int 0, .ref m52, .ref m53, .ref m54, .int 0, .int 0, .int 0, .ref m58, .ref m59, .ref m60, .ref m61, .ref m62, .ref m63])), (m5, .inl (cy 0, 12, .inl (fun _ => 0)))] sz) := by
  refine Met.ofW (cc := cX12_hasDay) (maxL := 2) (ret := (some .boolean)) (by decide) rfl ?_
  intro p e s m args below meth c s₁ B hml hv
  obtain ⟨rfl, hsz, hP, hKW, hD0⟩ := hv
  have hK := hKW.1
  have hx := B.exec
  have hb := B.bytes
  have hr := B.returns
  have hts := atoms_spec (ws := wsX12_hasDay) B.pre
  have hown : s.vm.findClass RX12 = some m.cls := findClass_of_methodNamed B.named
  have hlocks := B.notSynchronized
  have in_12 : ∀ w ∈ u_ws RX12 TX12 64, w ∈ wsX12_hasDay := by decide +kernel
  have fl_335 := hts (.fieldLink RX12 335 "ShoalClaimsModel" "day" "I") (by decide +kernel)
  subst hsz
  have hD := hD0.self (sz := s.heap.size)
  generalize hAe : va_A [(m0, .inr (12, [.int 0, .ref m1, .ref m2, .ref m3, .ref m4, .ref m5, .ref m6, .ref m7, .ref m8, .int 0, .int 0, .int 0, .int 0, .int 0, .long 0, .int 0, .int 0, .int 0, .ref m18, .ref m19, .int 0, .int 0, .int 0, .int 0, .int 0, .int 0, .int 0, .int 0, .int 0, .int 0, .ref m30, .ref m31, .ref m32, .int 0, .int 0, .int 0, .ref m36, .ref m37, .ref m38, .ref m39, .ref m40, .ref m41, .ref m42, .ref m43, .ref m44, .ref m45, .ref m46, .ref m47, .ref m48, .int 0, .int 0, .int 0, .ref m52, .ref m53, .ref m54, .int 0, .int 0, .int 0, .ref m58, .ref m59, .ref m60, .ref m61, .ref m62, .ref m63])), (m5, .inl (cy 0, 12, .inl (fun _ => 0)))] s.heap.size = A at hD ⊢
  have hA : ∀ q : Nat, s.heap.size ≤ q → A q := fun q h => by rw [← hAe]; exact Or.inr h
  have hS : va_S A s.heap s.heap [] := va_S.rf
  have hP : va_P D vwCl [(m0, .inr (12, [.int 0, .ref m1, .ref m2, .ref m3, .ref m4, .ref m5, .ref m6, .ref m7, .ref m8, .int 0, .int 0, .int 0, .int 0, .int 0, .long 0, .int 0, .int 0, .int 0, .ref m18, .ref m19, .int 0, .int 0, .int 0, .int 0, .int 0, .int 0, .int 0, .int 0, .int 0, .int 0, .ref m30, .ref m31, .ref m32, .int 0, .int 0, .int 0, .ref m36, .ref m37, .ref m38, .ref m39, .ref m40, .ref m41, .ref m42, .ref m43, .ref m44, .ref m45, .ref m46, .ref m47, .ref m48, .int 0, .int 0, .int 0, .ref m52, .ref m53, .ref m54, .int 0, .int 0, .int 0, .ref m58, .ref m59, .ref m60, .ref m61, .ref m62, .ref m63])), (m5, .inl (cy 0, 12, .inl (fun _ => 0)))] s.heap := hP
  have hl := lv_entry ([.ref m0, .int p0]) (n := 2) (Nat.le_of_ble_eq_true rfl)
  rw [lg_entry_eq]
  generalize (lg_sl ([.ref m0, .int p0]) ++ List.replicate (2 - (lg_sl ([.ref m0, .int p0])).length) Slot.unset).toArray = ls at hl ⊢
  have hl : lv_has ls 2 [(0, .ref m0), (1, .int p0)] := hl
  refine lv_aload_n hx hb dX12_hasDay_0 rfl (lv_at hl 0 rfl) ?_
  refine lv_iload_n hx hb dX12_hasDay_1 rfl (lv_at hl 1 rfl) ?_
  refine va_put (D := D) (ci := 12) (v := .int p0) (ty := .int) (C := RX12) (T := TX12) (N := 64) hx hb hts in_12 tyX12 tyX12_ok nmX12 hown hK hP hD hS 0 rfl rfl 33 (by decide) fl_335 (fun _ h9 => h9) rfl (by decide +kernel) rfl rfl (Nat.le_of_ble_eq_true rfl) dX12_hasDay_2 (fun H locs hP hD hS => ?_)
  have hP : va_P D vwCl [(m0, .inr (12, [.int 0, .ref m1, .ref m2, .ref m3, .ref m4, .ref m5, .ref m6, .ref m7, .ref m8, .int 0, .int 0, .int 0, .int 0, .int 0, .long 0, .int 0, .int 0, .int 0, .ref m18, .ref m19, .int 0, .int 0, .int 0, .int 0, .int 0, .int 0, .int 0, .int 0, .int 0, .int 0, .ref m30, .ref m31, .ref m32, .int p0, .int 0, .int 0, .ref m36, .ref m37, .ref m38, .ref m39, .ref m40, .ref m41, .ref m42, .ref m43, .ref m44, .ref m45, .ref m46, .ref m47, .ref m48, .int 0, .int 0, .int 0, .ref m52, .ref m53, .ref m54, .int 0, .int 0, .int 0, .ref m58, .ref m59, .ref m60, .ref m61, .ref m62, .ref m63])), (m5, .inl (cy 0, 12, .inl (fun _ => 0)))] H := hP
  have hD : va_D A [(m0, .inr (12, [.int 0, .ref m1, .ref m2, .ref m3, .ref m4, .ref m5, .ref m6, .ref m7, .ref m8, .int 0, .int 0, .int 0, .int 0, .int 0, .long 0, .int 0, .int 0, .int 0, .ref m18, .ref m19, .int 0, .int 0, .int 0, .int 0, .int 0, .int 0, .int 0, .int 0, .int 0, .int 0, .ref m30, .ref m31, .ref m32, .int p0, .int 0, .int 0, .ref m36, .ref m37, .ref m38, .ref m39, .ref m40, .ref m41, .ref m42, .ref m43, .ref m44, .ref m45, .ref m46, .ref m47, .ref m48, .int 0, .int 0, .int 0, .ref m52, .ref m53, .ref m54, .int 0, .int 0, .int 0, .ref m58, .ref m59, .ref m60, .ref m61, .ref m62, .ref m63])), (m5, .inl (cy 0, 12, .inl (fun _ => 0)))] := hD
  refine lv_aload_n hx hb dX12_hasDay_5 rfl (lv_at hl 0 rfl) ?_
  refine lv_iconst (v := 1) hx hb dX12_hasDay_6 (by decide +kernel) ?_
  refine lv_iload_n hx hb dX12_hasDay_7 rfl (lv_at hl 1 rfl) ?_
  have hPc_1 := hP.sub (ws' := [(m0, .inr (12, [.int 0, .ref m1, .ref m2, .ref m3, .ref m4, .ref m5, .ref m6, .ref m7, .ref m8, .int 0, .int 0, .int 0, .int 0, .int 0, .long 0, .int 0, .int 0, .int 0, .ref m18, .ref m19, .int 0, .int 0, .int 0, .int 0, .int 0, .int 0, .int 0, .int 0, .int 0, .int 0, .ref m30, .ref m31, .ref m32, .int p0, .int 0, .int 0, .ref m36, .ref m37, .ref m38, .ref m39, .ref m40, .ref m41, .ref m42, .ref m43, .ref m44, .ref m45, .ref m46, .ref m47, .ref m48, .int 0, .int 0, .int 0, .ref m52, .ref m53, .ref m54, .int 0, .int 0, .int 0, .ref m58, .ref m59, .ref m60, .ref m61, .ref m62, .ref m63])), (m5, .inl (cy 0, 12, .inl (fun _ => 0)))]) [0, 1] rfl
  refine pc_i (va_runV (As := [.int 1, .int p0]) (rest := []) ⟨hx, hb, hml, hown, hts⟩ (c_X12_is_d l D cy m0 m1 m2 m3 m4 m5 m6 m7 m8 m18 m19 m30 m31 m32 m36 m37 m38 m39 m40 m41 m42 m43 m44 m45 m46 m47 m48 m52 m53 m54 m58 m59 m60 m61 m62 m63 p0 1 p0 (vi_c (by decide +kernel))) (cwV 2 hts gX12_hasDay_X12_is rfl rfl rfl (by decide +kernel) ⟨Nat.le_of_ble_eq_true rfl, Nat.le_of_ble_eq_true rfl⟩) ⟨prB, va_recv hK hPc_1 (ci := 12) (q0 := 0) rfl rfl, fun U hU hW => ⟨rfl, PR.of hU hW hKW hPc_1⟩⟩ rfl rfl hl.1 rfl (lv_room (Nat.le_of_ble_eq_true rfl)) dX12_hasDay_8 ⟨by decide +kernel, by decide +kernel⟩) (fun r_2 hr_2 => ?_)
  subst hr_2
  have hP9 := hP.sub (ws' := []) [] rfl
  have hD9 := hD.sub (ws' := []) [] (by decide) rfl
  exact W.zret (v := 0) hx hb hr (rfl) (fun t ht hW => ⟨⟨0, (), rfl, rfl, by rw [ht]; exact hP9, hD9⟩, hS.F ht⟩) hS.2.2 dX12_hasDay_11
set_option maxHeartbeats 4000000 in
set_option maxRecDepth 100000 in
theorem c_X12_layDay (l : Launch) (D : va_G) (cy : Nat → ClassId) (m0 : Nat) (m1 : Nat) (m2 : Nat) (m3 : Nat) (m4 : Nat) (m5 : Nat) (m6 : Nat) (m7 : Nat) (m8 : Nat) (m18 : Nat) (m19 : Nat) (m30 : Nat) (m31 : Nat) (m32 : Nat) (m36 : Nat) (m37 : Nat) (m38 : Nat) (m39 : Nat) (m40 : Nat) (m41 : Nat) (m42 : Nat) (m43 : Nat) (m44 : Nat) (m45 : Nat) (m46 : Nat) (m47 : Nat) (m48 : Nat) (m52 : Nat) (m53 : Nat) (m54 : Nat) (m58 : Nat) (m59 : Nat) (m60 : Nat) (m61 : Nat) (m62 : Nat) (m63 : Nat) (p0 : Int32) (p1 : Int32) (sz : Nat)  : Met l yX12_layDay wsX12_layDay ({ frames := 3, cells := 0, slots := 0, locals := 65 } : Room) (va_Pc [.ref m0, .int p0, .int p1] (PW D cy [(m0, .inr (12, [.int 0, .ref m1, .ref m2, .ref m3, .ref m4, .ref m5, .ref m6, .ref m7, .ref m8, .int 0, .int 0, .int 0, .int 0, .int 0, .long 0, .int 0, .int 0, .int 0, .ref m18, .ref m19, .int 0, .int 0, .int 0, .int 0, .int 0, .int 0, .int 0, .int 0, .int 0, .int 0, .ref m30, .ref m31, .ref m32, .int 0, .int 0, .int 0, .ref m36, .ref m37, .ref m38, .ref m39, .ref m40, .ref m41, .ref m42, .ref m43, .ref m44, .ref m45, .ref m46, .ref m47, .ref m48, .int 0, .int 0, .int 0, .ref m52, .ref m53, .ref m54, .int 0, .int 0, .int 0, .ref m58, .ref m59, .ref m60, .ref m61, .ref m62, .ref m63])), (m5, .inl (cy 0, 12, .inl (fun _ => 0)))] sz)) (va_Qi (fun (r : Int32) (_ : Unit) => r = 0) (fun _ t => va_P D vwCl [] t.heap ∧ va_D (va_A [(m0, .inr (12, [.int 0, .ref m1, .ref m2, .ref m3, .ref m4, .ref m5, .ref m6, .ref m7, .ref m8, .int 0, .int 0, .int 0, .int 0, .int 0, .long 0, .int 0, .int 0, .int 0, .ref m18, .ref m19, .int 0, .int 0, .int 0, .int 0, .int 0, .int 0, .int 0, .int 0, .int 0, .int 0, .ref m30, .ref m31, .ref m32, .int 0, .int 0, .int 0, .ref m36, .ref m37, .ref m38, .ref m39, .ref m40, .ref m41, .ref m42, .ref m43, .ref m44, .ref m45, .ref m46, .ref m47, .ref m48, .int 0, .int 0, .int 0, .ref m52, .ref m53, .ref m54, .int 0, .int 0, .int 0, .ref m58, .ref m59, .ref m60, .ref m61, .ref m62, .ref m63])), (m5, .inl (cy 0, 12, .inl (fun _ => 0)))] sz) []) (va_A [(m0, .inr (12, [.int 0, .ref m1, .ref m2, .ref m3, .ref m4, .ref m5, .ref m6, .ref m7, .ref m8, .int 0, .int 0, .int 0, .int 0, .int 0, .long 0, .int 0, .int 0, .int 0, .ref m18, .ref m19, .int 0, .int 0, .int 0, .int 0, .int 0, .int 0, .int 0, .int 0, .int 0, .int 0, .ref m30, .ref m31, .ref m32, .int 0, .int 0, .int 0, .ref m36, .ref m37, .ref m38, .ref m39, .ref m40, .ref m41, .ref m42, .ref m43, .ref m44, .ref m45, .ref m46, .ref m47, .ref m48, .int 0, .int 0, .int 0, .ref m52, .ref m53, .ref m54, .int 0, .int 0, .int 0, .ref m58, .ref m59, .ref m60, .ref m61, .ref m62, .ref m63])), (m5, .inl (cy 0, 12, .inl (fun _ => 0)))] sz)) 0 0 (va_A [(m0, .inr (12, [.int 0, .ref m1, .ref m2, .ref m3, .ref m4, .ref m5, .ref m6, .ref m7, .ref m8, .int 0, .int 0, .int 0, .int 0, .int 0, .long 0, .int 0, .int 0, .int 0, .ref m18, .ref m19, .int 0, .int 0, .int 0, .int 0, .int 0, .int 0, .int 0, .int 0, .int 0, .int 0, .ref m30, .ref m31, .ref m32, .int 0, .int 0, .int 0, .ref m36, .ref m37, .ref m38, .ref m39, .ref m40, .ref m41, .ref m42, .ref m43, .ref m44, .ref m45, .ref m46, .ref m47, .ref m48, .int 0, .int 0, .int 0, .ref m52, .ref m53, .ref m54, .int 0, .int 0, .int 0, .ref m58, .ref m59, .ref m60, .ref m61, .ref m62, .ref m63])), (m5, .inl (cy 0, 12, .inl (fun _ => 0)))] sz) := by
  refine Met.ofW (cc := cX12_layDay) (maxL := 3) (ret := (some .boolean)) (by decide) rfl ?_
  intro p e s m args below meth c s₁ B hml hv
  obtain ⟨rfl, hsz, hP, hKW, hD0⟩ := hv
  have hK := hKW.1
  have hx := B.exec
  have hb := B.bytes
  have hr := B.returns
  have hts := atoms_spec (ws := wsX12_layDay) B.pre
  have hown : s.vm.findClass RX12 = some m.cls := findClass_of_methodNamed B.named
  have hlocks := B.notSynchronized
  subst hsz
  have hD := hD0.self (sz := s.heap.size)
  generalize hAe : va_A [(m0, .inr (12, [.int 0, .ref m1, .ref m2, .ref m3, .ref m4, .ref m5, .ref m6, .ref m7, .ref m8, .int 0, .int 0, .int 0, .int 0, .int 0, .long 0, .int 0, .int 0, .int 0, .ref m18, .ref m19, .int 0, .int 0, .int 0, .int 0, .int 0, .int 0, .int 0, .int 0, .int 0, .int 0, .ref m30, .ref m31, .ref m32, .int 0, .int 0, .int 0, .ref m36, .ref m37, .ref m38, .ref m39, .ref m40, .ref m41, .ref m42, .ref m43, .ref m44, .ref m45, .ref m46, .ref m47, .ref m48, .int 0, .int 0, .int 0, .ref m52, .ref m53, .ref m54, .int 0, .int 0, .int 0, .ref m58, .ref m59, .ref m60, .ref m61, .ref m62, .ref m63])), (m5, .inl (cy 0, 12, .inl (fun _ => 0)))] s.heap.size = A at hD ⊢
  have hA : ∀ q : Nat, s.heap.size ≤ q → A q := fun q h => by rw [← hAe]; exact Or.inr h
  have hS : va_S A s.heap s.heap [] := va_S.rf
  have hP : va_P D vwCl [(m0, .inr (12, [.int 0, .ref m1, .ref m2, .ref m3, .ref m4, .ref m5, .ref m6, .ref m7, .ref m8, .int 0, .int 0, .int 0, .int 0, .int 0, .long 0, .int 0, .int 0, .int 0, .ref m18, .ref m19, .int 0, .int 0, .int 0, .int 0, .int 0, .int 0, .int 0, .int 0, .int 0, .int 0, .ref m30, .ref m31, .ref m32, .int 0, .int 0, .int 0, .ref m36, .ref m37, .ref m38, .ref m39, .ref m40, .ref m41, .ref m42, .ref m43, .ref m44, .ref m45, .ref m46, .ref m47, .ref m48, .int 0, .int 0, .int 0, .ref m52, .ref m53, .ref m54, .int 0, .int 0, .int 0, .ref m58, .ref m59, .ref m60, .ref m61, .ref m62, .ref m63])), (m5, .inl (cy 0, 12, .inl (fun _ => 0)))] s.heap := hP
  have hl := lv_entry ([.ref m0, .int p0, .int p1]) (n := 3) (Nat.le_of_ble_eq_true rfl)
  rw [lg_entry_eq]
  generalize (lg_sl ([.ref m0, .int p0, .int p1]) ++ List.replicate (3 - (lg_sl ([.ref m0, .int p0, .int p1])).length) Slot.unset).toArray = ls at hl ⊢
  have hl : lv_has ls 3 [(0, .ref m0), (1, .int p0), (2, .int p1)] := hl
  refine lv_aload_n hx hb dX12_layDay_0 rfl (lv_at hl 0 rfl) ?_
  refine lv_iload_n hx hb dX12_layDay_1 rfl (lv_at hl 2 rfl) ?_
  have hPc_1 := hP.sub (ws' := [(m0, .inr (12, [.int 0, .ref m1, .ref m2, .ref m3, .ref m4, .ref m5, .ref m6, .ref m7, .ref m8, .int 0, .int 0, .int 0, .int 0, .int 0, .long 0, .int 0, .int 0, .int 0, .ref m18, .ref m19, .int 0, .int 0, .int 0, .int 0, .int 0, .int 0, .int 0, .int 0, .int 0, .int 0, .ref m30, .ref m31, .ref m32, .int 0, .int 0, .int 0, .ref m36, .ref m37, .ref m38, .ref m39, .ref m40, .ref m41, .ref m42, .ref m43, .ref m44, .ref m45, .ref m46, .ref m47, .ref m48, .int 0, .int 0, .int 0, .ref m52, .ref m53, .ref m54, .int 0, .int 0, .int 0, .ref m58, .ref m59, .ref m60, .ref m61, .ref m62, .ref m63])), (m5, .inl (cy 0, 12, .inl (fun _ => 0)))]) [0, 1] rfl
  have hDc_2 := hD.sub (ws' := [(m0, .inr (12, [.int 0, .ref m1, .ref m2, .ref m3, .ref m4, .ref m5, .ref m6, .ref m7, .ref m8, .int 0, .int 0, .int 0, .int 0, .int 0, .long 0, .int 0, .int 0, .int 0, .ref m18, .ref m19, .int 0, .int 0, .int 0, .int 0, .int 0, .int 0, .int 0, .int 0, .int 0, .int 0, .ref m30, .ref m31, .ref m32, .int 0, .int 0, .int 0, .ref m36, .ref m37, .ref m38, .ref m39, .ref m40, .ref m41, .ref m42, .ref m43, .ref m44, .ref m45, .ref m46, .ref m47, .ref m48, .int 0, .int 0, .int 0, .ref m52, .ref m53, .ref m54, .int 0, .int 0, .int 0, .ref m58, .ref m59, .ref m60, .ref m61, .ref m62, .ref m63])), (m5, .inl (cy 0, 12, .inl (fun _ => 0)))]) [0, 1] (by decide) rfl
  have hFc_3 := va_free (wc := [(m0, .inr (12, [.int 0, .ref m1, .ref m2, .ref m3, .ref m4, .ref m5, .ref m6, .ref m7, .ref m8, .int 0, .int 0, .int 0, .int 0, .int 0, .long 0, .int 0, .int 0, .int 0, .ref m18, .ref m19, .int 0, .int 0, .int 0, .int 0, .int 0, .int 0, .int 0, .int 0, .int 0, .int 0, .ref m30, .ref m31, .ref m32, .int 0, .int 0, .int 0, .ref m36, .ref m37, .ref m38, .ref m39, .ref m40, .ref m41, .ref m42, .ref m43, .ref m44, .ref m45, .ref m46, .ref m47, .ref m48, .int 0, .int 0, .int 0, .ref m52, .ref m53, .ref m54, .int 0, .int 0, .int 0, .ref m58, .ref m59, .ref m60, .ref m61, .ref m62, .ref m63])), (m5, .inl (cy 0, 12, .inl (fun _ => 0)))]) hD hS hA [0, 1] rfl
  refine va_calli (va_runV (As := [.int p1]) (rest := []) ⟨hx, hb, hml, hown, hts⟩ (c_X12_hasDay l D cy m0 m1 m2 m3 m4 m5 m6 m7 m8 m18 m19 m30 m31 m32 m36 m37 m38 m39 m40 m41 m42 m43 m44 m45 m46 m47 m48 m52 m53 m54 m58 m59 m60 m61 m62 m63 p1 s.heap.size) (cwV 1 hts gX12_layDay_X12_hasDay rfl rfl rfl (by decide +kernel) ⟨Nat.le_of_ble_eq_true rfl, Nat.le_of_ble_eq_true rfl⟩) ⟨pwB, va_recv hK hPc_1 (ci := 12) (q0 := 0) rfl rfl, fun U hU hW => ⟨rfl, PW.of hU hW hKW hPc_1 hDc_2⟩⟩ rfl rfl hl.1 rfl (lv_room (Nat.le_of_ble_eq_true rfl)) dX12_layDay_2 ⟨by decide +kernel, by decide +kernel⟩) hS (fun q _ h => hFc_3 q h) hFc_3 (fun r_5 u t H1 locs ht hvm hw_4 hB hz1 hk1 hS => ?_)
  subst hw_4
  obtain ⟨hP1, hD1⟩ := hB
  rw [ht] at hP1
  obtain ⟨hP, hD⟩ := va_join (wr := []) (w1 := []) hP hD [0, 1] [] rfl rfl (by decide) (by decide) hk1 hFc_3 hP1 hD1
  generalize H1 = H at hP hS ⊢
  have hP : va_P D vwCl [] H := hP
  have hD : va_D A [] := hD
  refine lv_if_eq (tgt := 16) hx hb dX12_layDay_5 (by decide) (fun _ => ?_) (fun c_6 => absurd (by decide +kernel) c_6)
  refine lv_iconst (v := 0) hx hb dX12_layDay_16 (by decide +kernel) ?_
  have hP9 := hP.sub (ws' := []) [] rfl
  have hD9 := hD.sub (ws' := []) [] (by decide) rfl
  exact W.zret (v := 0) hx hb hr (rfl) (fun t ht hW => ⟨⟨0, (), rfl, rfl, by rw [ht]; exact hP9, hD9⟩, hS.F ht⟩) hS.2.2 dX12_layDay_17
set_option maxHeartbeats 4000000 in
set_option maxRecDepth 100000 in
theorem c_X12_layState (l : Launch) (D : va_G) (cy : Nat → ClassId) (m0 : Nat) (m1 : Nat) (m2 : Nat) (m3 : Nat) (m4 : Nat) (m5 : Nat) (m6 : Nat) (m7 : Nat) (m8 : Nat) (m18 : Nat) (m19 : Nat) (m30 : Nat) (m31 : Nat) (m32 : Nat) (m36 : Nat) (m37 : Nat) (m38 : Nat) (m39 : Nat) (m40 : Nat) (m41 : Nat) (m42 : Nat) (m43 : Nat) (m44 : Nat) (m45 : Nat) (m46 : Nat) (m47 : Nat) (m48 : Nat) (m52 : Nat) (m53 : Nat) (m54 : Nat) (m58 : Nat) (m59 : Nat) (m60 : Nat) (m61 : Nat) (m62 : Nat) (m63 : Nat) (p0 : Int32) (p1 : Int32) (p2 : Int32) (sz : Nat)  : Met l yX12_layState wsX12_layState ({ frames := 4, cells := 0, slots := 0, locals := 87 } : Room) (va_Pc [.ref m0, .int p0, .int p1, .int p2] (PW D cy [(m0, .inr (12, [.int 0, .ref m1, .ref m2, .ref m3, .ref m4, .ref m5, .ref m6, .ref m7, .ref m8, .int 0, .int 0, .int 0, .int 0, .int 0, .long 0, .int 0, .int 0, .int 0, .ref m18, .ref m19, .int 0, .int 0, .int 0, .int 0, .int 0, .int 0, .int 0, .int 0, .int 0, .int 0, .ref m30, .ref m31, .ref m32, .int 0, .int 0, .int 0, .ref m36, .ref m37, .ref m38, .ref m39, .ref m40, .ref m41, .ref m42, .ref m43, .ref m44, .ref m45, .ref m46, .ref m47, .ref m48, .int 0, .int 0, .int 0, .ref m52, .ref m53, .ref m54, .int 0, .int 0, .int 0, .ref m58, .ref m59, .ref m60, .ref m61, .ref m62, .ref m63])), (m5, .inl (cy 0, 12, .inl (fun _ => 0)))] sz)) (va_Qi (fun (r : Int32) (_ : Unit) => r = 0) (fun _ t => va_P D vwCl [] t.heap ∧ va_D (va_A [(m0, .inr (12, [.int 0, .ref m1, .ref m2, .ref m3, .ref m4, .ref m5, .ref m6, .ref m7, .ref m8, .int 0, .int 0, .int 0, .int 0, .int 0, .long 0, .int 0, .int 0, .int 0, .ref m18, .ref m19, .int 0, .int 0, .int 0, .int 0, .int 0, .int 0, .int 0, .int 0, .int 0, .int 0, .ref m30, .ref m31, .ref m32, .int 0, .int 0, .int 0, .ref m36, .ref m37, .ref m38, .ref m39, .ref m40, .ref m41, .ref m42, .ref m43, .ref m44, .ref m45, .ref m46, .ref m47, .ref m48, .int 0, .int 0, .int 0, .ref m52, .ref m53, .ref m54, .int 0, .int 0, .int 0, .ref m58, .ref m59, .ref m60, .ref m61, .ref m62, .ref m63])), (m5, .inl (cy 0, 12, .inl (fun _ => 0)))] sz) []) (va_A [(m0, .inr (12, [.int 0, .ref m1, .ref m2, .ref m3, .ref m4, .ref m5, .ref m6, .ref m7, .ref m8, .int 0, .int 0, .int 0, .int 0, .int 0, .long 0, .int 0, .int 0, .int 0, .ref m18, .ref m19, .int 0, .int 0, .int 0, .int 0, .int 0, .int 0, .int 0, .int 0, .int 0, .int 0, .ref m30, .ref m31, .ref m32, .int 0, .int 0, .int 0, .ref m36, .ref m37, .ref m38, .ref m39, .ref m40, .ref m41, .ref m42, .ref m43, .ref m44, .ref m45, .ref m46, .ref m47, .ref m48, .int 0, .int 0, .int 0, .ref m52, .ref m53, .ref m54, .int 0, .int 0, .int 0, .ref m58, .ref m59, .ref m60, .ref m61, .ref m62, .ref m63])), (m5, .inl (cy 0, 12, .inl (fun _ => 0)))] sz)) 0 0 (va_A [(m0, .inr (12, [.int 0, .ref m1, .ref m2, .ref m3, .ref m4, .ref m5, .ref m6, .ref m7, .ref m8, .int 0, .int 0, .int 0, .int 0, .int 0, .long 0, .int 0, .int 0, .int 0, .ref m18, .ref m19, .int 0, .int 0, .int 0, .int 0, .int 0, .int 0, .int 0, .int 0, .int 0, .int 0, .ref m30, .ref m31, .ref m32, .int 0, .int 0, .int 0, .ref m36, .ref m37, .ref m38, .ref m39, .ref m40, .ref m41, .ref m42, .ref m43, .ref m44, .ref m45, .ref m46, .ref m47, .ref m48, .int 0, .int 0, .int 0, .ref m52, .ref m53, .ref m54, .int 0, .int 0, .int 0, .ref m58, .ref m59, .ref m60, .ref m61, .ref m62, .ref m63])), (m5, .inl (cy 0, 12, .inl (fun _ => 0)))] sz) := by
  refine Met.ofW (cc := cX12_layState) (maxL := 4) (ret := (some .boolean)) (by decide) rfl ?_
  intro p e s m args below meth c s₁ B hml hv
  obtain ⟨rfl, hsz, hP, hKW, hD0⟩ := hv
  have hK := hKW.1
  have hx := B.exec
  have hb := B.bytes
  have hr := B.returns
  have hts := atoms_spec (ws := wsX12_layState) B.pre
  have hown : s.vm.findClass RX12 = some m.cls := findClass_of_methodNamed B.named
  have hlocks := B.notSynchronized
  subst hsz
  have hD := hD0.self (sz := s.heap.size)
  generalize hAe : va_A [(m0, .inr (12, [.int 0, .ref m1, .ref m2, .ref m3, .ref m4, .ref m5, .ref m6, .ref m7, .ref m8, .int 0, .int 0, .int 0, .int 0, .int 0, .long 0, .int 0, .int 0, .int 0, .ref m18, .ref m19, .int 0, .int 0, .int 0, .int 0, .int 0, .int 0, .int 0, .int 0, .int 0, .int 0, .ref m30, .ref m31, .ref m32, .int 0, .int 0, .int 0, .ref m36, .ref m37, .ref m38, .ref m39, .ref m40, .ref m41, .ref m42, .ref m43, .ref m44, .ref m45, .ref m46, .ref m47, .ref m48, .int 0, .int 0, .int 0, .ref m52, .ref m53, .ref m54, .int 0, .int 0, .int 0, .ref m58, .ref m59, .ref m60, .ref m61, .ref m62, .ref m63])), (m5, .inl (cy 0, 12, .inl (fun _ => 0)))] s.heap.size = A at hD ⊢
  have hA : ∀ q : Nat, s.heap.size ≤ q → A q := fun q h => by rw [← hAe]; exact Or.inr h
  have hS : va_S A s.heap s.heap [] := va_S.rf
  have hP : va_P D vwCl [(m0, .inr (12, [.int 0, .ref m1, .ref m2, .ref m3, .ref m4, .ref m5, .ref m6, .ref m7, .ref m8, .int 0, .int 0, .int 0, .int 0, .int 0, .long 0, .int 0, .int 0, .int 0, .ref m18, .ref m19, .int 0, .int 0, .int 0, .int 0, .int 0, .int 0, .int 0, .int 0, .int 0, .int 0, .ref m30, .ref m31, .ref m32, .int 0, .int 0, .int 0, .ref m36, .ref m37, .ref m38, .ref m39, .ref m40, .ref m41, .ref m42, .ref m43, .ref m44, .ref m45, .ref m46, .ref m47, .ref m48, .int 0, .int 0, .int 0, .ref m52, .ref m53, .ref m54, .int 0, .int 0, .int 0, .ref m58, .ref m59, .ref m60, .ref m61, .ref m62, .ref m63])), (m5, .inl (cy 0, 12, .inl (fun _ => 0)))] s.heap := hP
  have hl := lv_entry ([.ref m0, .int p0, .int p1, .int p2]) (n := 4) (Nat.le_of_ble_eq_true rfl)
  rw [lg_entry_eq]
  generalize (lg_sl ([.ref m0, .int p0, .int p1, .int p2]) ++ List.replicate (4 - (lg_sl ([.ref m0, .int p0, .int p1, .int p2])).length) Slot.unset).toArray = ls at hl ⊢
  have hl : lv_has ls 4 [(0, .ref m0), (1, .int p0), (2, .int p1), (3, .int p2)] := hl
  refine lv_iload_n hx hb dX12_layState_0 rfl (lv_at hl 3 rfl) ?_
  refine lv_if_lt (tgt := 34) hx hb dX12_layState_1 (by decide) (fun c_1 => ?_) (fun c_1 => ?_)
  · refine lv_iconst (v := 0) hx hb dX12_layState_34 (by decide +kernel) ?_
    have hP9 := hP.sub (ws' := []) [] rfl
    have hD9 := hD.sub (ws' := []) [] (by decide) rfl
    exact W.zret (v := 0) hx hb hr (rfl) (fun t ht hW => ⟨⟨0, (), rfl, rfl, by rw [ht]; exact hP9, hD9⟩, hS.F ht⟩) hS.2.2 dX12_layState_35
  · refine lv_aload_n hx hb dX12_layState_4 rfl (lv_at hl 0 rfl) ?_
    refine lv_iload_n hx hb dX12_layState_5 rfl (lv_at hl 1 rfl) ?_
    refine lv_iload_n hx hb dX12_layState_6 rfl (lv_at hl 2 rfl) ?_
    have hPc_2 := hP.sub (ws' := [(m0, .inr (12, [.int 0, .ref m1, .ref m2, .ref m3, .ref m4, .ref m5, .ref m6, .ref m7, .ref m8, .int 0, .int 0, .int 0, .int 0, .int 0, .long 0, .int 0, .int 0, .int 0, .ref m18, .ref m19, .int 0, .int 0, .int 0, .int 0, .int 0, .int 0, .int 0, .int 0, .int 0, .int 0, .ref m30, .ref m31, .ref m32, .int 0, .int 0, .int 0, .ref m36, .ref m37, .ref m38, .ref m39, .ref m40, .ref m41, .ref m42, .ref m43, .ref m44, .ref m45, .ref m46, .ref m47, .ref m48, .int 0, .int 0, .int 0, .ref m52, .ref m53, .ref m54, .int 0, .int 0, .int 0, .ref m58, .ref m59, .ref m60, .ref m61, .ref m62, .ref m63])), (m5, .inl (cy 0, 12, .inl (fun _ => 0)))]) [0, 1] rfl
    have hDc_3 := hD.sub (ws' := [(m0, .inr (12, [.int 0, .ref m1, .ref m2, .ref m3, .ref m4, .ref m5, .ref m6, .ref m7, .ref m8, .int 0, .int 0, .int 0, .int 0, .int 0, .long 0, .int 0, .int 0, .int 0, .ref m18, .ref m19, .int 0, .int 0, .int 0, .int 0, .int 0, .int 0, .int 0, .int 0, .int 0, .int 0, .ref m30, .ref m31, .ref m32, .int 0, .int 0, .int 0, .ref m36, .ref m37, .ref m38, .ref m39, .ref m40, .ref m41, .ref m42, .ref m43, .ref m44, .ref m45, .ref m46, .ref m47, .ref m48, .int 0, .int 0, .int 0, .ref m52, .ref m53, .ref m54, .int 0, .int 0, .int 0, .ref m58, .ref m59, .ref m60, .ref m61, .ref m62, .ref m63])), (m5, .inl (cy 0, 12, .inl (fun _ => 0)))]) [0, 1] (by decide) rfl
    have hFc_4 := va_free (wc := [(m0, .inr (12, [.int 0, .ref m1, .ref m2, .ref m3, .ref m4, .ref m5, .ref m6, .ref m7, .ref m8, .int 0, .int 0, .int 0, .int 0, .int 0, .long 0, .int 0, .int 0, .int 0, .ref m18, .ref m19, .int 0, .int 0, .int 0, .int 0, .int 0, .int 0, .int 0, .int 0, .int 0, .int 0, .ref m30, .ref m31, .ref m32, .int 0, .int 0, .int 0, .ref m36, .ref m37, .ref m38, .ref m39, .ref m40, .ref m41, .ref m42, .ref m43, .ref m44, .ref m45, .ref m46, .ref m47, .ref m48, .int 0, .int 0, .int 0, .ref m52, .ref m53, .ref m54, .int 0, .int 0, .int 0, .ref m58, .ref m59, .ref m60, .ref m61, .ref m62, .ref m63])), (m5, .inl (cy 0, 12, .inl (fun _ => 0)))]) hD hS hA [0, 1] rfl
    refine va_calli (va_runV (As := [.int p0, .int p1]) (rest := []) ⟨hx, hb, hml, hown, hts⟩ (c_X12_layDay l D cy m0 m1 m2 m3 m4 m5 m6 m7 m8 m18 m19 m30 m31 m32 m36 m37 m38 m39 m40 m41 m42 m43 m44 m45 m46 m47 m48 m52 m53 m54 m58 m59 m60 m61 m62 m63 p0 p1 s.heap.size) (cwV 2 hts gX12_layState_X12_layDay rfl rfl rfl (by decide +kernel) ⟨Nat.le_of_ble_eq_true rfl, Nat.le_of_ble_eq_true rfl⟩) ⟨pwB, va_recv hK hPc_2 (ci := 12) (q0 := 0) rfl rfl, fun U hU hW => ⟨rfl, PW.of hU hW hKW hPc_2 hDc_3⟩⟩ rfl rfl hl.1 rfl (lv_room (Nat.le_of_ble_eq_true rfl)) dX12_layState_7 ⟨by decide +kernel, by decide +kernel⟩) hS (fun q _ h => hFc_4 q h) hFc_4 (fun r_6 u t H1 locs ht hvm hw_5 hB hz1 hk1 hS => ?_)
    subst hw_5
    obtain ⟨hP1, hD1⟩ := hB
    rw [ht] at hP1
    obtain ⟨hP, hD⟩ := va_join (wr := []) (w1 := []) hP hD [0, 1] [] rfl rfl (by decide) (by decide) hk1 hFc_4 hP1 hD1
    generalize H1 = H at hP hS ⊢
    have hP : va_P D vwCl [] H := hP
    have hD : va_D A [] := hD
    refine lv_if_eq (tgt := 34) hx hb dX12_layState_10 (by decide) (fun _ => ?_) (fun c_7 => absurd (by decide +kernel) c_7)
    refine lv_iconst (v := 0) hx hb dX12_layState_34 (by decide +kernel) ?_
    have hP9 := hP.sub (ws' := []) [] rfl
    have hD9 := hD.sub (ws' := []) [] (by decide) rfl
    exact W.zret (v := 0) hx hb hr (rfl) (fun t ht hW => ⟨⟨0, (), rfl, rfl, by rw [ht]; exact hP9, hD9⟩, hS.F ht⟩) hS.2.2 dX12_layState_35
