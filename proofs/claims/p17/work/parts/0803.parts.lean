theorem dX4_init_0 : decode cX4_init 0 = .ok (.aload_n 0, 1) := by decide +kernel
theorem dX4_init_1 : decode cX4_init 1 = .ok (.invokespecial 3, 3) := by decide +kernel
theorem dX4_init_4 : decode cX4_init 4 = .ok (.aload_n 0, 1) := by decide +kernel
theorem dX4_init_5 : decode cX4_init 5 = .ok (.new 9, 3) := by decide +kernel
theorem dX4_init_8 : decode cX4_init 8 = .ok (.dup, 1) := by decide +kernel
theorem dX4_init_9 : decode cX4_init 9 = .ok (.invokespecial 11, 3) := by decide +kernel
set_option maxRecDepth 20000 in
theorem ggX4_init_X6_init : GoodIn wsX4_init wsX6_init := goodIn_r _ [20, 21, 2, 3, 16, 22, 23, 24, 25, 26, 27, 28, 41, 42, 43, 44, 45, 46, 47, 48, 49, 50, 51, 52, 53, 54, 55] (by decide +kernel) (by decide +kernel)
theorem dX4_init_12 : decode cX4_init 12 = .ok (.putfield 12, 3) := by decide +kernel
theorem dX4_init_15 : decode cX4_init 15 = .ok (.aload_n 0, 1) := by decide +kernel
theorem dX4_init_16 : decode cX4_init 16 = .ok (.new 18, 3) := by decide +kernel
theorem dX4_init_19 : decode cX4_init 19 = .ok (.dup, 1) := by decide +kernel
theorem dX4_init_20 : decode cX4_init 20 = .ok (.invokespecial 20, 3) := by decide +kernel
set_option maxRecDepth 20000 in
theorem ggX4_init_X1_init : GoodIn wsX4_init wsX1_init := goodIn_r _ [30, 31, 2, 3, 16, 32, 33, 66, 67, 68] (by decide +kernel) (by decide +kernel)
theorem dX4_init_23 : decode cX4_init 23 = .ok (.putfield 21, 3) := by decide +kernel
theorem dX4_init_26 : decode cX4_init 26 = .ok (.aload_n 0, 1) := by decide +kernel
theorem dX4_init_27 : decode cX4_init 27 = .ok (.new 25, 3) := by decide +kernel
theorem dX4_init_30 : decode cX4_init 30 = .ok (.dup, 1) := by decide +kernel
theorem dX4_init_31 : decode cX4_init 31 = .ok (.invokespecial 27, 3) := by decide +kernel
set_option maxRecDepth 20000 in
theorem ggX4_init_X2_init : GoodIn wsX4_init wsX2_init := goodIn_r _ [35, 36, 2, 3, 16, 37, 38, 39, 40, 69, 70, 71, 72, 73, 74] (by decide +kernel) (by decide +kernel)
theorem dX4_init_34 : decode cX4_init 34 = .ok (.putfield 28, 3) := by decide +kernel
theorem dX4_init_37 : decode cX4_init 37 = .ok (.aload_n 0, 1) := by decide +kernel
theorem dX4_init_38 : decode cX4_init 38 = .ok (.iconst 5, 1) := by decide +kernel
theorem dX4_init_39 : decode cX4_init 39 = .ok (.newarray .int, 2) := by decide +kernel
theorem dX4_init_41 : decode cX4_init 41 = .ok (.putfield 32, 3) := by decide +kernel
theorem dX4_init_44 : decode cX4_init 44 = .ok (.aload_n 0, 1) := by decide +kernel
theorem dX4_init_45 : decode cX4_init 45 = .ok (.iconst 5, 1) := by decide +kernel
theorem dX4_init_46 : decode cX4_init 46 = .ok (.newarray .int, 2) := by decide +kernel
theorem dX4_init_48 : decode cX4_init 48 = .ok (.putfield 36, 3) := by decide +kernel
theorem dX4_init_51 : decode cX4_init 51 = .ok (.return_, 1) := by decide +kernel
theorem dX7_init_0 : decode cX7_init 0 = .ok (.aload_n 0, 1) := by decide +kernel
theorem dX7_init_1 : decode cX7_init 1 = .ok (.invokespecial 3, 3) := by decide +kernel
theorem dX7_init_4 : decode cX7_init 4 = .ok (.aload_n 0, 1) := by decide +kernel
theorem dX7_init_5 : decode cX7_init 5 = .ok (.bipush 6, 2) := by decide +kernel
theorem dX7_init_7 : decode cX7_init 7 = .ok (.newarray .int, 2) := by decide +kernel
theorem dX7_init_9 : decode cX7_init 9 = .ok (.putfield 9, 3) := by decide +kernel
theorem dX7_init_12 : decode cX7_init 12 = .ok (.aload_n 0, 1) := by decide +kernel
theorem dX7_init_13 : decode cX7_init 13 = .ok (.bipush 6, 2) := by decide +kernel
theorem dX7_init_15 : decode cX7_init 15 = .ok (.newarray .int, 2) := by decide +kernel
theorem dX7_init_17 : decode cX7_init 17 = .ok (.putfield 15, 3) := by decide +kernel
theorem dX7_init_20 : decode cX7_init 20 = .ok (.aload_n 0, 1) := by decide +kernel
theorem dX7_init_21 : decode cX7_init 21 = .ok (.bipush 6, 2) := by decide +kernel
theorem dX7_init_23 : decode cX7_init 23 = .ok (.newarray .int, 2) := by decide +kernel
theorem dX7_init_25 : decode cX7_init 25 = .ok (.putfield 18, 3) := by decide +kernel
theorem dX7_init_28 : decode cX7_init 28 = .ok (.aload_n 0, 1) := by decide +kernel
theorem dX7_init_29 : decode cX7_init 29 = .ok (.bipush 6, 2) := by decide +kernel
theorem dX7_init_31 : decode cX7_init 31 = .ok (.newarray .int, 2) := by decide +kernel
theorem dX7_init_33 : decode cX7_init 33 = .ok (.putfield 21, 3) := by decide +kernel
theorem dX7_init_36 : decode cX7_init 36 = .ok (.aload_n 0, 1) := by decide +kernel
theorem dX7_init_37 : decode cX7_init 37 = .ok (.bipush 6, 2) := by decide +kernel
theorem dX7_init_39 : decode cX7_init 39 = .ok (.newarray .int, 2) := by decide +kernel
theorem dX7_init_41 : decode cX7_init 41 = .ok (.putfield 24, 3) := by decide +kernel
theorem dX7_init_44 : decode cX7_init 44 = .ok (.aload_n 0, 1) := by decide +kernel
theorem dX7_init_45 : decode cX7_init 45 = .ok (.bipush 6, 2) := by decide +kernel
theorem dX7_init_47 : decode cX7_init 47 = .ok (.newarray .int, 2) := by decide +kernel
theorem dX7_init_49 : decode cX7_init 49 = .ok (.putfield 27, 3) := by decide +kernel
theorem dX7_init_52 : decode cX7_init 52 = .ok (.return_, 1) := by decide +kernel
theorem dX5_init_0 : decode cX5_init 0 = .ok (.aload_n 0, 1) := by decide +kernel
theorem dX5_init_1 : decode cX5_init 1 = .ok (.invokespecial 3, 3) := by decide +kernel
theorem dX5_init_4 : decode cX5_init 4 = .ok (.aload_n 0, 1) := by decide +kernel
theorem dX5_init_5 : decode cX5_init 5 = .ok (.new 9, 3) := by decide +kernel
theorem dX5_init_8 : decode cX5_init 8 = .ok (.dup, 1) := by decide +kernel
theorem dX5_init_9 : decode cX5_init 9 = .ok (.invokespecial 11, 3) := by decide +kernel
set_option maxRecDepth 20000 in
theorem ggX5_init_X7_init : GoodIn wsX5_init wsX7_init := goodIn_r _ [14, 15, 2, 3, 8, 16, 17, 18, 19, 20, 21, 22, 23, 24, 25, 26, 27, 28, 29] (by decide +kernel) (by decide +kernel)
theorem dX5_init_12 : decode cX5_init 12 = .ok (.putfield 12, 3) := by decide +kernel
theorem dX5_init_15 : decode cX5_init 15 = .ok (.aload_n 0, 1) := by decide +kernel
theorem dX5_init_16 : decode cX5_init 16 = .ok (.bipush 6, 2) := by decide +kernel
theorem dX5_init_18 : decode cX5_init 18 = .ok (.newarray .int, 2) := by decide +kernel
theorem dX5_init_20 : decode cX5_init 20 = .ok (.putfield 18, 3) := by decide +kernel
theorem dX5_init_23 : decode cX5_init 23 = .ok (.aload_n 0, 1) := by decide +kernel
theorem dX5_init_24 : decode cX5_init 24 = .ok (.bipush 6, 2) := by decide +kernel
theorem dX5_init_26 : decode cX5_init 26 = .ok (.newarray .int, 2) := by decide +kernel
theorem dX5_init_28 : decode cX5_init 28 = .ok (.putfield 22, 3) := by decide +kernel
theorem dX5_init_31 : decode cX5_init 31 = .ok (.aload_n 0, 1) := by decide +kernel
theorem dX5_init_32 : decode cX5_init 32 = .ok (.bipush 6, 2) := by decide +kernel
theorem dX5_init_34 : decode cX5_init 34 = .ok (.newarray .int, 2) := by decide +kernel
theorem dX5_init_36 : decode cX5_init 36 = .ok (.putfield 25, 3) := by decide +kernel
theorem dX5_init_39 : decode cX5_init 39 = .ok (.aload_n 0, 1) := by decide +kernel
theorem dX5_init_40 : decode cX5_init 40 = .ok (.iconst 3, 1) := by decide +kernel
theorem dX5_init_41 : decode cX5_init 41 = .ok (.newarray .int, 2) := by decide +kernel
theorem dX5_init_43 : decode cX5_init 43 = .ok (.putfield 28, 3) := by decide +kernel
theorem dX5_init_46 : decode cX5_init 46 = .ok (.return_, 1) := by decide +kernel
theorem dX10_init_0 : decode cX10_init 0 = .ok (.aload_n 0, 1) := by decide +kernel
theorem dX10_init_1 : decode cX10_init 1 = .ok (.invokespecial 3, 3) := by decide +kernel
theorem dX10_init_4 : decode cX10_init 4 = .ok (.aload_n 0, 1) := by decide +kernel
theorem dX10_init_5 : decode cX10_init 5 = .ok (.new 9, 3) := by decide +kernel
theorem dX10_init_8 : decode cX10_init 8 = .ok (.dup, 1) := by decide +kernel
theorem dX10_init_9 : decode cX10_init 9 = .ok (.invokespecial 11, 3) := by decide +kernel
set_option maxRecDepth 20000 in
theorem ggX10_init_X6_init : GoodIn wsX10_init wsX6_init := goodIn_r _ [9, 10, 2, 3, 11, 12, 13, 14, 15, 16, 17, 18, 19, 20, 21, 22, 23, 24, 25, 26, 27, 28, 29, 30, 31, 32, 33] (by decide +kernel) (by decide +kernel)
theorem dX10_init_12 : decode cX10_init 12 = .ok (.putfield 12, 3) := by decide +kernel
theorem dX10_init_15 : decode cX10_init 15 = .ok (.return_, 1) := by decide +kernel
theorem dX0_init_0 : decode cX0_init 0 = .ok (.aload_n 0, 1) := by decide +kernel
theorem dX0_init_1 : decode cX0_init 1 = .ok (.invokespecial 3, 3) := by decide +kernel
theorem dX0_init_4 : decode cX0_init 4 = .ok (.aload_n 0, 1) := by decide +kernel
theorem dX0_init_5 : decode cX0_init 5 = .ok (.sipush 128, 3) := by decide +kernel
theorem dX0_init_8 : decode cX0_init 8 = .ok (.newarray .int, 2) := by decide +kernel
theorem dX0_init_10 : decode cX0_init 10 = .ok (.putfield 9, 3) := by decide +kernel
theorem dX0_init_13 : decode cX0_init 13 = .ok (.aload_n 0, 1) := by decide +kernel
theorem dX0_init_14 : decode cX0_init 14 = .ok (.sipush 128, 3) := by decide +kernel
theorem dX0_init_17 : decode cX0_init 17 = .ok (.newarray .int, 2) := by decide +kernel
theorem dX0_init_19 : decode cX0_init 19 = .ok (.putfield 15, 3) := by decide +kernel
theorem dX0_init_22 : decode cX0_init 22 = .ok (.aload_n 0, 1) := by decide +kernel
theorem dX0_init_23 : decode cX0_init 23 = .ok (.bipush 16, 2) := by decide +kernel
theorem dX0_init_25 : decode cX0_init 25 = .ok (.newarray .int, 2) := by decide +kernel
theorem dX0_init_27 : decode cX0_init 27 = .ok (.putfield 18, 3) := by decide +kernel
theorem dX0_init_30 : decode cX0_init 30 = .ok (.return_, 1) := by decide +kernel
theorem dX3_init_0 : decode cX3_init 0 = .ok (.aload_n 0, 1) := by decide +kernel
theorem dX3_init_1 : decode cX3_init 1 = .ok (.invokespecial 3, 3) := by decide +kernel
theorem dX3_init_4 : decode cX3_init 4 = .ok (.aload_n 0, 1) := by decide +kernel
theorem dX3_init_5 : decode cX3_init 5 = .ok (.bipush 9, 2) := by decide +kernel
theorem dX3_init_7 : decode cX3_init 7 = .ok (.newarray .int, 2) := by decide +kernel
theorem dX3_init_9 : decode cX3_init 9 = .ok (.putfield 9, 3) := by decide +kernel
theorem dX3_init_12 : decode cX3_init 12 = .ok (.aload_n 0, 1) := by decide +kernel
theorem dX3_init_13 : decode cX3_init 13 = .ok (.bipush 9, 2) := by decide +kernel
theorem dX3_init_15 : decode cX3_init 15 = .ok (.newarray .int, 2) := by decide +kernel
theorem dX3_init_17 : decode cX3_init 17 = .ok (.putfield 15, 3) := by decide +kernel
theorem dX3_init_20 : decode cX3_init 20 = .ok (.aload_n 0, 1) := by decide +kernel
theorem dX3_init_21 : decode cX3_init 21 = .ok (.bipush 9, 2) := by decide +kernel
theorem dX3_init_23 : decode cX3_init 23 = .ok (.newarray .int, 2) := by decide +kernel
theorem dX3_init_25 : decode cX3_init 25 = .ok (.putfield 18, 3) := by decide +kernel
theorem dX3_init_28 : decode cX3_init 28 = .ok (.aload_n 0, 1) := by decide +kernel
theorem dX3_init_29 : decode cX3_init 29 = .ok (.bipush 9, 2) := by decide +kernel
theorem dX3_init_31 : decode cX3_init 31 = .ok (.newarray .int, 2) := by decide +kernel
theorem dX3_init_33 : decode cX3_init 33 = .ok (.putfield 21, 3) := by decide +kernel
theorem dX3_init_36 : decode cX3_init 36 = .ok (.aload_n 0, 1) := by decide +kernel
theorem dX3_init_37 : decode cX3_init 37 = .ok (.sipush 512, 3) := by decide +kernel
theorem dX3_init_40 : decode cX3_init 40 = .ok (.newarray .int, 2) := by decide +kernel
theorem dX3_init_42 : decode cX3_init 42 = .ok (.putfield 24, 3) := by decide +kernel
theorem dX3_init_45 : decode cX3_init 45 = .ok (.aload_n 0, 1) := by decide +kernel
theorem dX3_init_46 : decode cX3_init 46 = .ok (.bipush 81, 2) := by decide +kernel
theorem dX3_init_48 : decode cX3_init 48 = .ok (.newarray .int, 2) := by decide +kernel
theorem dX3_init_50 : decode cX3_init 50 = .ok (.putfield 27, 3) := by decide +kernel
theorem dX3_init_53 : decode cX3_init 53 = .ok (.return_, 1) := by decide +kernel
set_option maxHeartbeats 4000000 in
set_option maxRecDepth 100000 in
theorem c_X4_init (l : Launch) (D : va_G) (cy : Nat → ClassId) (h0 : Nat) (sz : Nat)  : Met l yX4_init wsX4_init ({ frames := 2, cells := 18, slots := 246, locals := 32 } : Room) (va_Pc [.ref h0] (PW D cy [(h0, .inr (4, [.null, .null, .null, .int 0, .int 0, .null, .null, .int 0, .int 0, .int 0]))] sz)) (va_Qv (fun _ : Unit => True) (fun _ t => ∃ (q_1 : Nat) (q_13 : Nat) (q_20 : Nat) (q_29 : Nat) (q_30 : Nat) (q_6 : Nat) (q_7 : Nat) (q_8 : Nat) (q_9 : Nat) (q_10 : Nat) (q_11 : Nat) (q_12 : Nat) (q_18 : Nat) (q_19 : Nat) (q_25 : Nat) (q_26 : Nat) (q_27 : Nat) (q_28 : Nat), va_P D vwCl [(h0, .inr (4, [.ref q_1, .ref q_13, .ref q_20, .int 0, .int 0, .ref q_29, .ref q_30, .int 0, .int 0, .int 0])), (q_1, .inr (6, [.int 0, .int 0, .int 0, .int 0, .int 0, .ref q_6, .int 0, .ref q_7, .ref q_8, .ref q_9, .int 0, .ref q_10, .ref q_11, .ref q_12, .int 0])), (q_6, .inl (cy 0, 12, .inl (fun _ => 0))), (q_7, .inl (cy 0, 4, .inl (fun _ => 0))), (q_8, .inl (cy 0, 4, .inl (fun _ => 0))), (q_9, .inl (cy 0, 4, .inl (fun _ => 0))), (q_10, .inl (cy 0, 6, .inl (fun _ => 0))), (q_11, .inl (cy 0, 6, .inl (fun _ => 0))), (q_12, .inl (cy 0, 6, .inl (fun _ => 0))), (q_13, .inr (1, [.int 0, .ref q_18, .ref q_19])), (q_18, .inl (cy 0, 30, .inl (fun _ => 0))), (q_19, .inl (cy 0, 90, .inl (fun _ => 0))), (q_20, .inr (2, [.int 0, .ref q_25, .ref q_26, .int 0, .ref q_27, .ref q_28])), (q_25, .inl (cy 0, 9, .inl (fun _ => 0))), (q_26, .inl (cy 0, 9, .inl (fun _ => 0))), (q_27, .inl (cy 0, 16, .inl (fun _ => 0))), (q_28, .inl (cy 0, 16, .inl (fun _ => 0))), (q_29, .inl (cy 0, 5, .inl (fun _ => 0))), (q_30, .inl (cy 0, 5, .inl (fun _ => 0)))] t.heap ∧ va_D (va_A [(h0, .inr (4, [.null, .null, .null, .int 0, .int 0, .null, .null, .int 0, .int 0, .int 0]))] sz) [(h0, .inr (4, [.ref q_1, .ref q_13, .ref q_20, .int 0, .int 0, .ref q_29, .ref q_30, .int 0, .int 0, .int 0])), (q_1, .inr (6, [.int 0, .int 0, .int 0, .int 0, .int 0, .ref q_6, .int 0, .ref q_7, .ref q_8, .ref q_9, .int 0, .ref q_10, .ref q_11, .ref q_12, .int 0])), (q_6, .inl (cy 0, 12, .inl (fun _ => 0))), (q_7, .inl (cy 0, 4, .inl (fun _ => 0))), (q_8, .inl (cy 0, 4, .inl (fun _ => 0))), (q_9, .inl (cy 0, 4, .inl (fun _ => 0))), (q_10, .inl (cy 0, 6, .inl (fun _ => 0))), (q_11, .inl (cy 0, 6, .inl (fun _ => 0))), (q_12, .inl (cy 0, 6, .inl (fun _ => 0))), (q_13, .inr (1, [.int 0, .ref q_18, .ref q_19])), (q_18, .inl (cy 0, 30, .inl (fun _ => 0))), (q_19, .inl (cy 0, 90, .inl (fun _ => 0))), (q_20, .inr (2, [.int 0, .ref q_25, .ref q_26, .int 0, .ref q_27, .ref q_28])), (q_25, .inl (cy 0, 9, .inl (fun _ => 0))), (q_26, .inl (cy 0, 9, .inl (fun _ => 0))), (q_27, .inl (cy 0, 16, .inl (fun _ => 0))), (q_28, .inl (cy 0, 16, .inl (fun _ => 0))), (q_29, .inl (cy 0, 5, .inl (fun _ => 0))), (q_30, .inl (cy 0, 5, .inl (fun _ => 0)))]) (va_A [(h0, .inr (4, [.null, .null, .null, .int 0, .int 0, .null, .null, .int 0, .int 0, .int 0]))] sz)) 18 246 (va_A [(h0, .inr (4, [.null, .null, .null, .int 0, .int 0, .null, .null, .int 0, .int 0, .int 0]))] sz) := by
  refine Met.ofW (cc := cX4_init) (maxL := 1) (ret := none) (by decide) rfl ?_
  intro p e s m args below meth c s₁ B hml hv
  obtain ⟨rfl, hsz, hP, hKW, hD0⟩ := hv
  have hK := hKW.1
  have hx := B.exec
  have hb := B.bytes
  have hr := B.returns
  have hts := atoms_spec (ws := wsX4_init) B.pre
  have hown : s.vm.findClass RX4 = some m.cls := findClass_of_methodNamed B.named
  have hlocks := B.notSynchronized
  have hin : meth.name = "<init>" := (name_of_methodNamed B.named B.method).1
  have in_1 : ∀ w ∈ u_ws RX1 TX1 3, w ∈ wsX4_init := by decide +kernel
  have in_2 : ∀ w ∈ u_ws RX2 TX2 6, w ∈ wsX4_init := by decide +kernel
  have in_4 : ∀ w ∈ u_ws RX4 TX4 10, w ∈ wsX4_init := by decide +kernel
  have in_6 : ∀ w ∈ u_ws RX6 TX6 15, w ∈ wsX4_init := by decide +kernel
  have hy_0 := hts (.methodLink RX4 3 objectInit) (by decide +kernel)
  have hy_1 := hts (.instanceMethod objectInit) (by decide +kernel)
  have hy_2 := hts (.code objectInit ⟨#[0xb1]⟩ 1 none) (by decide +kernel)
  have hy_3 := hts (.classLink RX4 9 RX6) (by decide +kernel)
  have hy_4 := hts (.instantiable RX6 15) (by decide +kernel)
  have hy_5 := hts (.initialized RX6) (by decide +kernel)
  have hy_6 := hts (.instanceMethod yX6_init) (by decide +kernel)
  have fl_12 := hts (.fieldLink RX4 12 "ShoalClaims$Reader" "sea" "LShoalClaims$Sea;") (by decide +kernel)
  have hy_8 := hts (.classLink RX4 18 RX1) (by decide +kernel)
  have hy_9 := hts (.instantiable RX1 3) (by decide +kernel)
  have hy_10 := hts (.initialized RX1) (by decide +kernel)
  have hy_11 := hts (.instanceMethod yX1_init) (by decide +kernel)
  have fl_21 := hts (.fieldLink RX4 21 "ShoalClaims$Reader" "day" "LShoalClaims$Day;") (by decide +kernel)
  have hy_13 := hts (.classLink RX4 25 RX2) (by decide +kernel)
  have hy_14 := hts (.instantiable RX2 6) (by decide +kernel)
  have hy_15 := hts (.initialized RX2) (by decide +kernel)
  have hy_16 := hts (.instanceMethod yX2_init) (by decide +kernel)
  have fl_28 := hts (.fieldLink RX4 28 "ShoalClaims$Reader" "dispute" "LShoalClaims$Dispute;") (by decide +kernel)
  have hy_18 := hts (.arrayClass .int) (by decide +kernel)
  have fl_32 := hts (.fieldLink RX4 32 "ShoalClaims$Reader" "numbers" "[I") (by decide +kernel)
  have fl_36 := hts (.fieldLink RX4 36 "ShoalClaims$Reader" "places" "[I") (by decide +kernel)
  subst hsz
  have hD := hD0.self (sz := s.heap.size)
  generalize hAe : va_A [(h0, .inr (4, [.null, .null, .null, .int 0, .int 0, .null, .null, .int 0, .int 0, .int 0]))] s.heap.size = A at hD ⊢
  have hA : ∀ q : Nat, s.heap.size ≤ q → A q := fun q h => by rw [← hAe]; exact Or.inr h
  have hS : va_S A s.heap s.heap [] := va_S.rf
  have hP : va_P D vwCl [(h0, .inr (4, [.null, .null, .null, .int 0, .int 0, .null, .null, .int 0, .int 0, .int 0]))] s.heap := hP
  have hl := lv_entry ([.ref h0]) (n := 1) (Nat.le_of_ble_eq_true rfl)
  rw [lg_entry_eq]
  generalize (lg_sl ([.ref h0]) ++ List.replicate (1 - (lg_sl ([.ref h0])).length) Slot.unset).toArray = ls at hl ⊢
  have hl : lv_has ls 1 [(0, .ref h0)] := hl
  refine lv_aload_n hx hb dX4_init_0 rfl (lv_at hl 0 rfl) ?_
  refine W.objInit hx hb hown hy_0 hy_1 hy_2 rfl (by rw [hml]; exact hl.1) rfl dX4_init_1 (Nat.le_of_ble_eq_true rfl) (Nat.le_of_ble_eq_true rfl) ?_
  refine W.eq (g2 := F0 m 4 ls []) rfl ?_
  refine lv_aload_n hx hb dX4_init_4 rfl (lv_at hl 0 rfl) ?_
  refine va_new (ci := 6) (fs := [.int 0, .int 0, .int 0, .int 0, .int 0, .null, .int 0, .null, .null, .null, .int 0, .null, .null, .null, .int 0]) (C := RX6) (T := TX6) (N := 15) hx hb hts in_6 tyX6 tyX6_ok hown hy_3 hy_4 hy_5 hK hP hD hS hA rfl (by decide +kernel) (by decide +kernel) (by decide +kernel) dX4_init_5 (fun q_1 H hP hD hS => ?_)
  have hP : va_P D vwCl [(h0, .inr (4, [.null, .null, .null, .int 0, .int 0, .null, .null, .int 0, .int 0, .int 0])), (q_1, .inr (6, [.int 0, .int 0, .int 0, .int 0, .int 0, .null, .int 0, .null, .null, .null, .int 0, .null, .null, .null, .int 0]))] H := hP
  have hD : va_D A [(h0, .inr (4, [.null, .null, .null, .int 0, .int 0, .null, .null, .int 0, .int 0, .int 0])), (q_1, .inr (6, [.int 0, .int 0, .int 0, .int 0, .int 0, .null, .int 0, .null, .null, .null, .int 0, .null, .null, .null, .int 0]))] := hD
  refine W.widen (k := 1) (n := 15) (by decide +kernel) (by decide +kernel) ?_
  refine lv_dup hx hb dX4_init_8 rfl ?_
  have hPc_2 := hP.sub (ws' := [(q_1, .inr (6, [.int 0, .int 0, .int 0, .int 0, .int 0, .null, .int 0, .null, .null, .null, .int 0, .null, .null, .null, .int 0]))]) [1] rfl
  have hDc_3 := hD.sub (ws' := [(q_1, .inr (6, [.int 0, .int 0, .int 0, .int 0, .int 0, .null, .int 0, .null, .null, .null, .int 0, .null, .null, .null, .int 0]))]) [1] (by decide) rfl
  have hFc_4 := va_free (wc := [(q_1, .inr (6, [.int 0, .int 0, .int 0, .int 0, .int 0, .null, .int 0, .null, .null, .null, .int 0, .null, .null, .null, .int 0]))]) hD hS hA [1] rfl
  refine va_callv (va_runIN (As := []) (rest := [.ref q_1, .ref h0]) ⟨hx, hb, hml, hown, hts⟩ (c_X6_init l D cy q_1 H.size) ⟨va_cnB 0 hts ggX4_init_X6_init rfl rfl rfl hKW.2.2.2.1.1 hy_5 (by decide +kernel) ⟨Nat.le_of_ble_eq_true rfl, Nat.le_of_ble_eq_true rfl⟩, rfl, hy_6⟩ ⟨pwB, fun U hU hW => ⟨rfl, PW.of hU hW hKW hPc_2 hDc_3⟩⟩ rfl rfl hl.1 rfl (lv_room (Nat.le_of_ble_eq_true rfl)) dX4_init_9 ⟨by decide +kernel, by decide +kernel⟩) hS (fun q _ h => hFc_4 q h) hFc_4 (fun u t H1 locs ht hvm hw_5 hB hz1 hk1 hS => ?_)
  obtain ⟨q_6, q_7, q_8, q_9, q_10, q_11, q_12, hP1, hD1⟩ := hB
  rw [ht] at hP1
  obtain ⟨hP, hD⟩ := va_join (wr := [(h0, .inr (4, [.null, .null, .null, .int 0, .int 0, .null, .null, .int 0, .int 0, .int 0]))]) (w1 := [(q_1, .inr (6, [.int 0, .int 0, .int 0, .int 0, .int 0, .ref q_6, .int 0, .ref q_7, .ref q_8, .ref q_9, .int 0, .ref q_10, .ref q_11, .ref q_12, .int 0])), (q_6, .inl (cy 0, 12, .inl (fun _ => 0))), (q_7, .inl (cy 0, 4, .inl (fun _ => 0))), (q_8, .inl (cy 0, 4, .inl (fun _ => 0))), (q_9, .inl (cy 0, 4, .inl (fun _ => 0))), (q_10, .inl (cy 0, 6, .inl (fun _ => 0))), (q_11, .inl (cy 0, 6, .inl (fun _ => 0))), (q_12, .inl (cy 0, 6, .inl (fun _ => 0)))]) hP hD [1] [0] rfl rfl (by decide) (by decide) hk1 hFc_4 hP1 hD1
  generalize H1 = H at hP hS ⊢
  have hP : va_P D vwCl [(h0, .inr (4, [.null, .null, .null, .int 0, .int 0, .null, .null, .int 0, .int 0, .int 0])), (q_1, .inr (6, [.int 0, .int 0, .int 0, .int 0, .int 0, .ref q_6, .int 0, .ref q_7, .ref q_8, .ref q_9, .int 0, .ref q_10, .ref q_11, .ref q_12, .int 0])), (q_6, .inl (cy 0, 12, .inl (fun _ => 0))), (q_7, .inl (cy 0, 4, .inl (fun _ => 0))), (q_8, .inl (cy 0, 4, .inl (fun _ => 0))), (q_9, .inl (cy 0, 4, .inl (fun _ => 0))), (q_10, .inl (cy 0, 6, .inl (fun _ => 0))), (q_11, .inl (cy 0, 6, .inl (fun _ => 0))), (q_12, .inl (cy 0, 6, .inl (fun _ => 0)))] H := hP
  have hD : va_D A [(h0, .inr (4, [.null, .null, .null, .int 0, .int 0, .null, .null, .int 0, .int 0, .int 0])), (q_1, .inr (6, [.int 0, .int 0, .int 0, .int 0, .int 0, .ref q_6, .int 0, .ref q_7, .ref q_8, .ref q_9, .int 0, .ref q_10, .ref q_11, .ref q_12, .int 0])), (q_6, .inl (cy 0, 12, .inl (fun _ => 0))), (q_7, .inl (cy 0, 4, .inl (fun _ => 0))), (q_8, .inl (cy 0, 4, .inl (fun _ => 0))), (q_9, .inl (cy 0, 4, .inl (fun _ => 0))), (q_10, .inl (cy 0, 6, .inl (fun _ => 0))), (q_11, .inl (cy 0, 6, .inl (fun _ => 0))), (q_12, .inl (cy 0, 6, .inl (fun _ => 0)))] := hD
  refine W.widen (k := 8) (n := 57) (by decide +kernel) (by decide +kernel) ?_
  refine va_putF (D := D) (ci := 4) (v := .ref q_1) (ty := .object "ShoalClaims$Sea") (C := RX4) (T := TX4) (N := 10) hx hb hts in_4 tyX4 tyX4_ok nmX4 hown hK hP hD hS 0 rfl rfl 0 (by decide) fl_12 (fun _ h9 => h9) rfl hin rfl (by decide +kernel) rfl rfl (Nat.le_of_ble_eq_true rfl) dX4_init_12 (fun H locs hP hD hS => ?_)
  have hP : va_P D vwCl [(h0, .inr (4, [.ref q_1, .null, .null, .int 0, .int 0, .null, .null, .int 0, .int 0, .int 0])), (q_1, .inr (6, [.int 0, .int 0, .int 0, .int 0, .int 0, .ref q_6, .int 0, .ref q_7, .ref q_8, .ref q_9, .int 0, .ref q_10, .ref q_11, .ref q_12, .int 0])), (q_6, .inl (cy 0, 12, .inl (fun _ => 0))), (q_7, .inl (cy 0, 4, .inl (fun _ => 0))), (q_8, .inl (cy 0, 4, .inl (fun _ => 0))), (q_9, .inl (cy 0, 4, .inl (fun _ => 0))), (q_10, .inl (cy 0, 6, .inl (fun _ => 0))), (q_11, .inl (cy 0, 6, .inl (fun _ => 0))), (q_12, .inl (cy 0, 6, .inl (fun _ => 0)))] H := hP
  have hD : va_D A [(h0, .inr (4, [.ref q_1, .null, .null, .int 0, .int 0, .null, .null, .int 0, .int 0, .int 0])), (q_1, .inr (6, [.int 0, .int 0, .int 0, .int 0, .int 0, .ref q_6, .int 0, .ref q_7, .ref q_8, .ref q_9, .int 0, .ref q_10, .ref q_11, .ref q_12, .int 0])), (q_6, .inl (cy 0, 12, .inl (fun _ => 0))), (q_7, .inl (cy 0, 4, .inl (fun _ => 0))), (q_8, .inl (cy 0, 4, .inl (fun _ => 0))), (q_9, .inl (cy 0, 4, .inl (fun _ => 0))), (q_10, .inl (cy 0, 6, .inl (fun _ => 0))), (q_11, .inl (cy 0, 6, .inl (fun _ => 0))), (q_12, .inl (cy 0, 6, .inl (fun _ => 0)))] := hD
  refine lv_aload_n hx hb dX4_init_15 rfl (lv_at hl 0 rfl) ?_
  refine va_new (ci := 1) (fs := [.int 0, .null, .null]) (C := RX1) (T := TX1) (N := 3) hx hb hts in_1 tyX1 tyX1_ok hown hy_8 hy_9 hy_10 hK hP hD hS hA rfl (by decide +kernel) (by decide +kernel) (by decide +kernel) dX4_init_16 (fun q_13 H hP hD hS => ?_)
  have hP : va_P D vwCl [(h0, .inr (4, [.ref q_1, .null, .null, .int 0, .int 0, .null, .null, .int 0, .int 0, .int 0])), (q_1, .inr (6, [.int 0, .int 0, .int 0, .int 0, .int 0, .ref q_6, .int 0, .ref q_7, .ref q_8, .ref q_9, .int 0, .ref q_10, .ref q_11, .ref q_12, .int 0])), (q_6, .inl (cy 0, 12, .inl (fun _ => 0))), (q_7, .inl (cy 0, 4, .inl (fun _ => 0))), (q_8, .inl (cy 0, 4, .inl (fun _ => 0))), (q_9, .inl (cy 0, 4, .inl (fun _ => 0))), (q_10, .inl (cy 0, 6, .inl (fun _ => 0))), (q_11, .inl (cy 0, 6, .inl (fun _ => 0))), (q_12, .inl (cy 0, 6, .inl (fun _ => 0))), (q_13, .inr (1, [.int 0, .null, .null]))] H := hP
  have hD : va_D A [(h0, .inr (4, [.ref q_1, .null, .null, .int 0, .int 0, .null, .null, .int 0, .int 0, .int 0])), (q_1, .inr (6, [.int 0, .int 0, .int 0, .int 0, .int 0, .ref q_6, .int 0, .ref q_7, .ref q_8, .ref q_9, .int 0, .ref q_10, .ref q_11, .ref q_12, .int 0])), (q_6, .inl (cy 0, 12, .inl (fun _ => 0))), (q_7, .inl (cy 0, 4, .inl (fun _ => 0))), (q_8, .inl (cy 0, 4, .inl (fun _ => 0))), (q_9, .inl (cy 0, 4, .inl (fun _ => 0))), (q_10, .inl (cy 0, 6, .inl (fun _ => 0))), (q_11, .inl (cy 0, 6, .inl (fun _ => 0))), (q_12, .inl (cy 0, 6, .inl (fun _ => 0))), (q_13, .inr (1, [.int 0, .null, .null]))] := hD
  refine W.widen (k := 9) (n := 60) (by decide +kernel) (by decide +kernel) ?_
  refine lv_dup hx hb dX4_init_19 rfl ?_
  have hPc_14 := hP.sub (ws' := [(q_13, .inr (1, [.int 0, .null, .null]))]) [9] rfl
  have hDc_15 := hD.sub (ws' := [(q_13, .inr (1, [.int 0, .null, .null]))]) [9] (by decide) rfl
  have hFc_16 := va_free (wc := [(q_13, .inr (1, [.int 0, .null, .null]))]) hD hS hA [9] rfl
  refine va_callv (va_runIN (As := []) (rest := [.ref q_13, .ref h0]) ⟨hx, hb, hml, hown, hts⟩ (c_X1_init l D cy q_13 H.size) ⟨va_cnB 0 hts ggX4_init_X1_init rfl rfl rfl hKW.2.2.2.1.2.1 hy_10 (by decide +kernel) ⟨Nat.le_of_ble_eq_true rfl, Nat.le_of_ble_eq_true rfl⟩, rfl, hy_11⟩ ⟨pwB, fun U hU hW => ⟨rfl, PW.of hU hW hKW hPc_14 hDc_15⟩⟩ rfl rfl hl.1 rfl (lv_room (Nat.le_of_ble_eq_true rfl)) dX4_init_20 ⟨by decide +kernel, by decide +kernel⟩) hS (fun q _ h => hFc_16 q h) hFc_16 (fun u t H1 locs ht hvm hw_17 hB hz1 hk1 hS => ?_)
  obtain ⟨q_18, q_19, hP1, hD1⟩ := hB
  rw [ht] at hP1
  obtain ⟨hP, hD⟩ := va_join (wr := [(h0, .inr (4, [.ref q_1, .null, .null, .int 0, .int 0, .null, .null, .int 0, .int 0, .int 0])), (q_1, .inr (6, [.int 0, .int 0, .int 0, .int 0, .int 0, .ref q_6, .int 0, .ref q_7, .ref q_8, .ref q_9, .int 0, .ref q_10, .ref q_11, .ref q_12, .int 0])), (q_6, .inl (cy 0, 12, .inl (fun _ => 0))), (q_7, .inl (cy 0, 4, .inl (fun _ => 0))), (q_8, .inl (cy 0, 4, .inl (fun _ => 0))), (q_9, .inl (cy 0, 4, .inl (fun _ => 0))), (q_10, .inl (cy 0, 6, .inl (fun _ => 0))), (q_11, .inl (cy 0, 6, .inl (fun _ => 0))), (q_12, .inl (cy 0, 6, .inl (fun _ => 0)))]) (w1 := [(q_13, .inr (1, [.int 0, .ref q_18, .ref q_19])), (q_18, .inl (cy 0, 30, .inl (fun _ => 0))), (q_19, .inl (cy 0, 90, .inl (fun _ => 0)))]) hP hD [9] [0, 1, 2, 3, 4, 5, 6, 7, 8] rfl rfl (by decide) (by decide) hk1 hFc_16 hP1 hD1
  generalize H1 = H at hP hS ⊢
  have hP : va_P D vwCl [(h0, .inr (4, [.ref q_1, .null, .null, .int 0, .int 0, .null, .null, .int 0, .int 0, .int 0])), (q_1, .inr (6, [.int 0, .int 0, .int 0, .int 0, .int 0, .ref q_6, .int 0, .ref q_7, .ref q_8, .ref q_9, .int 0, .ref q_10, .ref q_11, .ref q_12, .int 0])), (q_6, .inl (cy 0, 12, .inl (fun _ => 0))), (q_7, .inl (cy 0, 4, .inl (fun _ => 0))), (q_8, .inl (cy 0, 4, .inl (fun _ => 0))), (q_9, .inl (cy 0, 4, .inl (fun _ => 0))), (q_10, .inl (cy 0, 6, .inl (fun _ => 0))), (q_11, .inl (cy 0, 6, .inl (fun _ => 0))), (q_12, .inl (cy 0, 6, .inl (fun _ => 0))), (q_13, .inr (1, [.int 0, .ref q_18, .ref q_19])), (q_18, .inl (cy 0, 30, .inl (fun _ => 0))), (q_19, .inl (cy 0, 90, .inl (fun _ => 0)))] H := hP
  have hD : va_D A [(h0, .inr (4, [.ref q_1, .null, .null, .int 0, .int 0, .null, .null, .int 0, .int 0, .int 0])), (q_1, .inr (6, [.int 0, .int 0, .int 0, .int 0, .int 0, .ref q_6, .int 0, .ref q_7, .ref q_8, .ref q_9, .int 0, .ref q_10, .ref q_11, .ref q_12, .int 0])), (q_6, .inl (cy 0, 12, .inl (fun _ => 0))), (q_7, .inl (cy 0, 4, .inl (fun _ => 0))), (q_8, .inl (cy 0, 4, .inl (fun _ => 0))), (q_9, .inl (cy 0, 4, .inl (fun _ => 0))), (q_10, .inl (cy 0, 6, .inl (fun _ => 0))), (q_11, .inl (cy 0, 6, .inl (fun _ => 0))), (q_12, .inl (cy 0, 6, .inl (fun _ => 0))), (q_13, .inr (1, [.int 0, .ref q_18, .ref q_19])), (q_18, .inl (cy 0, 30, .inl (fun _ => 0))), (q_19, .inl (cy 0, 90, .inl (fun _ => 0)))] := hD
  refine W.widen (k := 11) (n := 180) (by decide +kernel) (by decide +kernel) ?_
  refine va_putF (D := D) (ci := 4) (v := .ref q_13) (ty := .object "ShoalClaims$Day") (C := RX4) (T := TX4) (N := 10) hx hb hts in_4 tyX4 tyX4_ok nmX4 hown hK hP hD hS 0 rfl rfl 1 (by decide) fl_21 (fun _ h9 => h9) rfl hin rfl (by decide +kernel) rfl rfl (Nat.le_of_ble_eq_true rfl) dX4_init_23 (fun H locs hP hD hS => ?_)
  have hP : va_P D vwCl [(h0, .inr (4, [.ref q_1, .ref q_13, .null, .int 0, .int 0, .null, .null, .int 0, .int 0, .int 0])), (q_1, .inr (6, [.int 0, .int 0, .int 0, .int 0, .int 0, .ref q_6, .int 0, .ref q_7, .ref q_8, .ref q_9, .int 0, .ref q_10, .ref q_11, .ref q_12, .int 0])), (q_6, .inl (cy 0, 12, .inl (fun _ => 0))), (q_7, .inl (cy 0, 4, .inl (fun _ => 0))), (q_8, .inl (cy 0, 4, .inl (fun _ => 0))), (q_9, .inl (cy 0, 4, .inl (fun _ => 0))), (q_10, .inl (cy 0, 6, .inl (fun _ => 0))), (q_11, .inl (cy 0, 6, .inl (fun _ => 0))), (q_12, .inl (cy 0, 6, .inl (fun _ => 0))), (q_13, .inr (1, [.int 0, .ref q_18, .ref q_19])), (q_18, .inl (cy 0, 30, .inl (fun _ => 0))), (q_19, .inl (cy 0, 90, .inl (fun _ => 0)))] H := hP
  have hD : va_D A [(h0, .inr (4, [.ref q_1, .ref q_13, .null, .int 0, .int 0, .null, .null, .int 0, .int 0, .int 0])), (q_1, .inr (6, [.int 0, .int 0, .int 0, .int 0, .int 0, .ref q_6, .int 0, .ref q_7, .ref q_8, .ref q_9, .int 0, .ref q_10, .ref q_11, .ref q_12, .int 0])), (q_6, .inl (cy 0, 12, .inl (fun _ => 0))), (q_7, .inl (cy 0, 4, .inl (fun _ => 0))), (q_8, .inl (cy 0, 4, .inl (fun _ => 0))), (q_9, .inl (cy 0, 4, .inl (fun _ => 0))), (q_10, .inl (cy 0, 6, .inl (fun _ => 0))), (q_11, .inl (cy 0, 6, .inl (fun _ => 0))), (q_12, .inl (cy 0, 6, .inl (fun _ => 0))), (q_13, .inr (1, [.int 0, .ref q_18, .ref q_19])), (q_18, .inl (cy 0, 30, .inl (fun _ => 0))), (q_19, .inl (cy 0, 90, .inl (fun _ => 0)))] := hD
  refine lv_aload_n hx hb dX4_init_26 rfl (lv_at hl 0 rfl) ?_
  refine va_new (ci := 2) (fs := [.int 0, .null, .null, .int 0, .null, .null]) (C := RX2) (T := TX2) (N := 6) hx hb hts in_2 tyX2 tyX2_ok hown hy_13 hy_14 hy_15 hK hP hD hS hA rfl (by decide +kernel) (by decide +kernel) (by decide +kernel) dX4_init_27 (fun q_20 H hP hD hS => ?_)
  have hP : va_P D vwCl [(h0, .inr (4, [.ref q_1, .ref q_13, .null, .int 0, .int 0, .null, .null, .int 0, .int 0, .int 0])), (q_1, .inr (6, [.int 0, .int 0, .int 0, .int 0, .int 0, .ref q_6, .int 0, .ref q_7, .ref q_8, .ref q_9, .int 0, .ref q_10, .ref q_11, .ref q_12, .int 0])), (q_6, .inl (cy 0, 12, .inl (fun _ => 0))), (q_7, .inl (cy 0, 4, .inl (fun _ => 0))), (q_8, .inl (cy 0, 4, .inl (fun _ => 0))), (q_9, .inl (cy 0, 4, .inl (fun _ => 0))), (q_10, .inl (cy 0, 6, .inl (fun _ => 0))), (q_11, .inl (cy 0, 6, .inl (fun _ => 0))), (q_12, .inl (cy 0, 6, .inl (fun _ => 0))), (q_13, .inr (1, [.int 0, .ref q_18, .ref q_19])), (q_18, .inl (cy 0, 30, .inl (fun _ => 0))), (q_19, .inl (cy 0, 90, .inl (fun _ => 0))), (q_20, .inr (2, [.int 0, .null, .null, .int 0, .null, .null]))] H := hP
  have hD : va_D A [(h0, .inr (4, [.ref q_1, .ref q_13, .null, .int 0, .int 0, .null, .null, .int 0, .int 0, .int 0])), (q_1, .inr (6, [.int 0, .int 0, .int 0, .int 0, .int 0, .ref q_6, .int 0, .ref q_7, .ref q_8, .ref q_9, .int 0, .ref q_10, .ref q_11, .ref q_12, .int 0])), (q_6, .inl (cy 0, 12, .inl (fun _ => 0))), (q_7, .inl (cy 0, 4, .inl (fun _ => 0))), (q_8, .inl (cy 0, 4, .inl (fun _ => 0))), (q_9, .inl (cy 0, 4, .inl (fun _ => 0))), (q_10, .inl (cy 0, 6, .inl (fun _ => 0))), (q_11, .inl (cy 0, 6, .inl (fun _ => 0))), (q_12, .inl (cy 0, 6, .inl (fun _ => 0))), (q_13, .inr (1, [.int 0, .ref q_18, .ref q_19])), (q_18, .inl (cy 0, 30, .inl (fun _ => 0))), (q_19, .inl (cy 0, 90, .inl (fun _ => 0))), (q_20, .inr (2, [.int 0, .null, .null, .int 0, .null, .null]))] := hD
  refine W.widen (k := 12) (n := 186) (by decide +kernel) (by decide +kernel) ?_
  refine lv_dup hx hb dX4_init_30 rfl ?_
  have hPc_21 := hP.sub (ws' := [(q_20, .inr (2, [.int 0, .null, .null, .int 0, .null, .null]))]) [12] rfl
  have hDc_22 := hD.sub (ws' := [(q_20, .inr (2, [.int 0, .null, .null, .int 0, .null, .null]))]) [12] (by decide) rfl
  have hFc_23 := va_free (wc := [(q_20, .inr (2, [.int 0, .null, .null, .int 0, .null, .null]))]) hD hS hA [12] rfl
  refine va_callv (va_runIN (As := []) (rest := [.ref q_20, .ref h0]) ⟨hx, hb, hml, hown, hts⟩ (c_X2_init l D cy q_20 H.size) ⟨va_cnB 0 hts ggX4_init_X2_init rfl rfl rfl hKW.2.2.2.1.2.2 hy_15 (by decide +kernel) ⟨Nat.le_of_ble_eq_true rfl, Nat.le_of_ble_eq_true rfl⟩, rfl, hy_16⟩ ⟨pwB, fun U hU hW => ⟨rfl, PW.of hU hW hKW hPc_21 hDc_22⟩⟩ rfl rfl hl.1 rfl (lv_room (Nat.le_of_ble_eq_true rfl)) dX4_init_31 ⟨by decide +kernel, by decide +kernel⟩) hS (fun q _ h => hFc_23 q h) hFc_23 (fun u t H1 locs ht hvm hw_24 hB hz1 hk1 hS => ?_)
  obtain ⟨q_25, q_26, q_27, q_28, hP1, hD1⟩ := hB
  rw [ht] at hP1
  obtain ⟨hP, hD⟩ := va_join (wr := [(h0, .inr (4, [.ref q_1, .ref q_13, .null, .int 0, .int 0, .null, .null, .int 0, .int 0, .int 0])), (q_1, .inr (6, [.int 0, .int 0, .int 0, .int 0, .int 0, .ref q_6, .int 0, .ref q_7, .ref q_8, .ref q_9, .int 0, .ref q_10, .ref q_11, .ref q_12, .int 0])), (q_6, .inl (cy 0, 12, .inl (fun _ => 0))), (q_7, .inl (cy 0, 4, .inl (fun _ => 0))), (q_8, .inl (cy 0, 4, .inl (fun _ => 0))), (q_9, .inl (cy 0, 4, .inl (fun _ => 0))), (q_10, .inl (cy 0, 6, .inl (fun _ => 0))), (q_11, .inl (cy 0, 6, .inl (fun _ => 0))), (q_12, .inl (cy 0, 6, .inl (fun _ => 0))), (q_13, .inr (1, [.int 0, .ref q_18, .ref q_19])), (q_18, .inl (cy 0, 30, .inl (fun _ => 0))), (q_19, .inl (cy 0, 90, .inl (fun _ => 0)))]) (w1 := [(q_20, .inr (2, [.int 0, .ref q_25, .ref q_26, .int 0, .ref q_27, .ref q_28])), (q_25, .inl (cy 0, 9, .inl (fun _ => 0))), (q_26, .inl (cy 0, 9, .inl (fun _ => 0))), (q_27, .inl (cy 0, 16, .inl (fun _ => 0))), (q_28, .inl (cy 0, 16, .inl (fun _ => 0)))]) hP hD [12] [0, 1, 2, 3, 4, 5, 6, 7, 8, 9, 10, 11] rfl rfl (by decide) (by decide) hk1 hFc_23 hP1 hD1
  generalize H1 = H at hP hS ⊢
  have hP : va_P D vwCl [(h0, .inr (4, [.ref q_1, .ref q_13, .null, .int 0, .int 0, .null, .null, .int 0, .int 0, .int 0])), (q_1, .inr (6, [.int 0, .int 0, .int 0, .int 0, .int 0, .ref q_6, .int 0, .ref q_7, .ref q_8, .ref q_9, .int 0, .ref q_10, .ref q_11, .ref q_12, .int 0])), (q_6, .inl (cy 0, 12, .inl (fun _ => 0))), (q_7, .inl (cy 0, 4, .inl (fun _ => 0))), (q_8, .inl (cy 0, 4, .inl (fun _ => 0))), (q_9, .inl (cy 0, 4, .inl (fun _ => 0))), (q_10, .inl (cy 0, 6, .inl (fun _ => 0))), (q_11, .inl (cy 0, 6, .inl (fun _ => 0))), (q_12, .inl (cy 0, 6, .inl (fun _ => 0))), (q_13, .inr (1, [.int 0, .ref q_18, .ref q_19])), (q_18, .inl (cy 0, 30, .inl (fun _ => 0))), (q_19, .inl (cy 0, 90, .inl (fun _ => 0))), (q_20, .inr (2, [.int 0, .ref q_25, .ref q_26, .int 0, .ref q_27, .ref q_28])), (q_25, .inl (cy 0, 9, .inl (fun _ => 0))), (q_26, .inl (cy 0, 9, .inl (fun _ => 0))), (q_27, .inl (cy 0, 16, .inl (fun _ => 0))), (q_28, .inl (cy 0, 16, .inl (fun _ => 0)))] H := hP
  have hD : va_D A [(h0, .inr (4, [.ref q_1, .ref q_13, .null, .int 0, .int 0, .null, .null, .int 0, .int 0, .int 0])), (q_1, .inr (6, [.int 0, .int 0, .int 0, .int 0, .int 0, .ref q_6, .int 0, .ref q_7, .ref q_8, .ref q_9, .int 0, .ref q_10, .ref q_11, .ref q_12, .int 0])), (q_6, .inl (cy 0, 12, .inl (fun _ => 0))), (q_7, .inl (cy 0, 4, .inl (fun _ => 0))), (q_8, .inl (cy 0, 4, .inl (fun _ => 0))), (q_9, .inl (cy 0, 4, .inl (fun _ => 0))), (q_10, .inl (cy 0, 6, .inl (fun _ => 0))), (q_11, .inl (cy 0, 6, .inl (fun _ => 0))), (q_12, .inl (cy 0, 6, .inl (fun _ => 0))), (q_13, .inr (1, [.int 0, .ref q_18, .ref q_19])), (q_18, .inl (cy 0, 30, .inl (fun _ => 0))), (q_19, .inl (cy 0, 90, .inl (fun _ => 0))), (q_20, .inr (2, [.int 0, .ref q_25, .ref q_26, .int 0, .ref q_27, .ref q_28])), (q_25, .inl (cy 0, 9, .inl (fun _ => 0))), (q_26, .inl (cy 0, 9, .inl (fun _ => 0))), (q_27, .inl (cy 0, 16, .inl (fun _ => 0))), (q_28, .inl (cy 0, 16, .inl (fun _ => 0)))] := hD
  refine W.widen (k := 16) (n := 236) (by decide +kernel) (by decide +kernel) ?_
  refine va_putF (D := D) (ci := 4) (v := .ref q_20) (ty := .object "ShoalClaims$Dispute") (C := RX4) (T := TX4) (N := 10) hx hb hts in_4 tyX4 tyX4_ok nmX4 hown hK hP hD hS 0 rfl rfl 2 (by decide) fl_28 (fun _ h9 => h9) rfl hin rfl (by decide +kernel) rfl rfl (Nat.le_of_ble_eq_true rfl) dX4_init_34 (fun H locs hP hD hS => ?_)
  have hP : va_P D vwCl [(h0, .inr (4, [.ref q_1, .ref q_13, .ref q_20, .int 0, .int 0, .null, .null, .int 0, .int 0, .int 0])), (q_1, .inr (6, [.int 0, .int 0, .int 0, .int 0, .int 0, .ref q_6, .int 0, .ref q_7, .ref q_8, .ref q_9, .int 0, .ref q_10, .ref q_11, .ref q_12, .int 0])), (q_6, .inl (cy 0, 12, .inl (fun _ => 0))), (q_7, .inl (cy 0, 4, .inl (fun _ => 0))), (q_8, .inl (cy 0, 4, .inl (fun _ => 0))), (q_9, .inl (cy 0, 4, .inl (fun _ => 0))), (q_10, .inl (cy 0, 6, .inl (fun _ => 0))), (q_11, .inl (cy 0, 6, .inl (fun _ => 0))), (q_12, .inl (cy 0, 6, .inl (fun _ => 0))), (q_13, .inr (1, [.int 0, .ref q_18, .ref q_19])), (q_18, .inl (cy 0, 30, .inl (fun _ => 0))), (q_19, .inl (cy 0, 90, .inl (fun _ => 0))), (q_20, .inr (2, [.int 0, .ref q_25, .ref q_26, .int 0, .ref q_27, .ref q_28])), (q_25, .inl (cy 0, 9, .inl (fun _ => 0))), (q_26, .inl (cy 0, 9, .inl (fun _ => 0))), (q_27, .inl (cy 0, 16, .inl (fun _ => 0))), (q_28, .inl (cy 0, 16, .inl (fun _ => 0)))] H := hP
  have hD : va_D A [(h0, .inr (4, [.ref q_1, .ref q_13, .ref q_20, .int 0, .int 0, .null, .null, .int 0, .int 0, .int 0])), (q_1, .inr (6, [.int 0, .int 0, .int 0, .int 0, .int 0, .ref q_6, .int 0, .ref q_7, .ref q_8, .ref q_9, .int 0, .ref q_10, .ref q_11, .ref q_12, .int 0])), (q_6, .inl (cy 0, 12, .inl (fun _ => 0))), (q_7, .inl (cy 0, 4, .inl (fun _ => 0))), (q_8, .inl (cy 0, 4, .inl (fun _ => 0))), (q_9, .inl (cy 0, 4, .inl (fun _ => 0))), (q_10, .inl (cy 0, 6, .inl (fun _ => 0))), (q_11, .inl (cy 0, 6, .inl (fun _ => 0))), (q_12, .inl (cy 0, 6, .inl (fun _ => 0))), (q_13, .inr (1, [.int 0, .ref q_18, .ref q_19])), (q_18, .inl (cy 0, 30, .inl (fun _ => 0))), (q_19, .inl (cy 0, 90, .inl (fun _ => 0))), (q_20, .inr (2, [.int 0, .ref q_25, .ref q_26, .int 0, .ref q_27, .ref q_28])), (q_25, .inl (cy 0, 9, .inl (fun _ => 0))), (q_26, .inl (cy 0, 9, .inl (fun _ => 0))), (q_27, .inl (cy 0, 16, .inl (fun _ => 0))), (q_28, .inl (cy 0, 16, .inl (fun _ => 0)))] := hD
  refine lv_aload_n hx hb dX4_init_37 rfl (lv_at hl 0 rfl) ?_
  refine lv_iconst (v := 5) hx hb dX4_init_38 (by decide +kernel) ?_
  refine nw_a (atype := .int) (ty := .int) (cI := cy 0) (n := 5) hx hb hy_18 rfl hK hP hD hS hA 0 rfl rfl 5 (by decide +kernel) (by decide +kernel) (by decide +kernel) (by decide +kernel) (by decide +kernel) dX4_init_39 (fun q_29 H hP hD hS => ?_)
  have hP : va_P D vwCl [(h0, .inr (4, [.ref q_1, .ref q_13, .ref q_20, .int 0, .int 0, .null, .null, .int 0, .int 0, .int 0])), (q_1, .inr (6, [.int 0, .int 0, .int 0, .int 0, .int 0, .ref q_6, .int 0, .ref q_7, .ref q_8, .ref q_9, .int 0, .ref q_10, .ref q_11, .ref q_12, .int 0])), (q_6, .inl (cy 0, 12, .inl (fun _ => 0))), (q_7, .inl (cy 0, 4, .inl (fun _ => 0))), (q_8, .inl (cy 0, 4, .inl (fun _ => 0))), (q_9, .inl (cy 0, 4, .inl (fun _ => 0))), (q_10, .inl (cy 0, 6, .inl (fun _ => 0))), (q_11, .inl (cy 0, 6, .inl (fun _ => 0))), (q_12, .inl (cy 0, 6, .inl (fun _ => 0))), (q_13, .inr (1, [.int 0, .ref q_18, .ref q_19])), (q_18, .inl (cy 0, 30, .inl (fun _ => 0))), (q_19, .inl (cy 0, 90, .inl (fun _ => 0))), (q_20, .inr (2, [.int 0, .ref q_25, .ref q_26, .int 0, .ref q_27, .ref q_28])), (q_25, .inl (cy 0, 9, .inl (fun _ => 0))), (q_26, .inl (cy 0, 9, .inl (fun _ => 0))), (q_27, .inl (cy 0, 16, .inl (fun _ => 0))), (q_28, .inl (cy 0, 16, .inl (fun _ => 0))), (q_29, .inl (cy 0, 5, .inl (fun _ => 0)))] H := hP
  have hD : va_D A [(h0, .inr (4, [.ref q_1, .ref q_13, .ref q_20, .int 0, .int 0, .null, .null, .int 0, .int 0, .int 0])), (q_1, .inr (6, [.int 0, .int 0, .int 0, .int 0, .int 0, .ref q_6, .int 0, .ref q_7, .ref q_8, .ref q_9, .int 0, .ref q_10, .ref q_11, .ref q_12, .int 0])), (q_6, .inl (cy 0, 12, .inl (fun _ => 0))), (q_7, .inl (cy 0, 4, .inl (fun _ => 0))), (q_8, .inl (cy 0, 4, .inl (fun _ => 0))), (q_9, .inl (cy 0, 4, .inl (fun _ => 0))), (q_10, .inl (cy 0, 6, .inl (fun _ => 0))), (q_11, .inl (cy 0, 6, .inl (fun _ => 0))), (q_12, .inl (cy 0, 6, .inl (fun _ => 0))), (q_13, .inr (1, [.int 0, .ref q_18, .ref q_19])), (q_18, .inl (cy 0, 30, .inl (fun _ => 0))), (q_19, .inl (cy 0, 90, .inl (fun _ => 0))), (q_20, .inr (2, [.int 0, .ref q_25, .ref q_26, .int 0, .ref q_27, .ref q_28])), (q_25, .inl (cy 0, 9, .inl (fun _ => 0))), (q_26, .inl (cy 0, 9, .inl (fun _ => 0))), (q_27, .inl (cy 0, 16, .inl (fun _ => 0))), (q_28, .inl (cy 0, 16, .inl (fun _ => 0))), (q_29, .inl (cy 0, 5, .inl (fun _ => 0)))] := hD
  refine W.widen (k := 17) (n := 241) (by decide +kernel) (by decide +kernel) ?_
  refine va_putF (D := D) (ci := 4) (v := .ref q_29) (ty := .array .int) (C := RX4) (T := TX4) (N := 10) hx hb hts in_4 tyX4 tyX4_ok nmX4 hown hK hP hD hS 0 rfl rfl 5 (by decide) fl_32 (fun _ h9 => h9) rfl hin rfl (by decide +kernel) rfl rfl (Nat.le_of_ble_eq_true rfl) dX4_init_41 (fun H locs hP hD hS => ?_)
  have hP : va_P D vwCl [(h0, .inr (4, [.ref q_1, .ref q_13, .ref q_20, .int 0, .int 0, .ref q_29, .null, .int 0, .int 0, .int 0])), (q_1, .inr (6, [.int 0, .int 0, .int 0, .int 0, .int 0, .ref q_6, .int 0, .ref q_7, .ref q_8, .ref q_9, .int 0, .ref q_10, .ref q_11, .ref q_12, .int 0])), (q_6, .inl (cy 0, 12, .inl (fun _ => 0))), (q_7, .inl (cy 0, 4, .inl (fun _ => 0))), (q_8, .inl (cy 0, 4, .inl (fun _ => 0))), (q_9, .inl (cy 0, 4, .inl (fun _ => 0))), (q_10, .inl (cy 0, 6, .inl (fun _ => 0))), (q_11, .inl (cy 0, 6, .inl (fun _ => 0))), (q_12, .inl (cy 0, 6, .inl (fun _ => 0))), (q_13, .inr (1, [.int 0, .ref q_18, .ref q_19])), (q_18, .inl (cy 0, 30, .inl (fun _ => 0))), (q_19, .inl (cy 0, 90, .inl (fun _ => 0))), (q_20, .inr (2, [.int 0, .ref q_25, .ref q_26, .int 0, .ref q_27, .ref q_28])), (q_25, .inl (cy 0, 9, .inl (fun _ => 0))), (q_26, .inl (cy 0, 9, .inl (fun _ => 0))), (q_27, .inl (cy 0, 16, .inl (fun _ => 0))), (q_28, .inl (cy 0, 16, .inl (fun _ => 0))), (q_29, .inl (cy 0, 5, .inl (fun _ => 0)))] H := hP
  have hD : va_D A [(h0, .inr (4, [.ref q_1, .ref q_13, .ref q_20, .int 0, .int 0, .ref q_29, .null, .int 0, .int 0, .int 0])), (q_1, .inr (6, [.int 0, .int 0, .int 0, .int 0, .int 0, .ref q_6, .int 0, .ref q_7, .ref q_8, .ref q_9, .int 0, .ref q_10, .ref q_11, .ref q_12, .int 0])), (q_6, .inl (cy 0, 12, .inl (fun _ => 0))), (q_7, .inl (cy 0, 4, .inl (fun _ => 0))), (q_8, .inl (cy 0, 4, .inl (fun _ => 0))), (q_9, .inl (cy 0, 4, .inl (fun _ => 0))), (q_10, .inl (cy 0, 6, .inl (fun _ => 0))), (q_11, .inl (cy 0, 6, .inl (fun _ => 0))), (q_12, .inl (cy 0, 6, .inl (fun _ => 0))), (q_13, .inr (1, [.int 0, .ref q_18, .ref q_19])), (q_18, .inl (cy 0, 30, .inl (fun _ => 0))), (q_19, .inl (cy 0, 90, .inl (fun _ => 0))), (q_20, .inr (2, [.int 0, .ref q_25, .ref q_26, .int 0, .ref q_27, .ref q_28])), (q_25, .inl (cy 0, 9, .inl (fun _ => 0))), (q_26, .inl (cy 0, 9, .inl (fun _ => 0))), (q_27, .inl (cy 0, 16, .inl (fun _ => 0))), (q_28, .inl (cy 0, 16, .inl (fun _ => 0))), (q_29, .inl (cy 0, 5, .inl (fun _ => 0)))] := hD
  refine lv_aload_n hx hb dX4_init_44 rfl (lv_at hl 0 rfl) ?_
  refine lv_iconst (v := 5) hx hb dX4_init_45 (by decide +kernel) ?_
  refine nw_a (atype := .int) (ty := .int) (cI := cy 0) (n := 5) hx hb hy_18 rfl hK hP hD hS hA 0 rfl rfl 5 (by decide +kernel) (by decide +kernel) (by decide +kernel) (by decide +kernel) (by decide +kernel) dX4_init_46 (fun q_30 H hP hD hS => ?_)
  have hP : va_P D vwCl [(h0, .inr (4, [.ref q_1, .ref q_13, .ref q_20, .int 0, .int 0, .ref q_29, .null, .int 0, .int 0, .int 0])), (q_1, .inr (6, [.int 0, .int 0, .int 0, .int 0, .int 0, .ref q_6, .int 0, .ref q_7, .ref q_8, .ref q_9, .int 0, .ref q_10, .ref q_11, .ref q_12, .int 0])), (q_6, .inl (cy 0, 12, .inl (fun _ => 0))), (q_7, .inl (cy 0, 4, .inl (fun _ => 0))), (q_8, .inl (cy 0, 4, .inl (fun _ => 0))), (q_9, .inl (cy 0, 4, .inl (fun _ => 0))), (q_10, .inl (cy 0, 6, .inl (fun _ => 0))), (q_11, .inl (cy 0, 6, .inl (fun _ => 0))), (q_12, .inl (cy 0, 6, .inl (fun _ => 0))), (q_13, .inr (1, [.int 0, .ref q_18, .ref q_19])), (q_18, .inl (cy 0, 30, .inl (fun _ => 0))), (q_19, .inl (cy 0, 90, .inl (fun _ => 0))), (q_20, .inr (2, [.int 0, .ref q_25, .ref q_26, .int 0, .ref q_27, .ref q_28])), (q_25, .inl (cy 0, 9, .inl (fun _ => 0))), (q_26, .inl (cy 0, 9, .inl (fun _ => 0))), (q_27, .inl (cy 0, 16, .inl (fun _ => 0))), (q_28, .inl (cy 0, 16, .inl (fun _ => 0))), (q_29, .inl (cy 0, 5, .inl (fun _ => 0))), (q_30, .inl (cy 0, 5, .inl (fun _ => 0)))] H := hP
  have hD : va_D A [(h0, .inr (4, [.ref q_1, .ref q_13, .ref q_20, .int 0, .int 0, .ref q_29, .null, .int 0, .int 0, .int 0])), (q_1, .inr (6, [.int 0, .int 0, .int 0, .int 0, .int 0, .ref q_6, .int 0, .ref q_7, .ref q_8, .ref q_9, .int 0, .ref q_10, .ref q_11, .ref q_12, .int 0])), (q_6, .inl (cy 0, 12, .inl (fun _ => 0))), (q_7, .inl (cy 0, 4, .inl (fun _ => 0))), (q_8, .inl (cy 0, 4, .inl (fun _ => 0))), (q_9, .inl (cy 0, 4, .inl (fun _ => 0))), (q_10, .inl (cy 0, 6, .inl (fun _ => 0))), (q_11, .inl (cy 0, 6, .inl (fun _ => 0))), (q_12, .inl (cy 0, 6, .inl (fun _ => 0))), (q_13, .inr (1, [.int 0, .ref q_18, .ref q_19])), (q_18, .inl (cy 0, 30, .inl (fun _ => 0))), (q_19, .inl (cy 0, 90, .inl (fun _ => 0))), (q_20, .inr (2, [.int 0, .ref q_25, .ref q_26, .int 0, .ref q_27, .ref q_28])), (q_25, .inl (cy 0, 9, .inl (fun _ => 0))), (q_26, .inl (cy 0, 9, .inl (fun _ => 0))), (q_27, .inl (cy 0, 16, .inl (fun _ => 0))), (q_28, .inl (cy 0, 16, .inl (fun _ => 0))), (q_29, .inl (cy 0, 5, .inl (fun _ => 0))), (q_30, .inl (cy 0, 5, .inl (fun _ => 0)))] := hD
  refine W.widen (k := 18) (n := 246) (by decide +kernel) (by decide +kernel) ?_
  refine va_putF (D := D) (ci := 4) (v := .ref q_30) (ty := .array .int) (C := RX4) (T := TX4) (N := 10) hx hb hts in_4 tyX4 tyX4_ok nmX4 hown hK hP hD hS 0 rfl rfl 6 (by decide) fl_36 (fun _ h9 => h9) rfl hin rfl (by decide +kernel) rfl rfl (Nat.le_of_ble_eq_true rfl) dX4_init_48 (fun H locs hP hD hS => ?_)
  have hP : va_P D vwCl [(h0, .inr (4, [.ref q_1, .ref q_13, .ref q_20, .int 0, .int 0, .ref q_29, .ref q_30, .int 0, .int 0, .int 0])), (q_1, .inr (6, [.int 0, .int 0, .int 0, .int 0, .int 0, .ref q_6, .int 0, .ref q_7, .ref q_8, .ref q_9, .int 0, .ref q_10, .ref q_11, .ref q_12, .int 0])), (q_6, .inl (cy 0, 12, .inl (fun _ => 0))), (q_7, .inl (cy 0, 4, .inl (fun _ => 0))), (q_8, .inl (cy 0, 4, .inl (fun _ => 0))), (q_9, .inl (cy 0, 4, .inl (fun _ => 0))), (q_10, .inl (cy 0, 6, .inl (fun _ => 0))), (q_11, .inl (cy 0, 6, .inl (fun _ => 0))), (q_12, .inl (cy 0, 6, .inl (fun _ => 0))), (q_13, .inr (1, [.int 0, .ref q_18, .ref q_19])), (q_18, .inl (cy 0, 30, .inl (fun _ => 0))), (q_19, .inl (cy 0, 90, .inl (fun _ => 0))), (q_20, .inr (2, [.int 0, .ref q_25, .ref q_26, .int 0, .ref q_27, .ref q_28])), (q_25, .inl (cy 0, 9, .inl (fun _ => 0))), (q_26, .inl (cy 0, 9, .inl (fun _ => 0))), (q_27, .inl (cy 0, 16, .inl (fun _ => 0))), (q_28, .inl (cy 0, 16, .inl (fun _ => 0))), (q_29, .inl (cy 0, 5, .inl (fun _ => 0))), (q_30, .inl (cy 0, 5, .inl (fun _ => 0)))] H := hP
  have hD : va_D A [(h0, .inr (4, [.ref q_1, .ref q_13, .ref q_20, .int 0, .int 0, .ref q_29, .ref q_30, .int 0, .int 0, .int 0])), (q_1, .inr (6, [.int 0, .int 0, .int 0, .int 0, .int 0, .ref q_6, .int 0, .ref q_7, .ref q_8, .ref q_9, .int 0, .ref q_10, .ref q_11, .ref q_12, .int 0])), (q_6, .inl (cy 0, 12, .inl (fun _ => 0))), (q_7, .inl (cy 0, 4, .inl (fun _ => 0))), (q_8, .inl (cy 0, 4, .inl (fun _ => 0))), (q_9, .inl (cy 0, 4, .inl (fun _ => 0))), (q_10, .inl (cy 0, 6, .inl (fun _ => 0))), (q_11, .inl (cy 0, 6, .inl (fun _ => 0))), (q_12, .inl (cy 0, 6, .inl (fun _ => 0))), (q_13, .inr (1, [.int 0, .ref q_18, .ref q_19])), (q_18, .inl (cy 0, 30, .inl (fun _ => 0))), (q_19, .inl (cy 0, 90, .inl (fun _ => 0))), (q_20, .inr (2, [.int 0, .ref q_25, .ref q_26, .int 0, .ref q_27, .ref q_28])), (q_25, .inl (cy 0, 9, .inl (fun _ => 0))), (q_26, .inl (cy 0, 9, .inl (fun _ => 0))), (q_27, .inl (cy 0, 16, .inl (fun _ => 0))), (q_28, .inl (cy 0, 16, .inl (fun _ => 0))), (q_29, .inl (cy 0, 5, .inl (fun _ => 0))), (q_30, .inl (cy 0, 5, .inl (fun _ => 0)))] := hD
  have hP9 := hP.sub (ws' := [(h0, .inr (4, [.ref q_1, .ref q_13, .ref q_20, .int 0, .int 0, .ref q_29, .ref q_30, .int 0, .int 0, .int 0])), (q_1, .inr (6, [.int 0, .int 0, .int 0, .int 0, .int 0, .ref q_6, .int 0, .ref q_7, .ref q_8, .ref q_9, .int 0, .ref q_10, .ref q_11, .ref q_12, .int 0])), (q_6, .inl (cy 0, 12, .inl (fun _ => 0))), (q_7, .inl (cy 0, 4, .inl (fun _ => 0))), (q_8, .inl (cy 0, 4, .inl (fun _ => 0))), (q_9, .inl (cy 0, 4, .inl (fun _ => 0))), (q_10, .inl (cy 0, 6, .inl (fun _ => 0))), (q_11, .inl (cy 0, 6, .inl (fun _ => 0))), (q_12, .inl (cy 0, 6, .inl (fun _ => 0))), (q_13, .inr (1, [.int 0, .ref q_18, .ref q_19])), (q_18, .inl (cy 0, 30, .inl (fun _ => 0))), (q_19, .inl (cy 0, 90, .inl (fun _ => 0))), (q_20, .inr (2, [.int 0, .ref q_25, .ref q_26, .int 0, .ref q_27, .ref q_28])), (q_25, .inl (cy 0, 9, .inl (fun _ => 0))), (q_26, .inl (cy 0, 9, .inl (fun _ => 0))), (q_27, .inl (cy 0, 16, .inl (fun _ => 0))), (q_28, .inl (cy 0, 16, .inl (fun _ => 0))), (q_29, .inl (cy 0, 5, .inl (fun _ => 0))), (q_30, .inl (cy 0, 5, .inl (fun _ => 0)))]) [0, 1, 2, 3, 4, 5, 6, 7, 8, 9, 10, 11, 12, 13, 14, 15, 16, 17, 18] rfl
  have hD9 := hD.sub (ws' := [(h0, .inr (4, [.ref q_1, .ref q_13, .ref q_20, .int 0, .int 0, .ref q_29, .ref q_30, .int 0, .int 0, .int 0])), (q_1, .inr (6, [.int 0, .int 0, .int 0, .int 0, .int 0, .ref q_6, .int 0, .ref q_7, .ref q_8, .ref q_9, .int 0, .ref q_10, .ref q_11, .ref q_12, .int 0])), (q_6, .inl (cy 0, 12, .inl (fun _ => 0))), (q_7, .inl (cy 0, 4, .inl (fun _ => 0))), (q_8, .inl (cy 0, 4, .inl (fun _ => 0))), (q_9, .inl (cy 0, 4, .inl (fun _ => 0))), (q_10, .inl (cy 0, 6, .inl (fun _ => 0))), (q_11, .inl (cy 0, 6, .inl (fun _ => 0))), (q_12, .inl (cy 0, 6, .inl (fun _ => 0))), (q_13, .inr (1, [.int 0, .ref q_18, .ref q_19])), (q_18, .inl (cy 0, 30, .inl (fun _ => 0))), (q_19, .inl (cy 0, 90, .inl (fun _ => 0))), (q_20, .inr (2, [.int 0, .ref q_25, .ref q_26, .int 0, .ref q_27, .ref q_28])), (q_25, .inl (cy 0, 9, .inl (fun _ => 0))), (q_26, .inl (cy 0, 9, .inl (fun _ => 0))), (q_27, .inl (cy 0, 16, .inl (fun _ => 0))), (q_28, .inl (cy 0, 16, .inl (fun _ => 0))), (q_29, .inl (cy 0, 5, .inl (fun _ => 0))), (q_30, .inl (cy 0, 5, .inl (fun _ => 0)))]) [0, 1, 2, 3, 4, 5, 6, 7, 8, 9, 10, 11, 12, 13, 14, 15, 16, 17, 18] (by decide) rfl
  exact W.vret hx hb hr (fun t ht hW => ⟨⟨(), rfl, trivial, q_1, q_13, q_20, q_29, q_30, q_6, q_7, q_8, q_9, q_10, q_11, q_12, q_18, q_19, q_25, q_26, q_27, q_28, by rw [ht]; exact hP9, hD9⟩, hS.F ht⟩) hS.2.2 dX4_init_51
set_option maxHeartbeats 4000000 in
set_option maxRecDepth 100000 in
theorem c_X7_init (l : Launch) (D : va_G) (cy : Nat → ClassId) (h0 : Nat) (sz : Nat)  : Met l yX7_init wsX7_init ({ frames := 1, cells := 6, slots := 36, locals := 12 } : Room) (va_Pc [.ref h0] (PW D cy [(h0, .inr (7, [.null, .null, .null, .null, .null, .null, .int 0, .int 0]))] sz)) (va_Qv (fun _ : Unit => True) (fun _ t => ∃ (q_1 : Nat) (q_2 : Nat) (q_3 : Nat) (q_4 : Nat) (q_5 : Nat) (q_6 : Nat), va_P D vwCl [(h0, .inr (7, [.ref q_1, .ref q_2, .ref q_3, .ref q_4, .ref q_5, .ref q_6, .int 0, .int 0])), (q_1, .inl (cy 0, 6, .inl (fun _ => 0))), (q_2, .inl (cy 0, 6, .inl (fun _ => 0))), (q_3, .inl (cy 0, 6, .inl (fun _ => 0))), (q_4, .inl (cy 0, 6, .inl (fun _ => 0))), (q_5, .inl (cy 0, 6, .inl (fun _ => 0))), (q_6, .inl (cy 0, 6, .inl (fun _ => 0)))] t.heap ∧ va_D (va_A [(h0, .inr (7, [.null, .null, .null, .null, .null, .null, .int 0, .int 0]))] sz) [(h0, .inr (7, [.ref q_1, .ref q_2, .ref q_3, .ref q_4, .ref q_5, .ref q_6, .int 0, .int 0])), (q_1, .inl (cy 0, 6, .inl (fun _ => 0))), (q_2, .inl (cy 0, 6, .inl (fun _ => 0))), (q_3, .inl (cy 0, 6, .inl (fun _ => 0))), (q_4, .inl (cy 0, 6, .inl (fun _ => 0))), (q_5, .inl (cy 0, 6, .inl (fun _ => 0))), (q_6, .inl (cy 0, 6, .inl (fun _ => 0)))]) (va_A [(h0, .inr (7, [.null, .null, .null, .null, .null, .null, .int 0, .int 0]))] sz)) 6 36 (va_A [(h0, .inr (7, [.null, .null, .null, .null, .null, .null, .int 0, .int 0]))] sz) := by
  refine Met.ofW (cc := cX7_init) (maxL := 1) (ret := none) (by decide) rfl ?_
  intro p e s m args below meth c s₁ B hml hv
  obtain ⟨rfl, hsz, hP, hKW, hD0⟩ := hv
  have hK := hKW.1
  have hx := B.exec
  have hb := B.bytes
  have hr := B.returns
  have hts := atoms_spec (ws := wsX7_init) B.pre
  have hown : s.vm.findClass RX7 = some m.cls := findClass_of_methodNamed B.named
  have hlocks := B.notSynchronized
  have hin : meth.name = "<init>" := (name_of_methodNamed B.named B.method).1
  have in_7 : ∀ w ∈ u_ws RX7 TX7 8, w ∈ wsX7_init := by decide +kernel
  have hy_0 := hts (.methodLink RX7 3 objectInit) (by decide +kernel)
  have hy_1 := hts (.instanceMethod objectInit) (by decide +kernel)
  have hy_2 := hts (.code objectInit ⟨#[0xb1]⟩ 1 none) (by decide +kernel)
  have hy_3 := hts (.arrayClass .int) (by decide +kernel)
  have fl_9 := hts (.fieldLink RX7 9 "ShoalClaims$Shoals" "cell" "[I") (by decide +kernel)
  have fl_15 := hts (.fieldLink RX7 15 "ShoalClaims$Shoals" "fish" "[I") (by decide +kernel)
  have fl_18 := hts (.fieldLink RX7 18 "ShoalClaims$Shoals" "drift" "[I") (by decide +kernel)
  have fl_21 := hts (.fieldLink RX7 21 "ShoalClaims$Shoals" "syllables" "[I") (by decide +kernel)
  have fl_24 := hts (.fieldLink RX7 24 "ShoalClaims$Shoals" "lastHour" "[I") (by decide +kernel)
  have fl_27 := hts (.fieldLink RX7 27 "ShoalClaims$Shoals" "holder" "[I") (by decide +kernel)
  subst hsz
  have hD := hD0.self (sz := s.heap.size)
  generalize hAe : va_A [(h0, .inr (7, [.null, .null, .null, .null, .null, .null, .int 0, .int 0]))] s.heap.size = A at hD ⊢
  have hA : ∀ q : Nat, s.heap.size ≤ q → A q := fun q h => by rw [← hAe]; exact Or.inr h
  have hS : va_S A s.heap s.heap [] := va_S.rf
  have hP : va_P D vwCl [(h0, .inr (7, [.null, .null, .null, .null, .null, .null, .int 0, .int 0]))] s.heap := hP
  have hl := lv_entry ([.ref h0]) (n := 1) (Nat.le_of_ble_eq_true rfl)
  rw [lg_entry_eq]
  generalize (lg_sl ([.ref h0]) ++ List.replicate (1 - (lg_sl ([.ref h0])).length) Slot.unset).toArray = ls at hl ⊢
  have hl : lv_has ls 1 [(0, .ref h0)] := hl
  refine lv_aload_n hx hb dX7_init_0 rfl (lv_at hl 0 rfl) ?_
  refine W.objInit hx hb hown hy_0 hy_1 hy_2 rfl (by rw [hml]; exact hl.1) rfl dX7_init_1 (Nat.le_of_ble_eq_true rfl) (Nat.le_of_ble_eq_true rfl) ?_
  refine W.eq (g2 := F0 m 4 ls []) rfl ?_
  refine lv_aload_n hx hb dX7_init_4 rfl (lv_at hl 0 rfl) ?_
  refine lv_bipush (v := 6) hx hb dX7_init_5 (by decide +kernel) ?_
  refine nw_a (atype := .int) (ty := .int) (cI := cy 0) (n := 6) hx hb hy_3 rfl hK hP hD hS hA 0 rfl rfl 6 (by decide +kernel) (by decide +kernel) (by decide +kernel) (by decide +kernel) (by decide +kernel) dX7_init_7 (fun q_1 H hP hD hS => ?_)
  have hP : va_P D vwCl [(h0, .inr (7, [.null, .null, .null, .null, .null, .null, .int 0, .int 0])), (q_1, .inl (cy 0, 6, .inl (fun _ => 0)))] H := hP
  have hD : va_D A [(h0, .inr (7, [.null, .null, .null, .null, .null, .null, .int 0, .int 0])), (q_1, .inl (cy 0, 6, .inl (fun _ => 0)))] := hD
  refine W.widen (k := 1) (n := 6) (by decide +kernel) (by decide +kernel) ?_
  refine va_putF (D := D) (ci := 7) (v := .ref q_1) (ty := .array .int) (C := RX7) (T := TX7) (N := 8) hx hb hts in_7 tyX7 tyX7_ok nmX7 hown hK hP hD hS 0 rfl rfl 0 (by decide) fl_9 (fun _ h9 => h9) rfl hin rfl (by decide +kernel) rfl rfl (Nat.le_of_ble_eq_true rfl) dX7_init_9 (fun H locs hP hD hS => ?_)
  have hP : va_P D vwCl [(h0, .inr (7, [.ref q_1, .null, .null, .null, .null, .null, .int 0, .int 0])), (q_1, .inl (cy 0, 6, .inl (fun _ => 0)))] H := hP
  have hD : va_D A [(h0, .inr (7, [.ref q_1, .null, .null, .null, .null, .null, .int 0, .int 0])), (q_1, .inl (cy 0, 6, .inl (fun _ => 0)))] := hD
  refine lv_aload_n hx hb dX7_init_12 rfl (lv_at hl 0 rfl) ?_
  refine lv_bipush (v := 6) hx hb dX7_init_13 (by decide +kernel) ?_
  refine nw_a (atype := .int) (ty := .int) (cI := cy 0) (n := 6) hx hb hy_3 rfl hK hP hD hS hA 0 rfl rfl 6 (by decide +kernel) (by decide +kernel) (by decide +kernel) (by decide +kernel) (by decide +kernel) dX7_init_15 (fun q_2 H hP hD hS => ?_)
  have hP : va_P D vwCl [(h0, .inr (7, [.ref q_1, .null, .null, .null, .null, .null, .int 0, .int 0])), (q_1, .inl (cy 0, 6, .inl (fun _ => 0))), (q_2, .inl (cy 0, 6, .inl (fun _ => 0)))] H := hP
  have hD : va_D A [(h0, .inr (7, [.ref q_1, .null, .null, .null, .null, .null, .int 0, .int 0])), (q_1, .inl (cy 0, 6, .inl (fun _ => 0))), (q_2, .inl (cy 0, 6, .inl (fun _ => 0)))] := hD
  refine W.widen (k := 2) (n := 12) (by decide +kernel) (by decide +kernel) ?_
  refine va_putF (D := D) (ci := 7) (v := .ref q_2) (ty := .array .int) (C := RX7) (T := TX7) (N := 8) hx hb hts in_7 tyX7 tyX7_ok nmX7 hown hK hP hD hS 0 rfl rfl 1 (by decide) fl_15 (fun _ h9 => h9) rfl hin rfl (by decide +kernel) rfl rfl (Nat.le_of_ble_eq_true rfl) dX7_init_17 (fun H locs hP hD hS => ?_)
  have hP : va_P D vwCl [(h0, .inr (7, [.ref q_1, .ref q_2, .null, .null, .null, .null, .int 0, .int 0])), (q_1, .inl (cy 0, 6, .inl (fun _ => 0))), (q_2, .inl (cy 0, 6, .inl (fun _ => 0)))] H := hP
  have hD : va_D A [(h0, .inr (7, [.ref q_1, .ref q_2, .null, .null, .null, .null, .int 0, .int 0])), (q_1, .inl (cy 0, 6, .inl (fun _ => 0))), (q_2, .inl (cy 0, 6, .inl (fun _ => 0)))] := hD
  refine lv_aload_n hx hb dX7_init_20 rfl (lv_at hl 0 rfl) ?_
  refine lv_bipush (v := 6) hx hb dX7_init_21 (by decide +kernel) ?_
  refine nw_a (atype := .int) (ty := .int) (cI := cy 0) (n := 6) hx hb hy_3 rfl hK hP hD hS hA 0 rfl rfl 6 (by decide +kernel) (by decide +kernel) (by decide +kernel) (by decide +kernel) (by decide +kernel) dX7_init_23 (fun q_3 H hP hD hS => ?_)
  have hP : va_P D vwCl [(h0, .inr (7, [.ref q_1, .ref q_2, .null, .null, .null, .null, .int 0, .int 0])), (q_1, .inl (cy 0, 6, .inl (fun _ => 0))), (q_2, .inl (cy 0, 6, .inl (fun _ => 0))), (q_3, .inl (cy 0, 6, .inl (fun _ => 0)))] H := hP
  have hD : va_D A [(h0, .inr (7, [.ref q_1, .ref q_2, .null, .null, .null, .null, .int 0, .int 0])), (q_1, .inl (cy 0, 6, .inl (fun _ => 0))), (q_2, .inl (cy 0, 6, .inl (fun _ => 0))), (q_3, .inl (cy 0, 6, .inl (fun _ => 0)))] := hD
  refine W.widen (k := 3) (n := 18) (by decide +kernel) (by decide +kernel) ?_
  refine va_putF (D := D) (ci := 7) (v := .ref q_3) (ty := .array .int) (C := RX7) (T := TX7) (N := 8) hx hb hts in_7 tyX7 tyX7_ok nmX7 hown hK hP hD hS 0 rfl rfl 2 (by decide) fl_18 (fun _ h9 => h9) rfl hin rfl (by decide +kernel) rfl rfl (Nat.le_of_ble_eq_true rfl) dX7_init_25 (fun H locs hP hD hS => ?_)
  have hP : va_P D vwCl [(h0, .inr (7, [.ref q_1, .ref q_2, .ref q_3, .null, .null, .null, .int 0, .int 0])), (q_1, .inl (cy 0, 6, .inl (fun _ => 0))), (q_2, .inl (cy 0, 6, .inl (fun _ => 0))), (q_3, .inl (cy 0, 6, .inl (fun _ => 0)))] H := hP
  have hD : va_D A [(h0, .inr (7, [.ref q_1, .ref q_2, .ref q_3, .null, .null, .null, .int 0, .int 0])), (q_1, .inl (cy 0, 6, .inl (fun _ => 0))), (q_2, .inl (cy 0, 6, .inl (fun _ => 0))), (q_3, .inl (cy 0, 6, .inl (fun _ => 0)))] := hD
  refine lv_aload_n hx hb dX7_init_28 rfl (lv_at hl 0 rfl) ?_
  refine lv_bipush (v := 6) hx hb dX7_init_29 (by decide +kernel) ?_
  refine nw_a (atype := .int) (ty := .int) (cI := cy 0) (n := 6) hx hb hy_3 rfl hK hP hD hS hA 0 rfl rfl 6 (by decide +kernel) (by decide +kernel) (by decide +kernel) (by decide +kernel) (by decide +kernel) dX7_init_31 (fun q_4 H hP hD hS => ?_)
  have hP : va_P D vwCl [(h0, .inr (7, [.ref q_1, .ref q_2, .ref q_3, .null, .null, .null, .int 0, .int 0])), (q_1, .inl (cy 0, 6, .inl (fun _ => 0))), (q_2, .inl (cy 0, 6, .inl (fun _ => 0))), (q_3, .inl (cy 0, 6, .inl (fun _ => 0))), (q_4, .inl (cy 0, 6, .inl (fun _ => 0)))] H := hP
  have hD : va_D A [(h0, .inr (7, [.ref q_1, .ref q_2, .ref q_3, .null, .null, .null, .int 0, .int 0])), (q_1, .inl (cy 0, 6, .inl (fun _ => 0))), (q_2, .inl (cy 0, 6, .inl (fun _ => 0))), (q_3, .inl (cy 0, 6, .inl (fun _ => 0))), (q_4, .inl (cy 0, 6, .inl (fun _ => 0)))] := hD
  refine W.widen (k := 4) (n := 24) (by decide +kernel) (by decide +kernel) ?_
  refine va_putF (D := D) (ci := 7) (v := .ref q_4) (ty := .array .int) (C := RX7) (T := TX7) (N := 8) hx hb hts in_7 tyX7 tyX7_ok nmX7 hown hK hP hD hS 0 rfl rfl 3 (by decide) fl_21 (fun _ h9 => h9) rfl hin rfl (by decide +kernel) rfl rfl (Nat.le_of_ble_eq_true rfl) dX7_init_33 (fun H locs hP hD hS => ?_)
  have hP : va_P D vwCl [(h0, .inr (7, [.ref q_1, .ref q_2, .ref q_3, .ref q_4, .null, .null, .int 0, .int 0])), (q_1, .inl (cy 0, 6, .inl (fun _ => 0))), (q_2, .inl (cy 0, 6, .inl (fun _ => 0))), (q_3, .inl (cy 0, 6, .inl (fun _ => 0))), (q_4, .inl (cy 0, 6, .inl (fun _ => 0)))] H := hP
  have hD : va_D A [(h0, .inr (7, [.ref q_1, .ref q_2, .ref q_3, .ref q_4, .null, .null, .int 0, .int 0])), (q_1, .inl (cy 0, 6, .inl (fun _ => 0))), (q_2, .inl (cy 0, 6, .inl (fun _ => 0))), (q_3, .inl (cy 0, 6, .inl (fun _ => 0))), (q_4, .inl (cy 0, 6, .inl (fun _ => 0)))] := hD
  refine lv_aload_n hx hb dX7_init_36 rfl (lv_at hl 0 rfl) ?_
  refine lv_bipush (v := 6) hx hb dX7_init_37 (by decide +kernel) ?_
  refine nw_a (atype := .int) (ty := .int) (cI := cy 0) (n := 6) hx hb hy_3 rfl hK hP hD hS hA 0 rfl rfl 6 (by decide +kernel) (by decide +kernel) (by decide +kernel) (by decide +kernel) (by decide +kernel) dX7_init_39 (fun q_5 H hP hD hS => ?_)
  have hP : va_P D vwCl [(h0, .inr (7, [.ref q_1, .ref q_2, .ref q_3, .ref q_4, .null, .null, .int 0, .int 0])), (q_1, .inl (cy 0, 6, .inl (fun _ => 0))), (q_2, .inl (cy 0, 6, .inl (fun _ => 0))), (q_3, .inl (cy 0, 6, .inl (fun _ => 0))), (q_4, .inl (cy 0, 6, .inl (fun _ => 0))), (q_5, .inl (cy 0, 6, .inl (fun _ => 0)))] H := hP
  have hD : va_D A [(h0, .inr (7, [.ref q_1, .ref q_2, .ref q_3, .ref q_4, .null, .null, .int 0, .int 0])), (q_1, .inl (cy 0, 6, .inl (fun _ => 0))), (q_2, .inl (cy 0, 6, .inl (fun _ => 0))), (q_3, .inl (cy 0, 6, .inl (fun _ => 0))), (q_4, .inl (cy 0, 6, .inl (fun _ => 0))), (q_5, .inl (cy 0, 6, .inl (fun _ => 0)))] := hD
  refine W.widen (k := 5) (n := 30) (by decide +kernel) (by decide +kernel) ?_
  refine va_putF (D := D) (ci := 7) (v := .ref q_5) (ty := .array .int) (C := RX7) (T := TX7) (N := 8) hx hb hts in_7 tyX7 tyX7_ok nmX7 hown hK hP hD hS 0 rfl rfl 4 (by decide) fl_24 (fun _ h9 => h9) rfl hin rfl (by decide +kernel) rfl rfl (Nat.le_of_ble_eq_true rfl) dX7_init_41 (fun H locs hP hD hS => ?_)
  have hP : va_P D vwCl [(h0, .inr (7, [.ref q_1, .ref q_2, .ref q_3, .ref q_4, .ref q_5, .null, .int 0, .int 0])), (q_1, .inl (cy 0, 6, .inl (fun _ => 0))), (q_2, .inl (cy 0, 6, .inl (fun _ => 0))), (q_3, .inl (cy 0, 6, .inl (fun _ => 0))), (q_4, .inl (cy 0, 6, .inl (fun _ => 0))), (q_5, .inl (cy 0, 6, .inl (fun _ => 0)))] H := hP
  have hD : va_D A [(h0, .inr (7, [.ref q_1, .ref q_2, .ref q_3, .ref q_4, .ref q_5, .null, .int 0, .int 0])), (q_1, .inl (cy 0, 6, .inl (fun _ => 0))), (q_2, .inl (cy 0, 6, .inl (fun _ => 0))), (q_3, .inl (cy 0, 6, .inl (fun _ => 0))), (q_4, .inl (cy 0, 6, .inl (fun _ => 0))), (q_5, .inl (cy 0, 6, .inl (fun _ => 0)))] := hD
  refine lv_aload_n hx hb dX7_init_44 rfl (lv_at hl 0 rfl) ?_
  refine lv_bipush (v := 6) hx hb dX7_init_45 (by decide +kernel) ?_
  refine nw_a (atype := .int) (ty := .int) (cI := cy 0) (n := 6) hx hb hy_3 rfl hK hP hD hS hA 0 rfl rfl 6 (by decide +kernel) (by decide +kernel) (by decide +kernel) (by decide +kernel) (by decide +kernel) dX7_init_47 (fun q_6 H hP hD hS => ?_)
  have hP : va_P D vwCl [(h0, .inr (7, [.ref q_1, .ref q_2, .ref q_3, .ref q_4, .ref q_5, .null, .int 0, .int 0])), (q_1, .inl (cy 0, 6, .inl (fun _ => 0))), (q_2, .inl (cy 0, 6, .inl (fun _ => 0))), (q_3, .inl (cy 0, 6, .inl (fun _ => 0))), (q_4, .inl (cy 0, 6, .inl (fun _ => 0))), (q_5, .inl (cy 0, 6, .inl (fun _ => 0))), (q_6, .inl (cy 0, 6, .inl (fun _ => 0)))] H := hP
  have hD : va_D A [(h0, .inr (7, [.ref q_1, .ref q_2, .ref q_3, .ref q_4, .ref q_5, .null, .int 0, .int 0])), (q_1, .inl (cy 0, 6, .inl (fun _ => 0))), (q_2, .inl (cy 0, 6, .inl (fun _ => 0))), (q_3, .inl (cy 0, 6, .inl (fun _ => 0))), (q_4, .inl (cy 0, 6, .inl (fun _ => 0))), (q_5, .inl (cy 0, 6, .inl (fun _ => 0))), (q_6, .inl (cy 0, 6, .inl (fun _ => 0)))] := hD
  refine W.widen (k := 6) (n := 36) (by decide +kernel) (by decide +kernel) ?_
  refine va_putF (D := D) (ci := 7) (v := .ref q_6) (ty := .array .int) (C := RX7) (T := TX7) (N := 8) hx hb hts in_7 tyX7 tyX7_ok nmX7 hown hK hP hD hS 0 rfl rfl 5 (by decide) fl_27 (fun _ h9 => h9) rfl hin rfl (by decide +kernel) rfl rfl (Nat.le_of_ble_eq_true rfl) dX7_init_49 (fun H locs hP hD hS => ?_)
  have hP : va_P D vwCl [(h0, .inr (7, [.ref q_1, .ref q_2, .ref q_3, .ref q_4, .ref q_5, .ref q_6, .int 0, .int 0])), (q_1, .inl (cy 0, 6, .inl (fun _ => 0))), (q_2, .inl (cy 0, 6, .inl (fun _ => 0))), (q_3, .inl (cy 0, 6, .inl (fun _ => 0))), (q_4, .inl (cy 0, 6, .inl (fun _ => 0))), (q_5, .inl (cy 0, 6, .inl (fun _ => 0))), (q_6, .inl (cy 0, 6, .inl (fun _ => 0)))] H := hP
  have hD : va_D A [(h0, .inr (7, [.ref q_1, .ref q_2, .ref q_3, .ref q_4, .ref q_5, .ref q_6, .int 0, .int 0])), (q_1, .inl (cy 0, 6, .inl (fun _ => 0))), (q_2, .inl (cy 0, 6, .inl (fun _ => 0))), (q_3, .inl (cy 0, 6, .inl (fun _ => 0))), (q_4, .inl (cy 0, 6, .inl (fun _ => 0))), (q_5, .inl (cy 0, 6, .inl (fun _ => 0))), (q_6, .inl (cy 0, 6, .inl (fun _ => 0)))] := hD
  have hP9 := hP.sub (ws' := [(h0, .inr (7, [.ref q_1, .ref q_2, .ref q_3, .ref q_4, .ref q_5, .ref q_6, .int 0, .int 0])), (q_1, .inl (cy 0, 6, .inl (fun _ => 0))), (q_2, .inl (cy 0, 6, .inl (fun _ => 0))), (q_3, .inl (cy 0, 6, .inl (fun _ => 0))), (q_4, .inl (cy 0, 6, .inl (fun _ => 0))), (q_5, .inl (cy 0, 6, .inl (fun _ => 0))), (q_6, .inl (cy 0, 6, .inl (fun _ => 0)))]) [0, 1, 2, 3, 4, 5, 6] rfl
  have hD9 := hD.sub (ws' := [(h0, .inr (7, [.ref q_1, .ref q_2, .ref q_3, .ref q_4, .ref q_5, .ref q_6, .int 0, .int 0])), (q_1, .inl (cy 0, 6, .inl (fun _ => 0))), (q_2, .inl (cy 0, 6, .inl (fun _ => 0))), (q_3, .inl (cy 0, 6, .inl (fun _ => 0))), (q_4, .inl (cy 0, 6, .inl (fun _ => 0))), (q_5, .inl (cy 0, 6, .inl (fun _ => 0))), (q_6, .inl (cy 0, 6, .inl (fun _ => 0)))]) [0, 1, 2, 3, 4, 5, 6] (by decide) rfl
  exact W.vret hx hb hr (fun t ht hW => ⟨⟨(), rfl, trivial, q_1, q_2, q_3, q_4, q_5, q_6, by rw [ht]; exact hP9, hD9⟩, hS.F ht⟩) hS.2.2 dX7_init_52
set_option maxHeartbeats 4000000 in
set_option maxRecDepth 100000 in
theorem c_X5_init (l : Launch) (D : va_G) (cy : Nat → ClassId) (h0 : Nat) (sz : Nat)  : Met l yX5_init wsX5_init ({ frames := 2, cells := 11, slots := 65, locals := 32 } : Room) (va_Pc [.ref h0] (PW D cy [(h0, .inr (5, [.null, .null, .null, .null, .null, .null, .int 0, .int 0, .int 0, .int 0, .int 0, .int 0, .int 0, .int 0, .int 0, .null]))] sz)) (va_Qv (fun _ : Unit => True) (fun _ t => ∃ (q_1 : Nat) (q_12 : Nat) (q_13 : Nat) (q_14 : Nat) (q_15 : Nat) (q_6 : Nat) (q_7 : Nat) (q_8 : Nat) (q_9 : Nat) (q_10 : Nat) (q_11 : Nat), va_P D vwCl [(h0, .inr (5, [.null, .null, .ref q_1, .ref q_12, .ref q_13, .ref q_14, .int 0, .int 0, .int 0, .int 0, .int 0, .int 0, .int 0, .int 0, .int 0, .ref q_15])), (q_1, .inr (7, [.ref q_6, .ref q_7, .ref q_8, .ref q_9, .ref q_10, .ref q_11, .int 0, .int 0])), (q_6, .inl (cy 0, 6, .inl (fun _ => 0))), (q_7, .inl (cy 0, 6, .inl (fun _ => 0))), (q_8, .inl (cy 0, 6, .inl (fun _ => 0))), (q_9, .inl (cy 0, 6, .inl (fun _ => 0))), (q_10, .inl (cy 0, 6, .inl (fun _ => 0))), (q_11, .inl (cy 0, 6, .inl (fun _ => 0))), (q_12, .inl (cy 0, 6, .inl (fun _ => 0))), (q_13, .inl (cy 0, 6, .inl (fun _ => 0))), (q_14, .inl (cy 0, 6, .inl (fun _ => 0))), (q_15, .inl (cy 0, 3, .inl (fun _ => 0)))] t.heap ∧ va_D (va_A [(h0, .inr (5, [.null, .null, .null, .null, .null, .null, .int 0, .int 0, .int 0, .int 0, .int 0, .int 0, .int 0, .int 0, .int 0, .null]))] sz) [(h0, .inr (5, [.null, .null, .ref q_1, .ref q_12, .ref q_13, .ref q_14, .int 0, .int 0, .int 0, .int 0, .int 0, .int 0, .int 0, .int 0, .int 0, .ref q_15])), (q_1, .inr (7, [.ref q_6, .ref q_7, .ref q_8, .ref q_9, .ref q_10, .ref q_11, .int 0, .int 0])), (q_6, .inl (cy 0, 6, .inl (fun _ => 0))), (q_7, .inl (cy 0, 6, .inl (fun _ => 0))), (q_8, .inl (cy 0, 6, .inl (fun _ => 0))), (q_9, .inl (cy 0, 6, .inl (fun _ => 0))), (q_10, .inl (cy 0, 6, .inl (fun _ => 0))), (q_11, .inl (cy 0, 6, .inl (fun _ => 0))), (q_12, .inl (cy 0, 6, .inl (fun _ => 0))), (q_13, .inl (cy 0, 6, .inl (fun _ => 0))), (q_14, .inl (cy 0, 6, .inl (fun _ => 0))), (q_15, .inl (cy 0, 3, .inl (fun _ => 0)))]) (va_A [(h0, .inr (5, [.null, .null, .null, .null, .null, .null, .int 0, .int 0, .int 0, .int 0, .int 0, .int 0, .int 0, .int 0, .int 0, .null]))] sz)) 11 65 (va_A [(h0, .inr (5, [.null, .null, .null, .null, .null, .null, .int 0, .int 0, .int 0, .int 0, .int 0, .int 0, .int 0, .int 0, .int 0, .null]))] sz) := by
  refine Met.ofW (cc := cX5_init) (maxL := 1) (ret := none) (by decide) rfl ?_
  intro p e s m args below meth c s₁ B hml hv
  obtain ⟨rfl, hsz, hP, hKW, hD0⟩ := hv
  have hK := hKW.1
  have hx := B.exec
  have hb := B.bytes
  have hr := B.returns
  have hts := atoms_spec (ws := wsX5_init) B.pre
  have hown : s.vm.findClass RX5 = some m.cls := findClass_of_methodNamed B.named
  have hlocks := B.notSynchronized
  have hin : meth.name = "<init>" := (name_of_methodNamed B.named B.method).1
  have in_5 : ∀ w ∈ u_ws RX5 TX5 16, w ∈ wsX5_init := by decide +kernel
  have in_7 : ∀ w ∈ u_ws RX7 TX7 8, w ∈ wsX5_init := by decide +kernel
  have hy_0 := hts (.methodLink RX5 3 objectInit) (by decide +kernel)
  have hy_1 := hts (.instanceMethod objectInit) (by decide +kernel)
  have hy_2 := hts (.code objectInit ⟨#[0xb1]⟩ 1 none) (by decide +kernel)
  have hy_3 := hts (.classLink RX5 9 RX7) (by decide +kernel)
  have hy_4 := hts (.instantiable RX7 8) (by decide +kernel)
  have hy_5 := hts (.initialized RX7) (by decide +kernel)
  have hy_6 := hts (.instanceMethod yX7_init) (by decide +kernel)
  have fl_12 := hts (.fieldLink RX5 12 "ShoalClaims$Run" "shoals" "LShoalClaims$Shoals;") (by decide +kernel)
  have hy_8 := hts (.arrayClass .int) (by decide +kernel)
  have fl_18 := hts (.fieldLink RX5 18 "ShoalClaims$Run" "boatCell" "[I") (by decide +kernel)
  have fl_22 := hts (.fieldLink RX5 22 "ShoalClaims$Run" "boatFish" "[I") (by decide +kernel)
  have fl_25 := hts (.fieldLink RX5 25 "ShoalClaims$Run" "boatLawful" "[I") (by decide +kernel)
  have fl_28 := hts (.fieldLink RX5 28 "ShoalClaims$Run" "coastFish" "[I") (by decide +kernel)
  subst hsz
  have hD := hD0.self (sz := s.heap.size)
  generalize hAe : va_A [(h0, .inr (5, [.null, .null, .null, .null, .null, .null, .int 0, .int 0, .int 0, .int 0, .int 0, .int 0, .int 0, .int 0, .int 0, .null]))] s.heap.size = A at hD ⊢
  have hA : ∀ q : Nat, s.heap.size ≤ q → A q := fun q h => by rw [← hAe]; exact Or.inr h
  have hS : va_S A s.heap s.heap [] := va_S.rf
  have hP : va_P D vwCl [(h0, .inr (5, [.null, .null, .null, .null, .null, .null, .int 0, .int 0, .int 0, .int 0, .int 0, .int 0, .int 0, .int 0, .int 0, .null]))] s.heap := hP
  have hl := lv_entry ([.ref h0]) (n := 1) (Nat.le_of_ble_eq_true rfl)
  rw [lg_entry_eq]
  generalize (lg_sl ([.ref h0]) ++ List.replicate (1 - (lg_sl ([.ref h0])).length) Slot.unset).toArray = ls at hl ⊢
  have hl : lv_has ls 1 [(0, .ref h0)] := hl
  refine lv_aload_n hx hb dX5_init_0 rfl (lv_at hl 0 rfl) ?_
  refine W.objInit hx hb hown hy_0 hy_1 hy_2 rfl (by rw [hml]; exact hl.1) rfl dX5_init_1 (Nat.le_of_ble_eq_true rfl) (Nat.le_of_ble_eq_true rfl) ?_
  refine W.eq (g2 := F0 m 4 ls []) rfl ?_
  refine lv_aload_n hx hb dX5_init_4 rfl (lv_at hl 0 rfl) ?_
  refine va_new (ci := 7) (fs := [.null, .null, .null, .null, .null, .null, .int 0, .int 0]) (C := RX7) (T := TX7) (N := 8) hx hb hts in_7 tyX7 tyX7_ok hown hy_3 hy_4 hy_5 hK hP hD hS hA rfl (by decide +kernel) (by decide +kernel) (by decide +kernel) dX5_init_5 (fun q_1 H hP hD hS => ?_)
  have hP : va_P D vwCl [(h0, .inr (5, [.null, .null, .null, .null, .null, .null, .int 0, .int 0, .int 0, .int 0, .int 0, .int 0, .int 0, .int 0, .int 0, .null])), (q_1, .inr (7, [.null, .null, .null, .null, .null, .null, .int 0, .int 0]))] H := hP
  have hD : va_D A [(h0, .inr (5, [.null, .null, .null, .null, .null, .null, .int 0, .int 0, .int 0, .int 0, .int 0, .int 0, .int 0, .int 0, .int 0, .null])), (q_1, .inr (7, [.null, .null, .null, .null, .null, .null, .int 0, .int 0]))] := hD
  refine W.widen (k := 1) (n := 8) (by decide +kernel) (by decide +kernel) ?_
  refine lv_dup hx hb dX5_init_8 rfl ?_
  have hPc_2 := hP.sub (ws' := [(q_1, .inr (7, [.null, .null, .null, .null, .null, .null, .int 0, .int 0]))]) [1] rfl
  have hDc_3 := hD.sub (ws' := [(q_1, .inr (7, [.null, .null, .null, .null, .null, .null, .int 0, .int 0]))]) [1] (by decide) rfl
  have hFc_4 := va_free (wc := [(q_1, .inr (7, [.null, .null, .null, .null, .null, .null, .int 0, .int 0]))]) hD hS hA [1] rfl
  refine va_callv (va_runIN (As := []) (rest := [.ref q_1, .ref h0]) ⟨hx, hb, hml, hown, hts⟩ (c_X7_init l D cy q_1 H.size) ⟨va_cnB 0 hts ggX5_init_X7_init rfl rfl rfl hKW.2.2.2.2.1 hy_5 (by decide +kernel) ⟨Nat.le_of_ble_eq_true rfl, Nat.le_of_ble_eq_true rfl⟩, rfl, hy_6⟩ ⟨pwB, fun U hU hW => ⟨rfl, PW.of hU hW hKW hPc_2 hDc_3⟩⟩ rfl rfl hl.1 rfl (lv_room (Nat.le_of_ble_eq_true rfl)) dX5_init_9 ⟨by decide +kernel, by decide +kernel⟩) hS (fun q _ h => hFc_4 q h) hFc_4 (fun u t H1 locs ht hvm hw_5 hB hz1 hk1 hS => ?_)
  obtain ⟨q_6, q_7, q_8, q_9, q_10, q_11, hP1, hD1⟩ := hB
  rw [ht] at hP1
  obtain ⟨hP, hD⟩ := va_join (wr := [(h0, .inr (5, [.null, .null, .null, .null, .null, .null, .int 0, .int 0, .int 0, .int 0, .int 0, .int 0, .int 0, .int 0, .int 0, .null]))]) (w1 := [(q_1, .inr (7, [.ref q_6, .ref q_7, .ref q_8, .ref q_9, .ref q_10, .ref q_11, .int 0, .int 0])), (q_6, .inl (cy 0, 6, .inl (fun _ => 0))), (q_7, .inl (cy 0, 6, .inl (fun _ => 0))), (q_8, .inl (cy 0, 6, .inl (fun _ => 0))), (q_9, .inl (cy 0, 6, .inl (fun _ => 0))), (q_10, .inl (cy 0, 6, .inl (fun _ => 0))), (q_11, .inl (cy 0, 6, .inl (fun _ => 0)))]) hP hD [1] [0] rfl rfl (by decide) (by decide) hk1 hFc_4 hP1 hD1
  generalize H1 = H at hP hS ⊢
  have hP : va_P D vwCl [(h0, .inr (5, [.null, .null, .null, .null, .null, .null, .int 0, .int 0, .int 0, .int 0, .int 0, .int 0, .int 0, .int 0, .int 0, .null])), (q_1, .inr (7, [.ref q_6, .ref q_7, .ref q_8, .ref q_9, .ref q_10, .ref q_11, .int 0, .int 0])), (q_6, .inl (cy 0, 6, .inl (fun _ => 0))), (q_7, .inl (cy 0, 6, .inl (fun _ => 0))), (q_8, .inl (cy 0, 6, .inl (fun _ => 0))), (q_9, .inl (cy 0, 6, .inl (fun _ => 0))), (q_10, .inl (cy 0, 6, .inl (fun _ => 0))), (q_11, .inl (cy 0, 6, .inl (fun _ => 0)))] H := hP
  have hD : va_D A [(h0, .inr (5, [.null, .null, .null, .null, .null, .null, .int 0, .int 0, .int 0, .int 0, .int 0, .int 0, .int 0, .int 0, .int 0, .null])), (q_1, .inr (7, [.ref q_6, .ref q_7, .ref q_8, .ref q_9, .ref q_10, .ref q_11, .int 0, .int 0])), (q_6, .inl (cy 0, 6, .inl (fun _ => 0))), (q_7, .inl (cy 0, 6, .inl (fun _ => 0))), (q_8, .inl (cy 0, 6, .inl (fun _ => 0))), (q_9, .inl (cy 0, 6, .inl (fun _ => 0))), (q_10, .inl (cy 0, 6, .inl (fun _ => 0))), (q_11, .inl (cy 0, 6, .inl (fun _ => 0)))] := hD
  refine W.widen (k := 7) (n := 44) (by decide +kernel) (by decide +kernel) ?_
  refine va_putF (D := D) (ci := 5) (v := .ref q_1) (ty := .object "ShoalClaims$Shoals") (C := RX5) (T := TX5) (N := 16) hx hb hts in_5 tyX5 tyX5_ok nmX5 hown hK hP hD hS 0 rfl rfl 2 (by decide) fl_12 (fun _ h9 => h9) rfl hin rfl (by decide +kernel) rfl rfl (Nat.le_of_ble_eq_true rfl) dX5_init_12 (fun H locs hP hD hS => ?_)
  have hP : va_P D vwCl [(h0, .inr (5, [.null, .null, .ref q_1, .null, .null, .null, .int 0, .int 0, .int 0, .int 0, .int 0, .int 0, .int 0, .int 0, .int 0, .null])), (q_1, .inr (7, [.ref q_6, .ref q_7, .ref q_8, .ref q_9, .ref q_10, .ref q_11, .int 0, .int 0])), (q_6, .inl (cy 0, 6, .inl (fun _ => 0))), (q_7, .inl (cy 0, 6, .inl (fun _ => 0))), (q_8, .inl (cy 0, 6, .inl (fun _ => 0))), (q_9, .inl (cy 0, 6, .inl (fun _ => 0))), (q_10, .inl (cy 0, 6, .inl (fun _ => 0))), (q_11, .inl (cy 0, 6, .inl (fun _ => 0)))] H := hP
  have hD : va_D A [(h0, .inr (5, [.null, .null, .ref q_1, .null, .null, .null, .int 0, .int 0, .int 0, .int 0, .int 0, .int 0, .int 0, .int 0, .int 0, .null])), (q_1, .inr (7, [.ref q_6, .ref q_7, .ref q_8, .ref q_9, .ref q_10, .ref q_11, .int 0, .int 0])), (q_6, .inl (cy 0, 6, .inl (fun _ => 0))), (q_7, .inl (cy 0, 6, .inl (fun _ => 0))), (q_8, .inl (cy 0, 6, .inl (fun _ => 0))), (q_9, .inl (cy 0, 6, .inl (fun _ => 0))), (q_10, .inl (cy 0, 6, .inl (fun _ => 0))), (q_11, .inl (cy 0, 6, .inl (fun _ => 0)))] := hD
  refine lv_aload_n hx hb dX5_init_15 rfl (lv_at hl 0 rfl) ?_
  refine lv_bipush (v := 6) hx hb dX5_init_16 (by decide +kernel) ?_
  refine nw_a (atype := .int) (ty := .int) (cI := cy 0) (n := 6) hx hb hy_8 rfl hK hP hD hS hA 0 rfl rfl 6 (by decide +kernel) (by decide +kernel) (by decide +kernel) (by decide +kernel) (by decide +kernel) dX5_init_18 (fun q_12 H hP hD hS => ?_)
  have hP : va_P D vwCl [(h0, .inr (5, [.null, .null, .ref q_1, .null, .null, .null, .int 0, .int 0, .int 0, .int 0, .int 0, .int 0, .int 0, .int 0, .int 0, .null])), (q_1, .inr (7, [.ref q_6, .ref q_7, .ref q_8, .ref q_9, .ref q_10, .ref q_11, .int 0, .int 0])), (q_6, .inl (cy 0, 6, .inl (fun _ => 0))), (q_7, .inl (cy 0, 6, .inl (fun _ => 0))), (q_8, .inl (cy 0, 6, .inl (fun _ => 0))), (q_9, .inl (cy 0, 6, .inl (fun _ => 0))), (q_10, .inl (cy 0, 6, .inl (fun _ => 0))), (q_11, .inl (cy 0, 6, .inl (fun _ => 0))), (q_12, .inl (cy 0, 6, .inl (fun _ => 0)))] H := hP
  have hD : va_D A [(h0, .inr (5, [.null, .null, .ref q_1, .null, .null, .null, .int 0, .int 0, .int 0, .int 0, .int 0, .int 0, .int 0, .int 0, .int 0, .null])), (q_1, .inr (7, [.ref q_6, .ref q_7, .ref q_8, .ref q_9, .ref q_10, .ref q_11, .int 0, .int 0])), (q_6, .inl (cy 0, 6, .inl (fun _ => 0))), (q_7, .inl (cy 0, 6, .inl (fun _ => 0))), (q_8, .inl (cy 0, 6, .inl (fun _ => 0))), (q_9, .inl (cy 0, 6, .inl (fun _ => 0))), (q_10, .inl (cy 0, 6, .inl (fun _ => 0))), (q_11, .inl (cy 0, 6, .inl (fun _ => 0))), (q_12, .inl (cy 0, 6, .inl (fun _ => 0)))] := hD
  refine W.widen (k := 8) (n := 50) (by decide +kernel) (by decide +kernel) ?_
  refine va_putF (D := D) (ci := 5) (v := .ref q_12) (ty := .array .int) (C := RX5) (T := TX5) (N := 16) hx hb hts in_5 tyX5 tyX5_ok nmX5 hown hK hP hD hS 0 rfl rfl 3 (by decide) fl_18 (fun _ h9 => h9) rfl hin rfl (by decide +kernel) rfl rfl (Nat.le_of_ble_eq_true rfl) dX5_init_20 (fun H locs hP hD hS => ?_)
  have hP : va_P D vwCl [(h0, .inr (5, [.null, .null, .ref q_1, .ref q_12, .null, .null, .int 0, .int 0, .int 0, .int 0, .int 0, .int 0, .int 0, .int 0, .int 0, .null])), (q_1, .inr (7, [.ref q_6, .ref q_7, .ref q_8, .ref q_9, .ref q_10, .ref q_11, .int 0, .int 0])), (q_6, .inl (cy 0, 6, .inl (fun _ => 0))), (q_7, .inl (cy 0, 6, .inl (fun _ => 0))), (q_8, .inl (cy 0, 6, .inl (fun _ => 0))), (q_9, .inl (cy 0, 6, .inl (fun _ => 0))), (q_10, .inl (cy 0, 6, .inl (fun _ => 0))), (q_11, .inl (cy 0, 6, .inl (fun _ => 0))), (q_12, .inl (cy 0, 6, .inl (fun _ => 0)))] H := hP
  have hD : va_D A [(h0, .inr (5, [.null, .null, .ref q_1, .ref q_12, .null, .null, .int 0, .int 0, .int 0, .int 0, .int 0, .int 0, .int 0, .int 0, .int 0, .null])), (q_1, .inr (7, [.ref q_6, .ref q_7, .ref q_8, .ref q_9, .ref q_10, .ref q_11, .int 0, .int 0])), (q_6, .inl (cy 0, 6, .inl (fun _ => 0))), (q_7, .inl (cy 0, 6, .inl (fun _ => 0))), (q_8, .inl (cy 0, 6, .inl (fun _ => 0))), (q_9, .inl (cy 0, 6, .inl (fun _ => 0))), (q_10, .inl (cy 0, 6, .inl (fun _ => 0))), (q_11, .inl (cy 0, 6, .inl (fun _ => 0))), (q_12, .inl (cy 0, 6, .inl (fun _ => 0)))] := hD
  refine lv_aload_n hx hb dX5_init_23 rfl (lv_at hl 0 rfl) ?_
  refine lv_bipush (v := 6) hx hb dX5_init_24 (by decide +kernel) ?_
  refine nw_a (atype := .int) (ty := .int) (cI := cy 0) (n := 6) hx hb hy_8 rfl hK hP hD hS hA 0 rfl rfl 6 (by decide +kernel) (by decide +kernel) (by decide +kernel) (by decide +kernel) (by decide +kernel) dX5_init_26 (fun q_13 H hP hD hS => ?_)
  have hP : va_P D vwCl [(h0, .inr (5, [.null, .null, .ref q_1, .ref q_12, .null, .null, .int 0, .int 0, .int 0, .int 0, .int 0, .int 0, .int 0, .int 0, .int 0, .null])), (q_1, .inr (7, [.ref q_6, .ref q_7, .ref q_8, .ref q_9, .ref q_10, .ref q_11, .int 0, .int 0])), (q_6, .inl (cy 0, 6, .inl (fun _ => 0))), (q_7, .inl (cy 0, 6, .inl (fun _ => 0))), (q_8, .inl (cy 0, 6, .inl (fun _ => 0))), (q_9, .inl (cy 0, 6, .inl (fun _ => 0))), (q_10, .inl (cy 0, 6, .inl (fun _ => 0))), (q_11, .inl (cy 0, 6, .inl (fun _ => 0))), (q_12, .inl (cy 0, 6, .inl (fun _ => 0))), (q_13, .inl (cy 0, 6, .inl (fun _ => 0)))] H := hP
  have hD : va_D A [(h0, .inr (5, [.null, .null, .ref q_1, .ref q_12, .null, .null, .int 0, .int 0, .int 0, .int 0, .int 0, .int 0, .int 0, .int 0, .int 0, .null])), (q_1, .inr (7, [.ref q_6, .ref q_7, .ref q_8, .ref q_9, .ref q_10, .ref q_11, .int 0, .int 0])), (q_6, .inl (cy 0, 6, .inl (fun _ => 0))), (q_7, .inl (cy 0, 6, .inl (fun _ => 0))), (q_8, .inl (cy 0, 6, .inl (fun _ => 0))), (q_9, .inl (cy 0, 6, .inl (fun _ => 0))), (q_10, .inl (cy 0, 6, .inl (fun _ => 0))), (q_11, .inl (cy 0, 6, .inl (fun _ => 0))), (q_12, .inl (cy 0, 6, .inl (fun _ => 0))), (q_13, .inl (cy 0, 6, .inl (fun _ => 0)))] := hD
  refine W.widen (k := 9) (n := 56) (by decide +kernel) (by decide +kernel) ?_
  refine va_putF (D := D) (ci := 5) (v := .ref q_13) (ty := .array .int) (C := RX5) (T := TX5) (N := 16) hx hb hts in_5 tyX5 tyX5_ok nmX5 hown hK hP hD hS 0 rfl rfl 4 (by decide) fl_22 (fun _ h9 => h9) rfl hin rfl (by decide +kernel) rfl rfl (Nat.le_of_ble_eq_true rfl) dX5_init_28 (fun H locs hP hD hS => ?_)
  have hP : va_P D vwCl [(h0, .inr (5, [.null, .null, .ref q_1, .ref q_12, .ref q_13, .null, .int 0, .int 0, .int 0, .int 0, .int 0, .int 0, .int 0, .int 0, .int 0, .null])), (q_1, .inr (7, [.ref q_6, .ref q_7, .ref q_8, .ref q_9, .ref q_10, .ref q_11, .int 0, .int 0])), (q_6, .inl (cy 0, 6, .inl (fun _ => 0))), (q_7, .inl (cy 0, 6, .inl (fun _ => 0))), (q_8, .inl (cy 0, 6, .inl (fun _ => 0))), (q_9, .inl (cy 0, 6, .inl (fun _ => 0))), (q_10, .inl (cy 0, 6, .inl (fun _ => 0))), (q_11, .inl (cy 0, 6, .inl (fun _ => 0))), (q_12, .inl (cy 0, 6, .inl (fun _ => 0))), (q_13, .inl (cy 0, 6, .inl (fun _ => 0)))] H := hP
  have hD : va_D A [(h0, .inr (5, [.null, .null, .ref q_1, .ref q_12, .ref q_13, .null, .int 0, .int 0, .int 0, .int 0, .int 0, .int 0, .int 0, .int 0, .int 0, .null])), (q_1, .inr (7, [.ref q_6, .ref q_7, .ref q_8, .ref q_9, .ref q_10, .ref q_11, .int 0, .int 0])), (q_6, .inl (cy 0, 6, .inl (fun _ => 0))), (q_7, .inl (cy 0, 6, .inl (fun _ => 0))), (q_8, .inl (cy 0, 6, .inl (fun _ => 0))), (q_9, .inl (cy 0, 6, .inl (fun _ => 0))), (q_10, .inl (cy 0, 6, .inl (fun _ => 0))), (q_11, .inl (cy 0, 6, .inl (fun _ => 0))), (q_12, .inl (cy 0, 6, .inl (fun _ => 0))), (q_13, .inl (cy 0, 6, .inl (fun _ => 0)))] := hD
  refine lv_aload_n hx hb dX5_init_31 rfl (lv_at hl 0 rfl) ?_
  refine lv_bipush (v := 6) hx hb dX5_init_32 (by decide +kernel) ?_
  refine nw_a (atype := .int) (ty := .int) (cI := cy 0) (n := 6) hx hb hy_8 rfl hK hP hD hS hA 0 rfl rfl 6 (by decide +kernel) (by decide +kernel) (by decide +kernel) (by decide +kernel) (by decide +kernel) dX5_init_34 (fun q_14 H hP hD hS => ?_)
  have hP : va_P D vwCl [(h0, .inr (5, [.null, .null, .ref q_1, .ref q_12, .ref q_13, .null, .int 0, .int 0, .int 0, .int 0, .int 0, .int 0, .int 0, .int 0, .int 0, .null])), (q_1, .inr (7, [.ref q_6, .ref q_7, .ref q_8, .ref q_9, .ref q_10, .ref q_11, .int 0, .int 0])), (q_6, .inl (cy 0, 6, .inl (fun _ => 0))), (q_7, .inl (cy 0, 6, .inl (fun _ => 0))), (q_8, .inl (cy 0, 6, .inl (fun _ => 0))), (q_9, .inl (cy 0, 6, .inl (fun _ => 0))), (q_10, .inl (cy 0, 6, .inl (fun _ => 0))), (q_11, .inl (cy 0, 6, .inl (fun _ => 0))), (q_12, .inl (cy 0, 6, .inl (fun _ => 0))), (q_13, .inl (cy 0, 6, .inl (fun _ => 0))), (q_14, .inl (cy 0, 6, .inl (fun _ => 0)))] H := hP
  have hD : va_D A [(h0, .inr (5, [.null, .null, .ref q_1, .ref q_12, .ref q_13, .null, .int 0, .int 0, .int 0, .int 0, .int 0, .int 0, .int 0, .int 0, .int 0, .null])), (q_1, .inr (7, [.ref q_6, .ref q_7, .ref q_8, .ref q_9, .ref q_10, .ref q_11, .int 0, .int 0])), (q_6, .inl (cy 0, 6, .inl (fun _ => 0))), (q_7, .inl (cy 0, 6, .inl (fun _ => 0))), (q_8, .inl (cy 0, 6, .inl (fun _ => 0))), (q_9, .inl (cy 0, 6, .inl (fun _ => 0))), (q_10, .inl (cy 0, 6, .inl (fun _ => 0))), (q_11, .inl (cy 0, 6, .inl (fun _ => 0))), (q_12, .inl (cy 0, 6, .inl (fun _ => 0))), (q_13, .inl (cy 0, 6, .inl (fun _ => 0))), (q_14, .inl (cy 0, 6, .inl (fun _ => 0)))] := hD
  refine W.widen (k := 10) (n := 62) (by decide +kernel) (by decide +kernel) ?_
  refine va_putF (D := D) (ci := 5) (v := .ref q_14) (ty := .array .int) (C := RX5) (T := TX5) (N := 16) hx hb hts in_5 tyX5 tyX5_ok nmX5 hown hK hP hD hS 0 rfl rfl 5 (by decide) fl_25 (fun _ h9 => h9) rfl hin rfl (by decide +kernel) rfl rfl (Nat.le_of_ble_eq_true rfl) dX5_init_36 (fun H locs hP hD hS => ?_)
  have hP : va_P D vwCl [(h0, .inr (5, [.null, .null, .ref q_1, .ref q_12, .ref q_13, .ref q_14, .int 0, .int 0, .int 0, .int 0, .int 0, .int 0, .int 0, .int 0, .int 0, .null])), (q_1, .inr (7, [.ref q_6, .ref q_7, .ref q_8, .ref q_9, .ref q_10, .ref q_11, .int 0, .int 0])), (q_6, .inl (cy 0, 6, .inl (fun _ => 0))), (q_7, .inl (cy 0, 6, .inl (fun _ => 0))), (q_8, .inl (cy 0, 6, .inl (fun _ => 0))), (q_9, .inl (cy 0, 6, .inl (fun _ => 0))), (q_10, .inl (cy 0, 6, .inl (fun _ => 0))), (q_11, .inl (cy 0, 6, .inl (fun _ => 0))), (q_12, .inl (cy 0, 6, .inl (fun _ => 0))), (q_13, .inl (cy 0, 6, .inl (fun _ => 0))), (q_14, .inl (cy 0, 6, .inl (fun _ => 0)))] H := hP
  have hD : va_D A [(h0, .inr (5, [.null, .null, .ref q_1, .ref q_12, .ref q_13, .ref q_14, .int 0, .int 0, .int 0, .int 0, .int 0, .int 0, .int 0, .int 0, .int 0, .null])), (q_1, .inr (7, [.ref q_6, .ref q_7, .ref q_8, .ref q_9, .ref q_10, .ref q_11, .int 0, .int 0])), (q_6, .inl (cy 0, 6, .inl (fun _ => 0))), (q_7, .inl (cy 0, 6, .inl (fun _ => 0))), (q_8, .inl (cy 0, 6, .inl (fun _ => 0))), (q_9, .inl (cy 0, 6, .inl (fun _ => 0))), (q_10, .inl (cy 0, 6, .inl (fun _ => 0))), (q_11, .inl (cy 0, 6, .inl (fun _ => 0))), (q_12, .inl (cy 0, 6, .inl (fun _ => 0))), (q_13, .inl (cy 0, 6, .inl (fun _ => 0))), (q_14, .inl (cy 0, 6, .inl (fun _ => 0)))] := hD
  refine lv_aload_n hx hb dX5_init_39 rfl (lv_at hl 0 rfl) ?_
  refine lv_iconst (v := 3) hx hb dX5_init_40 (by decide +kernel) ?_
  refine nw_a (atype := .int) (ty := .int) (cI := cy 0) (n := 3) hx hb hy_8 rfl hK hP hD hS hA 0 rfl rfl 3 (by decide +kernel) (by decide +kernel) (by decide +kernel) (by decide +kernel) (by decide +kernel) dX5_init_41 (fun q_15 H hP hD hS => ?_)
  have hP : va_P D vwCl [(h0, .inr (5, [.null, .null, .ref q_1, .ref q_12, .ref q_13, .ref q_14, .int 0, .int 0, .int 0, .int 0, .int 0, .int 0, .int 0, .int 0, .int 0, .null])), (q_1, .inr (7, [.ref q_6, .ref q_7, .ref q_8, .ref q_9, .ref q_10, .ref q_11, .int 0, .int 0])), (q_6, .inl (cy 0, 6, .inl (fun _ => 0))), (q_7, .inl (cy 0, 6, .inl (fun _ => 0))), (q_8, .inl (cy 0, 6, .inl (fun _ => 0))), (q_9, .inl (cy 0, 6, .inl (fun _ => 0))), (q_10, .inl (cy 0, 6, .inl (fun _ => 0))), (q_11, .inl (cy 0, 6, .inl (fun _ => 0))), (q_12, .inl (cy 0, 6, .inl (fun _ => 0))), (q_13, .inl (cy 0, 6, .inl (fun _ => 0))), (q_14, .inl (cy 0, 6, .inl (fun _ => 0))), (q_15, .inl (cy 0, 3, .inl (fun _ => 0)))] H := hP
  have hD : va_D A [(h0, .inr (5, [.null, .null, .ref q_1, .ref q_12, .ref q_13, .ref q_14, .int 0, .int 0, .int 0, .int 0, .int 0, .int 0, .int 0, .int 0, .int 0, .null])), (q_1, .inr (7, [.ref q_6, .ref q_7, .ref q_8, .ref q_9, .ref q_10, .ref q_11, .int 0, .int 0])), (q_6, .inl (cy 0, 6, .inl (fun _ => 0))), (q_7, .inl (cy 0, 6, .inl (fun _ => 0))), (q_8, .inl (cy 0, 6, .inl (fun _ => 0))), (q_9, .inl (cy 0, 6, .inl (fun _ => 0))), (q_10, .inl (cy 0, 6, .inl (fun _ => 0))), (q_11, .inl (cy 0, 6, .inl (fun _ => 0))), (q_12, .inl (cy 0, 6, .inl (fun _ => 0))), (q_13, .inl (cy 0, 6, .inl (fun _ => 0))), (q_14, .inl (cy 0, 6, .inl (fun _ => 0))), (q_15, .inl (cy 0, 3, .inl (fun _ => 0)))] := hD
  refine W.widen (k := 11) (n := 65) (by decide +kernel) (by decide +kernel) ?_
  refine va_putF (D := D) (ci := 5) (v := .ref q_15) (ty := .array .int) (C := RX5) (T := TX5) (N := 16) hx hb hts in_5 tyX5 tyX5_ok nmX5 hown hK hP hD hS 0 rfl rfl 15 (by decide) fl_28 (fun _ h9 => h9) rfl hin rfl (by decide +kernel) rfl rfl (Nat.le_of_ble_eq_true rfl) dX5_init_43 (fun H locs hP hD hS => ?_)
  have hP : va_P D vwCl [(h0, .inr (5, [.null, .null, .ref q_1, .ref q_12, .ref q_13, .ref q_14, .int 0, .int 0, .int 0, .int 0, .int 0, .int 0, .int 0, .int 0, .int 0, .ref q_15])), (q_1, .inr (7, [.ref q_6, .ref q_7, .ref q_8, .ref q_9, .ref q_10, .ref q_11, .int 0, .int 0])), (q_6, .inl (cy 0, 6, .inl (fun _ => 0))), (q_7, .inl (cy 0, 6, .inl (fun _ => 0))), (q_8, .inl (cy 0, 6, .inl (fun _ => 0))), (q_9, .inl (cy 0, 6, .inl (fun _ => 0))), (q_10, .inl (cy 0, 6, .inl (fun _ => 0))), (q_11, .inl (cy 0, 6, .inl (fun _ => 0))), (q_12, .inl (cy 0, 6, .inl (fun _ => 0))), (q_13, .inl (cy 0, 6, .inl (fun _ => 0))), (q_14, .inl (cy 0, 6, .inl (fun _ => 0))), (q_15, .inl (cy 0, 3, .inl (fun _ => 0)))] H := hP
  have hD : va_D A [(h0, .inr (5, [.null, .null, .ref q_1, .ref q_12, .ref q_13, .ref q_14, .int 0, .int 0, .int 0, .int 0, .int 0, .int 0, .int 0, .int 0, .int 0, .ref q_15])), (q_1, .inr (7, [.ref q_6, .ref q_7, .ref q_8, .ref q_9, .ref q_10, .ref q_11, .int 0, .int 0])), (q_6, .inl (cy 0, 6, .inl (fun _ => 0))), (q_7, .inl (cy 0, 6, .inl (fun _ => 0))), (q_8, .inl (cy 0, 6, .inl (fun _ => 0))), (q_9, .inl (cy 0, 6, .inl (fun _ => 0))), (q_10, .inl (cy 0, 6, .inl (fun _ => 0))), (q_11, .inl (cy 0, 6, .inl (fun _ => 0))), (q_12, .inl (cy 0, 6, .inl (fun _ => 0))), (q_13, .inl (cy 0, 6, .inl (fun _ => 0))), (q_14, .inl (cy 0, 6, .inl (fun _ => 0))), (q_15, .inl (cy 0, 3, .inl (fun _ => 0)))] := hD
  have hP9 := hP.sub (ws' := [(h0, .inr (5, [.null, .null, .ref q_1, .ref q_12, .ref q_13, .ref q_14, .int 0, .int 0, .int 0, .int 0, .int 0, .int 0, .int 0, .int 0, .int 0, .ref q_15])), (q_1, .inr (7, [.ref q_6, .ref q_7, .ref q_8, .ref q_9, .ref q_10, .ref q_11, .int 0, .int 0])), (q_6, .inl (cy 0, 6, .inl (fun _ => 0))), (q_7, .inl (cy 0, 6, .inl (fun _ => 0))), (q_8, .inl (cy 0, 6, .inl (fun _ => 0))), (q_9, .inl (cy 0, 6, .inl (fun _ => 0))), (q_10, .inl (cy 0, 6, .inl (fun _ => 0))), (q_11, .inl (cy 0, 6, .inl (fun _ => 0))), (q_12, .inl (cy 0, 6, .inl (fun _ => 0))), (q_13, .inl (cy 0, 6, .inl (fun _ => 0))), (q_14, .inl (cy 0, 6, .inl (fun _ => 0))), (q_15, .inl (cy 0, 3, .inl (fun _ => 0)))]) [0, 1, 2, 3, 4, 5, 6, 7, 8, 9, 10, 11] rfl
  have hD9 := hD.sub (ws' := [(h0, .inr (5, [.null, .null, .ref q_1, .ref q_12, .ref q_13, .ref q_14, .int 0, .int 0, .int 0, .int 0, .int 0, .int 0, .int 0, .int 0, .int 0, .ref q_15])), (q_1, .inr (7, [.ref q_6, .ref q_7, .ref q_8, .ref q_9, .ref q_10, .ref q_11, .int 0, .int 0])), (q_6, .inl (cy 0, 6, .inl (fun _ => 0))), (q_7, .inl (cy 0, 6, .inl (fun _ => 0))), (q_8, .inl (cy 0, 6, .inl (fun _ => 0))), (q_9, .inl (cy 0, 6, .inl (fun _ => 0))), (q_10, .inl (cy 0, 6, .inl (fun _ => 0))), (q_11, .inl (cy 0, 6, .inl (fun _ => 0))), (q_12, .inl (cy 0, 6, .inl (fun _ => 0))), (q_13, .inl (cy 0, 6, .inl (fun _ => 0))), (q_14, .inl (cy 0, 6, .inl (fun _ => 0))), (q_15, .inl (cy 0, 3, .inl (fun _ => 0)))]) [0, 1, 2, 3, 4, 5, 6, 7, 8, 9, 10, 11] (by decide) rfl
  exact W.vret hx hb hr (fun t ht hW => ⟨⟨(), rfl, trivial, q_1, q_12, q_13, q_14, q_15, q_6, q_7, q_8, q_9, q_10, q_11, by rw [ht]; exact hP9, hD9⟩, hS.F ht⟩) hS.2.2 dX5_init_46
set_option maxHeartbeats 4000000 in
set_option maxRecDepth 100000 in
theorem c_X10_init (l : Launch) (D : va_G) (cy : Nat → ClassId) (h0 : Nat) (sz : Nat)  : Met l yX10_init wsX10_init ({ frames := 2, cells := 8, slots := 57, locals := 32 } : Room) (va_Pc [.ref h0] (PW D cy [(h0, .inr (10, [.int 0, .int 0, .int 0, .null]))] sz)) (va_Qv (fun _ : Unit => True) (fun _ t => ∃ (q_1 : Nat) (q_6 : Nat) (q_7 : Nat) (q_8 : Nat) (q_9 : Nat) (q_10 : Nat) (q_11 : Nat) (q_12 : Nat), va_P D vwCl [(h0, .inr (10, [.int 0, .int 0, .int 0, .ref q_1])), (q_1, .inr (6, [.int 0, .int 0, .int 0, .int 0, .int 0, .ref q_6, .int 0, .ref q_7, .ref q_8, .ref q_9, .int 0, .ref q_10, .ref q_11, .ref q_12, .int 0])), (q_6, .inl (cy 0, 12, .inl (fun _ => 0))), (q_7, .inl (cy 0, 4, .inl (fun _ => 0))), (q_8, .inl (cy 0, 4, .inl (fun _ => 0))), (q_9, .inl (cy 0, 4, .inl (fun _ => 0))), (q_10, .inl (cy 0, 6, .inl (fun _ => 0))), (q_11, .inl (cy 0, 6, .inl (fun _ => 0))), (q_12, .inl (cy 0, 6, .inl (fun _ => 0)))] t.heap ∧ va_D (va_A [(h0, .inr (10, [.int 0, .int 0, .int 0, .null]))] sz) [(h0, .inr (10, [.int 0, .int 0, .int 0, .ref q_1])), (q_1, .inr (6, [.int 0, .int 0, .int 0, .int 0, .int 0, .ref q_6, .int 0, .ref q_7, .ref q_8, .ref q_9, .int 0, .ref q_10, .ref q_11, .ref q_12, .int 0])), (q_6, .inl (cy 0, 12, .inl (fun _ => 0))), (q_7, .inl (cy 0, 4, .inl (fun _ => 0))), (q_8, .inl (cy 0, 4, .inl (fun _ => 0))), (q_9, .inl (cy 0, 4, .inl (fun _ => 0))), (q_10, .inl (cy 0, 6, .inl (fun _ => 0))), (q_11, .inl (cy 0, 6, .inl (fun _ => 0))), (q_12, .inl (cy 0, 6, .inl (fun _ => 0)))]) (va_A [(h0, .inr (10, [.int 0, .int 0, .int 0, .null]))] sz)) 8 57 (va_A [(h0, .inr (10, [.int 0, .int 0, .int 0, .null]))] sz) := by
  refine Met.ofW (cc := cX10_init) (maxL := 1) (ret := none) (by decide) rfl ?_
  intro p e s m args below meth c s₁ B hml hv
  obtain ⟨rfl, hsz, hP, hKW, hD0⟩ := hv
  have hK := hKW.1
  have hx := B.exec
  have hb := B.bytes
  have hr := B.returns
  have hts := atoms_spec (ws := wsX10_init) B.pre
  have hown : s.vm.findClass RX10 = some m.cls := findClass_of_methodNamed B.named
  have hlocks := B.notSynchronized
  have hin : meth.name = "<init>" := (name_of_methodNamed B.named B.method).1
  have in_6 : ∀ w ∈ u_ws RX6 TX6 15, w ∈ wsX10_init := by decide +kernel
  have in_10 : ∀ w ∈ u_ws RX10 TX10 4, w ∈ wsX10_init := by decide +kernel
  have hy_0 := hts (.methodLink RX10 3 objectInit) (by decide +kernel)
  have hy_1 := hts (.instanceMethod objectInit) (by decide +kernel)
  have hy_2 := hts (.code objectInit ⟨#[0xb1]⟩ 1 none) (by decide +kernel)
  have hy_3 := hts (.classLink RX10 9 RX6) (by decide +kernel)
  have hy_4 := hts (.instantiable RX6 15) (by decide +kernel)
  have hy_5 := hts (.initialized RX6) (by decide +kernel)
  have hy_6 := hts (.instanceMethod yX6_init) (by decide +kernel)
  have fl_12 := hts (.fieldLink RX10 12 "ShoalClaims$Words" "trial" "LShoalClaims$Sea;") (by decide +kernel)
  subst hsz
  have hD := hD0.self (sz := s.heap.size)
  generalize hAe : va_A [(h0, .inr (10, [.int 0, .int 0, .int 0, .null]))] s.heap.size = A at hD ⊢
  have hA : ∀ q : Nat, s.heap.size ≤ q → A q := fun q h => by rw [← hAe]; exact Or.inr h
  have hS : va_S A s.heap s.heap [] := va_S.rf
  have hP : va_P D vwCl [(h0, .inr (10, [.int 0, .int 0, .int 0, .null]))] s.heap := hP
  have hl := lv_entry ([.ref h0]) (n := 1) (Nat.le_of_ble_eq_true rfl)
  rw [lg_entry_eq]
  generalize (lg_sl ([.ref h0]) ++ List.replicate (1 - (lg_sl ([.ref h0])).length) Slot.unset).toArray = ls at hl ⊢
  have hl : lv_has ls 1 [(0, .ref h0)] := hl
  refine lv_aload_n hx hb dX10_init_0 rfl (lv_at hl 0 rfl) ?_
  refine W.objInit hx hb hown hy_0 hy_1 hy_2 rfl (by rw [hml]; exact hl.1) rfl dX10_init_1 (Nat.le_of_ble_eq_true rfl) (Nat.le_of_ble_eq_true rfl) ?_
  refine W.eq (g2 := F0 m 4 ls []) rfl ?_
  refine lv_aload_n hx hb dX10_init_4 rfl (lv_at hl 0 rfl) ?_
  refine va_new (ci := 6) (fs := [.int 0, .int 0, .int 0, .int 0, .int 0, .null, .int 0, .null, .null, .null, .int 0, .null, .null, .null, .int 0]) (C := RX6) (T := TX6) (N := 15) hx hb hts in_6 tyX6 tyX6_ok hown hy_3 hy_4 hy_5 hK hP hD hS hA rfl (by decide +kernel) (by decide +kernel) (by decide +kernel) dX10_init_5 (fun q_1 H hP hD hS => ?_)
  have hP : va_P D vwCl [(h0, .inr (10, [.int 0, .int 0, .int 0, .null])), (q_1, .inr (6, [.int 0, .int 0, .int 0, .int 0, .int 0, .null, .int 0, .null, .null, .null, .int 0, .null, .null, .null, .int 0]))] H := hP
  have hD : va_D A [(h0, .inr (10, [.int 0, .int 0, .int 0, .null])), (q_1, .inr (6, [.int 0, .int 0, .int 0, .int 0, .int 0, .null, .int 0, .null, .null, .null, .int 0, .null, .null, .null, .int 0]))] := hD
  refine W.widen (k := 1) (n := 15) (by decide +kernel) (by decide +kernel) ?_
  refine lv_dup hx hb dX10_init_8 rfl ?_
  have hPc_2 := hP.sub (ws' := [(q_1, .inr (6, [.int 0, .int 0, .int 0, .int 0, .int 0, .null, .int 0, .null, .null, .null, .int 0, .null, .null, .null, .int 0]))]) [1] rfl
  have hDc_3 := hD.sub (ws' := [(q_1, .inr (6, [.int 0, .int 0, .int 0, .int 0, .int 0, .null, .int 0, .null, .null, .null, .int 0, .null, .null, .null, .int 0]))]) [1] (by decide) rfl
  have hFc_4 := va_free (wc := [(q_1, .inr (6, [.int 0, .int 0, .int 0, .int 0, .int 0, .null, .int 0, .null, .null, .null, .int 0, .null, .null, .null, .int 0]))]) hD hS hA [1] rfl
  refine va_callv (va_runIN (As := []) (rest := [.ref q_1, .ref h0]) ⟨hx, hb, hml, hown, hts⟩ (c_X6_init l D cy q_1 H.size) ⟨va_cnB 0 hts ggX10_init_X6_init rfl rfl rfl hKW.2.2.2.2.2.1 hy_5 (by decide +kernel) ⟨Nat.le_of_ble_eq_true rfl, Nat.le_of_ble_eq_true rfl⟩, rfl, hy_6⟩ ⟨pwB, fun U hU hW => ⟨rfl, PW.of hU hW hKW hPc_2 hDc_3⟩⟩ rfl rfl hl.1 rfl (lv_room (Nat.le_of_ble_eq_true rfl)) dX10_init_9 ⟨by decide +kernel, by decide +kernel⟩) hS (fun q _ h => hFc_4 q h) hFc_4 (fun u t H1 locs ht hvm hw_5 hB hz1 hk1 hS => ?_)
  obtain ⟨q_6, q_7, q_8, q_9, q_10, q_11, q_12, hP1, hD1⟩ := hB
  rw [ht] at hP1
  obtain ⟨hP, hD⟩ := va_join (wr := [(h0, .inr (10, [.int 0, .int 0, .int 0, .null]))]) (w1 := [(q_1, .inr (6, [.int 0, .int 0, .int 0, .int 0, .int 0, .ref q_6, .int 0, .ref q_7, .ref q_8, .ref q_9, .int 0, .ref q_10, .ref q_11, .ref q_12, .int 0])), (q_6, .inl (cy 0, 12, .inl (fun _ => 0))), (q_7, .inl (cy 0, 4, .inl (fun _ => 0))), (q_8, .inl (cy 0, 4, .inl (fun _ => 0))), (q_9, .inl (cy 0, 4, .inl (fun _ => 0))), (q_10, .inl (cy 0, 6, .inl (fun _ => 0))), (q_11, .inl (cy 0, 6, .inl (fun _ => 0))), (q_12, .inl (cy 0, 6, .inl (fun _ => 0)))]) hP hD [1] [0] rfl rfl (by decide) (by decide) hk1 hFc_4 hP1 hD1
  generalize H1 = H at hP hS ⊢
  have hP : va_P D vwCl [(h0, .inr (10, [.int 0, .int 0, .int 0, .null])), (q_1, .inr (6, [.int 0, .int 0, .int 0, .int 0, .int 0, .ref q_6, .int 0, .ref q_7, .ref q_8, .ref q_9, .int 0, .ref q_10, .ref q_11, .ref q_12, .int 0])), (q_6, .inl (cy 0, 12, .inl (fun _ => 0))), (q_7, .inl (cy 0, 4, .inl (fun _ => 0))), (q_8, .inl (cy 0, 4, .inl (fun _ => 0))), (q_9, .inl (cy 0, 4, .inl (fun _ => 0))), (q_10, .inl (cy 0, 6, .inl (fun _ => 0))), (q_11, .inl (cy 0, 6, .inl (fun _ => 0))), (q_12, .inl (cy 0, 6, .inl (fun _ => 0)))] H := hP
  have hD : va_D A [(h0, .inr (10, [.int 0, .int 0, .int 0, .null])), (q_1, .inr (6, [.int 0, .int 0, .int 0, .int 0, .int 0, .ref q_6, .int 0, .ref q_7, .ref q_8, .ref q_9, .int 0, .ref q_10, .ref q_11, .ref q_12, .int 0])), (q_6, .inl (cy 0, 12, .inl (fun _ => 0))), (q_7, .inl (cy 0, 4, .inl (fun _ => 0))), (q_8, .inl (cy 0, 4, .inl (fun _ => 0))), (q_9, .inl (cy 0, 4, .inl (fun _ => 0))), (q_10, .inl (cy 0, 6, .inl (fun _ => 0))), (q_11, .inl (cy 0, 6, .inl (fun _ => 0))), (q_12, .inl (cy 0, 6, .inl (fun _ => 0)))] := hD
  refine W.widen (k := 8) (n := 57) (by decide +kernel) (by decide +kernel) ?_
  refine va_putF (D := D) (ci := 10) (v := .ref q_1) (ty := .object "ShoalClaims$Sea") (C := RX10) (T := TX10) (N := 4) hx hb hts in_10 tyX10 tyX10_ok nmX10 hown hK hP hD hS 0 rfl rfl 3 (by decide) fl_12 (fun _ h9 => h9) rfl hin rfl (by decide +kernel) rfl rfl (Nat.le_of_ble_eq_true rfl) dX10_init_12 (fun H locs hP hD hS => ?_)
  have hP : va_P D vwCl [(h0, .inr (10, [.int 0, .int 0, .int 0, .ref q_1])), (q_1, .inr (6, [.int 0, .int 0, .int 0, .int 0, .int 0, .ref q_6, .int 0, .ref q_7, .ref q_8, .ref q_9, .int 0, .ref q_10, .ref q_11, .ref q_12, .int 0])), (q_6, .inl (cy 0, 12, .inl (fun _ => 0))), (q_7, .inl (cy 0, 4, .inl (fun _ => 0))), (q_8, .inl (cy 0, 4, .inl (fun _ => 0))), (q_9, .inl (cy 0, 4, .inl (fun _ => 0))), (q_10, .inl (cy 0, 6, .inl (fun _ => 0))), (q_11, .inl (cy 0, 6, .inl (fun _ => 0))), (q_12, .inl (cy 0, 6, .inl (fun _ => 0)))] H := hP
  have hD : va_D A [(h0, .inr (10, [.int 0, .int 0, .int 0, .ref q_1])), (q_1, .inr (6, [.int 0, .int 0, .int 0, .int 0, .int 0, .ref q_6, .int 0, .ref q_7, .ref q_8, .ref q_9, .int 0, .ref q_10, .ref q_11, .ref q_12, .int 0])), (q_6, .inl (cy 0, 12, .inl (fun _ => 0))), (q_7, .inl (cy 0, 4, .inl (fun _ => 0))), (q_8, .inl (cy 0, 4, .inl (fun _ => 0))), (q_9, .inl (cy 0, 4, .inl (fun _ => 0))), (q_10, .inl (cy 0, 6, .inl (fun _ => 0))), (q_11, .inl (cy 0, 6, .inl (fun _ => 0))), (q_12, .inl (cy 0, 6, .inl (fun _ => 0)))] := hD
  have hP9 := hP.sub (ws' := [(h0, .inr (10, [.int 0, .int 0, .int 0, .ref q_1])), (q_1, .inr (6, [.int 0, .int 0, .int 0, .int 0, .int 0, .ref q_6, .int 0, .ref q_7, .ref q_8, .ref q_9, .int 0, .ref q_10, .ref q_11, .ref q_12, .int 0])), (q_6, .inl (cy 0, 12, .inl (fun _ => 0))), (q_7, .inl (cy 0, 4, .inl (fun _ => 0))), (q_8, .inl (cy 0, 4, .inl (fun _ => 0))), (q_9, .inl (cy 0, 4, .inl (fun _ => 0))), (q_10, .inl (cy 0, 6, .inl (fun _ => 0))), (q_11, .inl (cy 0, 6, .inl (fun _ => 0))), (q_12, .inl (cy 0, 6, .inl (fun _ => 0)))]) [0, 1, 2, 3, 4, 5, 6, 7, 8] rfl
  have hD9 := hD.sub (ws' := [(h0, .inr (10, [.int 0, .int 0, .int 0, .ref q_1])), (q_1, .inr (6, [.int 0, .int 0, .int 0, .int 0, .int 0, .ref q_6, .int 0, .ref q_7, .ref q_8, .ref q_9, .int 0, .ref q_10, .ref q_11, .ref q_12, .int 0])), (q_6, .inl (cy 0, 12, .inl (fun _ => 0))), (q_7, .inl (cy 0, 4, .inl (fun _ => 0))), (q_8, .inl (cy 0, 4, .inl (fun _ => 0))), (q_9, .inl (cy 0, 4, .inl (fun _ => 0))), (q_10, .inl (cy 0, 6, .inl (fun _ => 0))), (q_11, .inl (cy 0, 6, .inl (fun _ => 0))), (q_12, .inl (cy 0, 6, .inl (fun _ => 0)))]) [0, 1, 2, 3, 4, 5, 6, 7, 8] (by decide) rfl
  exact W.vret hx hb hr (fun t ht hW => ⟨⟨(), rfl, trivial, q_1, q_6, q_7, q_8, q_9, q_10, q_11, q_12, by rw [ht]; exact hP9, hD9⟩, hS.F ht⟩) hS.2.2 dX10_init_15
set_option maxHeartbeats 4000000 in
set_option maxRecDepth 100000 in
theorem c_X0_init (l : Launch) (D : va_G) (cy : Nat → ClassId) (h0 : Nat) (sz : Nat)  : Met l yX0_init wsX0_init ({ frames := 1, cells := 3, slots := 272, locals := 12 } : Room) (va_Pc [.ref h0] (PW D cy [(h0, .inr (0, [.int 0, .int 0, .int 0, .null, .null, .null, .long 0]))] sz)) (va_Qv (fun _ : Unit => True) (fun _ t => ∃ (q_1 : Nat) (q_2 : Nat) (q_3 : Nat), va_P D vwCl [(h0, .inr (0, [.int 0, .int 0, .int 0, .ref q_1, .ref q_2, .ref q_3, .long 0])), (q_1, .inl (cy 0, 128, .inl (fun _ => 0))), (q_2, .inl (cy 0, 128, .inl (fun _ => 0))), (q_3, .inl (cy 0, 16, .inl (fun _ => 0)))] t.heap ∧ va_D (va_A [(h0, .inr (0, [.int 0, .int 0, .int 0, .null, .null, .null, .long 0]))] sz) [(h0, .inr (0, [.int 0, .int 0, .int 0, .ref q_1, .ref q_2, .ref q_3, .long 0])), (q_1, .inl (cy 0, 128, .inl (fun _ => 0))), (q_2, .inl (cy 0, 128, .inl (fun _ => 0))), (q_3, .inl (cy 0, 16, .inl (fun _ => 0)))]) (va_A [(h0, .inr (0, [.int 0, .int 0, .int 0, .null, .null, .null, .long 0]))] sz)) 3 272 (va_A [(h0, .inr (0, [.int 0, .int 0, .int 0, .null, .null, .null, .long 0]))] sz) := by
  refine Met.ofW (cc := cX0_init) (maxL := 1) (ret := none) (by decide) rfl ?_
  intro p e s m args below meth c s₁ B hml hv
  obtain ⟨rfl, hsz, hP, hKW, hD0⟩ := hv
  have hK := hKW.1
  have hx := B.exec
  have hb := B.bytes
  have hr := B.returns
  have hts := atoms_spec (ws := wsX0_init) B.pre
  have hown : s.vm.findClass RX0 = some m.cls := findClass_of_methodNamed B.named
  have hlocks := B.notSynchronized
  have hin : meth.name = "<init>" := (name_of_methodNamed B.named B.method).1
  have in_0 : ∀ w ∈ u_ws RX0 TX0 7, w ∈ wsX0_init := by decide +kernel
  have hy_0 := hts (.methodLink RX0 3 objectInit) (by decide +kernel)
  have hy_1 := hts (.instanceMethod objectInit) (by decide +kernel)
  have hy_2 := hts (.code objectInit ⟨#[0xb1]⟩ 1 none) (by decide +kernel)
  have hy_3 := hts (.arrayClass .int) (by decide +kernel)
  have fl_9 := hts (.fieldLink RX0 9 "ShoalClaims$Choices" "near" "[I") (by decide +kernel)
  have fl_15 := hts (.fieldLink RX0 15 "ShoalClaims$Choices" "witnesses" "[I") (by decide +kernel)
  have fl_18 := hts (.fieldLink RX0 18 "ShoalClaims$Choices" "fishTogether" "[I") (by decide +kernel)
  subst hsz
  have hD := hD0.self (sz := s.heap.size)
  generalize hAe : va_A [(h0, .inr (0, [.int 0, .int 0, .int 0, .null, .null, .null, .long 0]))] s.heap.size = A at hD ⊢
  have hA : ∀ q : Nat, s.heap.size ≤ q → A q := fun q h => by rw [← hAe]; exact Or.inr h
  have hS : va_S A s.heap s.heap [] := va_S.rf
  have hP : va_P D vwCl [(h0, .inr (0, [.int 0, .int 0, .int 0, .null, .null, .null, .long 0]))] s.heap := hP
  have hl := lv_entry ([.ref h0]) (n := 1) (Nat.le_of_ble_eq_true rfl)
  rw [lg_entry_eq]
  generalize (lg_sl ([.ref h0]) ++ List.replicate (1 - (lg_sl ([.ref h0])).length) Slot.unset).toArray = ls at hl ⊢
  have hl : lv_has ls 1 [(0, .ref h0)] := hl
  refine lv_aload_n hx hb dX0_init_0 rfl (lv_at hl 0 rfl) ?_
  refine W.objInit hx hb hown hy_0 hy_1 hy_2 rfl (by rw [hml]; exact hl.1) rfl dX0_init_1 (Nat.le_of_ble_eq_true rfl) (Nat.le_of_ble_eq_true rfl) ?_
  refine W.eq (g2 := F0 m 4 ls []) rfl ?_
  refine lv_aload_n hx hb dX0_init_4 rfl (lv_at hl 0 rfl) ?_
  refine lv_sipush (v := 128) hx hb dX0_init_5 (by decide +kernel) ?_
  refine nw_a (atype := .int) (ty := .int) (cI := cy 0) (n := 128) hx hb hy_3 rfl hK hP hD hS hA 0 rfl rfl 128 (by decide +kernel) (by decide +kernel) (by decide +kernel) (by decide +kernel) (by decide +kernel) dX0_init_8 (fun q_1 H hP hD hS => ?_)
  have hP : va_P D vwCl [(h0, .inr (0, [.int 0, .int 0, .int 0, .null, .null, .null, .long 0])), (q_1, .inl (cy 0, 128, .inl (fun _ => 0)))] H := hP
  have hD : va_D A [(h0, .inr (0, [.int 0, .int 0, .int 0, .null, .null, .null, .long 0])), (q_1, .inl (cy 0, 128, .inl (fun _ => 0)))] := hD
  refine W.widen (k := 1) (n := 128) (by decide +kernel) (by decide +kernel) ?_
  refine va_putF (D := D) (ci := 0) (v := .ref q_1) (ty := .array .int) (C := RX0) (T := TX0) (N := 7) hx hb hts in_0 tyX0 tyX0_ok nmX0 hown hK hP hD hS 0 rfl rfl 3 (by decide) fl_9 (fun _ h9 => h9) rfl hin rfl (by decide +kernel) rfl rfl (Nat.le_of_ble_eq_true rfl) dX0_init_10 (fun H locs hP hD hS => ?_)
  have hP : va_P D vwCl [(h0, .inr (0, [.int 0, .int 0, .int 0, .ref q_1, .null, .null, .long 0])), (q_1, .inl (cy 0, 128, .inl (fun _ => 0)))] H := hP
  have hD : va_D A [(h0, .inr (0, [.int 0, .int 0, .int 0, .ref q_1, .null, .null, .long 0])), (q_1, .inl (cy 0, 128, .inl (fun _ => 0)))] := hD
  refine lv_aload_n hx hb dX0_init_13 rfl (lv_at hl 0 rfl) ?_
  refine lv_sipush (v := 128) hx hb dX0_init_14 (by decide +kernel) ?_
  refine nw_a (atype := .int) (ty := .int) (cI := cy 0) (n := 128) hx hb hy_3 rfl hK hP hD hS hA 0 rfl rfl 128 (by decide +kernel) (by decide +kernel) (by decide +kernel) (by decide +kernel) (by decide +kernel) dX0_init_17 (fun q_2 H hP hD hS => ?_)
  have hP : va_P D vwCl [(h0, .inr (0, [.int 0, .int 0, .int 0, .ref q_1, .null, .null, .long 0])), (q_1, .inl (cy 0, 128, .inl (fun _ => 0))), (q_2, .inl (cy 0, 128, .inl (fun _ => 0)))] H := hP
  have hD : va_D A [(h0, .inr (0, [.int 0, .int 0, .int 0, .ref q_1, .null, .null, .long 0])), (q_1, .inl (cy 0, 128, .inl (fun _ => 0))), (q_2, .inl (cy 0, 128, .inl (fun _ => 0)))] := hD
  refine W.widen (k := 2) (n := 256) (by decide +kernel) (by decide +kernel) ?_
  refine va_putF (D := D) (ci := 0) (v := .ref q_2) (ty := .array .int) (C := RX0) (T := TX0) (N := 7) hx hb hts in_0 tyX0 tyX0_ok nmX0 hown hK hP hD hS 0 rfl rfl 4 (by decide) fl_15 (fun _ h9 => h9) rfl hin rfl (by decide +kernel) rfl rfl (Nat.le_of_ble_eq_true rfl) dX0_init_19 (fun H locs hP hD hS => ?_)
  have hP : va_P D vwCl [(h0, .inr (0, [.int 0, .int 0, .int 0, .ref q_1, .ref q_2, .null, .long 0])), (q_1, .inl (cy 0, 128, .inl (fun _ => 0))), (q_2, .inl (cy 0, 128, .inl (fun _ => 0)))] H := hP
  have hD : va_D A [(h0, .inr (0, [.int 0, .int 0, .int 0, .ref q_1, .ref q_2, .null, .long 0])), (q_1, .inl (cy 0, 128, .inl (fun _ => 0))), (q_2, .inl (cy 0, 128, .inl (fun _ => 0)))] := hD
  refine lv_aload_n hx hb dX0_init_22 rfl (lv_at hl 0 rfl) ?_
  refine lv_bipush (v := 16) hx hb dX0_init_23 (by decide +kernel) ?_
  refine nw_a (atype := .int) (ty := .int) (cI := cy 0) (n := 16) hx hb hy_3 rfl hK hP hD hS hA 0 rfl rfl 16 (by decide +kernel) (by decide +kernel) (by decide +kernel) (by decide +kernel) (by decide +kernel) dX0_init_25 (fun q_3 H hP hD hS => ?_)
  have hP : va_P D vwCl [(h0, .inr (0, [.int 0, .int 0, .int 0, .ref q_1, .ref q_2, .null, .long 0])), (q_1, .inl (cy 0, 128, .inl (fun _ => 0))), (q_2, .inl (cy 0, 128, .inl (fun _ => 0))), (q_3, .inl (cy 0, 16, .inl (fun _ => 0)))] H := hP
  have hD : va_D A [(h0, .inr (0, [.int 0, .int 0, .int 0, .ref q_1, .ref q_2, .null, .long 0])), (q_1, .inl (cy 0, 128, .inl (fun _ => 0))), (q_2, .inl (cy 0, 128, .inl (fun _ => 0))), (q_3, .inl (cy 0, 16, .inl (fun _ => 0)))] := hD
  refine W.widen (k := 3) (n := 272) (by decide +kernel) (by decide +kernel) ?_
  refine va_putF (D := D) (ci := 0) (v := .ref q_3) (ty := .array .int) (C := RX0) (T := TX0) (N := 7) hx hb hts in_0 tyX0 tyX0_ok nmX0 hown hK hP hD hS 0 rfl rfl 5 (by decide) fl_18 (fun _ h9 => h9) rfl hin rfl (by decide +kernel) rfl rfl (Nat.le_of_ble_eq_true rfl) dX0_init_27 (fun H locs hP hD hS => ?_)
  have hP : va_P D vwCl [(h0, .inr (0, [.int 0, .int 0, .int 0, .ref q_1, .ref q_2, .ref q_3, .long 0])), (q_1, .inl (cy 0, 128, .inl (fun _ => 0))), (q_2, .inl (cy 0, 128, .inl (fun _ => 0))), (q_3, .inl (cy 0, 16, .inl (fun _ => 0)))] H := hP
  have hD : va_D A [(h0, .inr (0, [.int 0, .int 0, .int 0, .ref q_1, .ref q_2, .ref q_3, .long 0])), (q_1, .inl (cy 0, 128, .inl (fun _ => 0))), (q_2, .inl (cy 0, 128, .inl (fun _ => 0))), (q_3, .inl (cy 0, 16, .inl (fun _ => 0)))] := hD
  have hP9 := hP.sub (ws' := [(h0, .inr (0, [.int 0, .int 0, .int 0, .ref q_1, .ref q_2, .ref q_3, .long 0])), (q_1, .inl (cy 0, 128, .inl (fun _ => 0))), (q_2, .inl (cy 0, 128, .inl (fun _ => 0))), (q_3, .inl (cy 0, 16, .inl (fun _ => 0)))]) [0, 1, 2, 3] rfl
  have hD9 := hD.sub (ws' := [(h0, .inr (0, [.int 0, .int 0, .int 0, .ref q_1, .ref q_2, .ref q_3, .long 0])), (q_1, .inl (cy 0, 128, .inl (fun _ => 0))), (q_2, .inl (cy 0, 128, .inl (fun _ => 0))), (q_3, .inl (cy 0, 16, .inl (fun _ => 0)))]) [0, 1, 2, 3] (by decide) rfl
  exact W.vret hx hb hr (fun t ht hW => ⟨⟨(), rfl, trivial, q_1, q_2, q_3, by rw [ht]; exact hP9, hD9⟩, hS.F ht⟩) hS.2.2 dX0_init_30
set_option maxHeartbeats 4000000 in
set_option maxRecDepth 100000 in
theorem c_X3_init (l : Launch) (D : va_G) (cy : Nat → ClassId) (h0 : Nat) (sz : Nat)  : Met l yX3_init wsX3_init ({ frames := 1, cells := 6, slots := 629, locals := 12 } : Room) (va_Pc [.ref h0] (PW D cy [(h0, .inr (3, [.null, .null, .null, .null, .null, .null]))] sz)) (va_Qv (fun _ : Unit => True) (fun _ t => ∃ (q_1 : Nat) (q_2 : Nat) (q_3 : Nat) (q_4 : Nat) (q_5 : Nat) (q_6 : Nat), va_P D vwCl [(h0, .inr (3, [.ref q_1, .ref q_2, .ref q_3, .ref q_4, .ref q_5, .ref q_6])), (q_1, .inl (cy 0, 9, .inl (fun _ => 0))), (q_2, .inl (cy 0, 9, .inl (fun _ => 0))), (q_3, .inl (cy 0, 9, .inl (fun _ => 0))), (q_4, .inl (cy 0, 9, .inl (fun _ => 0))), (q_5, .inl (cy 0, 512, .inl (fun _ => 0))), (q_6, .inl (cy 0, 81, .inl (fun _ => 0)))] t.heap ∧ va_D (va_A [(h0, .inr (3, [.null, .null, .null, .null, .null, .null]))] sz) [(h0, .inr (3, [.ref q_1, .ref q_2, .ref q_3, .ref q_4, .ref q_5, .ref q_6])), (q_1, .inl (cy 0, 9, .inl (fun _ => 0))), (q_2, .inl (cy 0, 9, .inl (fun _ => 0))), (q_3, .inl (cy 0, 9, .inl (fun _ => 0))), (q_4, .inl (cy 0, 9, .inl (fun _ => 0))), (q_5, .inl (cy 0, 512, .inl (fun _ => 0))), (q_6, .inl (cy 0, 81, .inl (fun _ => 0)))]) (va_A [(h0, .inr (3, [.null, .null, .null, .null, .null, .null]))] sz)) 6 629 (va_A [(h0, .inr (3, [.null, .null, .null, .null, .null, .null]))] sz) := by
  refine Met.ofW (cc := cX3_init) (maxL := 1) (ret := none) (by decide) rfl ?_
  intro p e s m args below meth c s₁ B hml hv
  obtain ⟨rfl, hsz, hP, hKW, hD0⟩ := hv
  have hK := hKW.1
  have hx := B.exec
  have hb := B.bytes
  have hr := B.returns
  have hts := atoms_spec (ws := wsX3_init) B.pre
  have hown : s.vm.findClass RX3 = some m.cls := findClass_of_methodNamed B.named
  have hlocks := B.notSynchronized
  have hin : meth.name = "<init>" := (name_of_methodNamed B.named B.method).1
  have in_3 : ∀ w ∈ u_ws RX3 TX3 6, w ∈ wsX3_init := by decide +kernel
  have hy_0 := hts (.methodLink RX3 3 objectInit) (by decide +kernel)
  have hy_1 := hts (.instanceMethod objectInit) (by decide +kernel)
  have hy_2 := hts (.code objectInit ⟨#[0xb1]⟩ 1 none) (by decide +kernel)
  have hy_3 := hts (.arrayClass .int) (by decide +kernel)
  have fl_9 := hts (.fieldLink RX3 9 "ShoalClaims$Orders" "earliest" "[I") (by decide +kernel)
  have fl_15 := hts (.fieldLink RX3 15 "ShoalClaims$Orders" "latest" "[I") (by decide +kernel)
  have fl_18 := hts (.fieldLink RX3 18 "ShoalClaims$Orders" "before" "[I") (by decide +kernel)
  have fl_21 := hts (.fieldLink RX3 21 "ShoalClaims$Orders" "firstOrder" "[I") (by decide +kernel)
  have fl_24 := hts (.fieldLink RX3 24 "ShoalClaims$Orders" "ofSet" "[I") (by decide +kernel)
  have fl_27 := hts (.fieldLink RX3 27 "ShoalClaims$Orders" "costOfCouple" "[I") (by decide +kernel)
  subst hsz
  have hD := hD0.self (sz := s.heap.size)
  generalize hAe : va_A [(h0, .inr (3, [.null, .null, .null, .null, .null, .null]))] s.heap.size = A at hD ⊢
  have hA : ∀ q : Nat, s.heap.size ≤ q → A q := fun q h => by rw [← hAe]; exact Or.inr h
  have hS : va_S A s.heap s.heap [] := va_S.rf
  have hP : va_P D vwCl [(h0, .inr (3, [.null, .null, .null, .null, .null, .null]))] s.heap := hP
  have hl := lv_entry ([.ref h0]) (n := 1) (Nat.le_of_ble_eq_true rfl)
  rw [lg_entry_eq]
  generalize (lg_sl ([.ref h0]) ++ List.replicate (1 - (lg_sl ([.ref h0])).length) Slot.unset).toArray = ls at hl ⊢
  have hl : lv_has ls 1 [(0, .ref h0)] := hl
  refine lv_aload_n hx hb dX3_init_0 rfl (lv_at hl 0 rfl) ?_
  refine W.objInit hx hb hown hy_0 hy_1 hy_2 rfl (by rw [hml]; exact hl.1) rfl dX3_init_1 (Nat.le_of_ble_eq_true rfl) (Nat.le_of_ble_eq_true rfl) ?_
  refine W.eq (g2 := F0 m 4 ls []) rfl ?_
  refine lv_aload_n hx hb dX3_init_4 rfl (lv_at hl 0 rfl) ?_
  refine lv_bipush (v := 9) hx hb dX3_init_5 (by decide +kernel) ?_
  refine nw_a (atype := .int) (ty := .int) (cI := cy 0) (n := 9) hx hb hy_3 rfl hK hP hD hS hA 0 rfl rfl 9 (by decide +kernel) (by decide +kernel) (by decide +kernel) (by decide +kernel) (by decide +kernel) dX3_init_7 (fun q_1 H hP hD hS => ?_)
  have hP : va_P D vwCl [(h0, .inr (3, [.null, .null, .null, .null, .null, .null])), (q_1, .inl (cy 0, 9, .inl (fun _ => 0)))] H := hP
  have hD : va_D A [(h0, .inr (3, [.null, .null, .null, .null, .null, .null])), (q_1, .inl (cy 0, 9, .inl (fun _ => 0)))] := hD
  refine W.widen (k := 1) (n := 9) (by decide +kernel) (by decide +kernel) ?_
  refine va_putF (D := D) (ci := 3) (v := .ref q_1) (ty := .array .int) (C := RX3) (T := TX3) (N := 6) hx hb hts in_3 tyX3 tyX3_ok nmX3 hown hK hP hD hS 0 rfl rfl 0 (by decide) fl_9 (fun _ h9 => h9) rfl hin rfl (by decide +kernel) rfl rfl (Nat.le_of_ble_eq_true rfl) dX3_init_9 (fun H locs hP hD hS => ?_)
  have hP : va_P D vwCl [(h0, .inr (3, [.ref q_1, .null, .null, .null, .null, .null])), (q_1, .inl (cy 0, 9, .inl (fun _ => 0)))] H := hP
  have hD : va_D A [(h0, .inr (3, [.ref q_1, .null, .null, .null, .null, .null])), (q_1, .inl (cy 0, 9, .inl (fun _ => 0)))] := hD
  refine lv_aload_n hx hb dX3_init_12 rfl (lv_at hl 0 rfl) ?_
  refine lv_bipush (v := 9) hx hb dX3_init_13 (by decide +kernel) ?_
  refine nw_a (atype := .int) (ty := .int) (cI := cy 0) (n := 9) hx hb hy_3 rfl hK hP hD hS hA 0 rfl rfl 9 (by decide +kernel) (by decide +kernel) (by decide +kernel) (by decide +kernel) (by decide +kernel) dX3_init_15 (fun q_2 H hP hD hS => ?_)
  have hP : va_P D vwCl [(h0, .inr (3, [.ref q_1, .null, .null, .null, .null, .null])), (q_1, .inl (cy 0, 9, .inl (fun _ => 0))), (q_2, .inl (cy 0, 9, .inl (fun _ => 0)))] H := hP
  have hD : va_D A [(h0, .inr (3, [.ref q_1, .null, .null, .null, .null, .null])), (q_1, .inl (cy 0, 9, .inl (fun _ => 0))), (q_2, .inl (cy 0, 9, .inl (fun _ => 0)))] := hD
  refine W.widen (k := 2) (n := 18) (by decide +kernel) (by decide +kernel) ?_
  refine va_putF (D := D) (ci := 3) (v := .ref q_2) (ty := .array .int) (C := RX3) (T := TX3) (N := 6) hx hb hts in_3 tyX3 tyX3_ok nmX3 hown hK hP hD hS 0 rfl rfl 1 (by decide) fl_15 (fun _ h9 => h9) rfl hin rfl (by decide +kernel) rfl rfl (Nat.le_of_ble_eq_true rfl) dX3_init_17 (fun H locs hP hD hS => ?_)
  have hP : va_P D vwCl [(h0, .inr (3, [.ref q_1, .ref q_2, .null, .null, .null, .null])), (q_1, .inl (cy 0, 9, .inl (fun _ => 0))), (q_2, .inl (cy 0, 9, .inl (fun _ => 0)))] H := hP
  have hD : va_D A [(h0, .inr (3, [.ref q_1, .ref q_2, .null, .null, .null, .null])), (q_1, .inl (cy 0, 9, .inl (fun _ => 0))), (q_2, .inl (cy 0, 9, .inl (fun _ => 0)))] := hD
  refine lv_aload_n hx hb dX3_init_20 rfl (lv_at hl 0 rfl) ?_
  refine lv_bipush (v := 9) hx hb dX3_init_21 (by decide +kernel) ?_
  refine nw_a (atype := .int) (ty := .int) (cI := cy 0) (n := 9) hx hb hy_3 rfl hK hP hD hS hA 0 rfl rfl 9 (by decide +kernel) (by decide +kernel) (by decide +kernel) (by decide +kernel) (by decide +kernel) dX3_init_23 (fun q_3 H hP hD hS => ?_)
  have hP : va_P D vwCl [(h0, .inr (3, [.ref q_1, .ref q_2, .null, .null, .null, .null])), (q_1, .inl (cy 0, 9, .inl (fun _ => 0))), (q_2, .inl (cy 0, 9, .inl (fun _ => 0))), (q_3, .inl (cy 0, 9, .inl (fun _ => 0)))] H := hP
  have hD : va_D A [(h0, .inr (3, [.ref q_1, .ref q_2, .null, .null, .null, .null])), (q_1, .inl (cy 0, 9, .inl (fun _ => 0))), (q_2, .inl (cy 0, 9, .inl (fun _ => 0))), (q_3, .inl (cy 0, 9, .inl (fun _ => 0)))] := hD
  refine W.widen (k := 3) (n := 27) (by decide +kernel) (by decide +kernel) ?_
  refine va_putF (D := D) (ci := 3) (v := .ref q_3) (ty := .array .int) (C := RX3) (T := TX3) (N := 6) hx hb hts in_3 tyX3 tyX3_ok nmX3 hown hK hP hD hS 0 rfl rfl 2 (by decide) fl_18 (fun _ h9 => h9) rfl hin rfl (by decide +kernel) rfl rfl (Nat.le_of_ble_eq_true rfl) dX3_init_25 (fun H locs hP hD hS => ?_)
  have hP : va_P D vwCl [(h0, .inr (3, [.ref q_1, .ref q_2, .ref q_3, .null, .null, .null])), (q_1, .inl (cy 0, 9, .inl (fun _ => 0))), (q_2, .inl (cy 0, 9, .inl (fun _ => 0))), (q_3, .inl (cy 0, 9, .inl (fun _ => 0)))] H := hP
  have hD : va_D A [(h0, .inr (3, [.ref q_1, .ref q_2, .ref q_3, .null, .null, .null])), (q_1, .inl (cy 0, 9, .inl (fun _ => 0))), (q_2, .inl (cy 0, 9, .inl (fun _ => 0))), (q_3, .inl (cy 0, 9, .inl (fun _ => 0)))] := hD
  refine lv_aload_n hx hb dX3_init_28 rfl (lv_at hl 0 rfl) ?_
  refine lv_bipush (v := 9) hx hb dX3_init_29 (by decide +kernel) ?_
  refine nw_a (atype := .int) (ty := .int) (cI := cy 0) (n := 9) hx hb hy_3 rfl hK hP hD hS hA 0 rfl rfl 9 (by decide +kernel) (by decide +kernel) (by decide +kernel) (by decide +kernel) (by decide +kernel) dX3_init_31 (fun q_4 H hP hD hS => ?_)
  have hP : va_P D vwCl [(h0, .inr (3, [.ref q_1, .ref q_2, .ref q_3, .null, .null, .null])), (q_1, .inl (cy 0, 9, .inl (fun _ => 0))), (q_2, .inl (cy 0, 9, .inl (fun _ => 0))), (q_3, .inl (cy 0, 9, .inl (fun _ => 0))), (q_4, .inl (cy 0, 9, .inl (fun _ => 0)))] H := hP
  have hD : va_D A [(h0, .inr (3, [.ref q_1, .ref q_2, .ref q_3, .null, .null, .null])), (q_1, .inl (cy 0, 9, .inl (fun _ => 0))), (q_2, .inl (cy 0, 9, .inl (fun _ => 0))), (q_3, .inl (cy 0, 9, .inl (fun _ => 0))), (q_4, .inl (cy 0, 9, .inl (fun _ => 0)))] := hD
  refine W.widen (k := 4) (n := 36) (by decide +kernel) (by decide +kernel) ?_
  refine va_putF (D := D) (ci := 3) (v := .ref q_4) (ty := .array .int) (C := RX3) (T := TX3) (N := 6) hx hb hts in_3 tyX3 tyX3_ok nmX3 hown hK hP hD hS 0 rfl rfl 3 (by decide) fl_21 (fun _ h9 => h9) rfl hin rfl (by decide +kernel) rfl rfl (Nat.le_of_ble_eq_true rfl) dX3_init_33 (fun H locs hP hD hS => ?_)
  have hP : va_P D vwCl [(h0, .inr (3, [.ref q_1, .ref q_2, .ref q_3, .ref q_4, .null, .null])), (q_1, .inl (cy 0, 9, .inl (fun _ => 0))), (q_2, .inl (cy 0, 9, .inl (fun _ => 0))), (q_3, .inl (cy 0, 9, .inl (fun _ => 0))), (q_4, .inl (cy 0, 9, .inl (fun _ => 0)))] H := hP
  have hD : va_D A [(h0, .inr (3, [.ref q_1, .ref q_2, .ref q_3, .ref q_4, .null, .null])), (q_1, .inl (cy 0, 9, .inl (fun _ => 0))), (q_2, .inl (cy 0, 9, .inl (fun _ => 0))), (q_3, .inl (cy 0, 9, .inl (fun _ => 0))), (q_4, .inl (cy 0, 9, .inl (fun _ => 0)))] := hD
  refine lv_aload_n hx hb dX3_init_36 rfl (lv_at hl 0 rfl) ?_
  refine lv_sipush (v := 512) hx hb dX3_init_37 (by decide +kernel) ?_
  refine nw_a (atype := .int) (ty := .int) (cI := cy 0) (n := 512) hx hb hy_3 rfl hK hP hD hS hA 0 rfl rfl 512 (by decide +kernel) (by decide +kernel) (by decide +kernel) (by decide +kernel) (by decide +kernel) dX3_init_40 (fun q_5 H hP hD hS => ?_)
  have hP : va_P D vwCl [(h0, .inr (3, [.ref q_1, .ref q_2, .ref q_3, .ref q_4, .null, .null])), (q_1, .inl (cy 0, 9, .inl (fun _ => 0))), (q_2, .inl (cy 0, 9, .inl (fun _ => 0))), (q_3, .inl (cy 0, 9, .inl (fun _ => 0))), (q_4, .inl (cy 0, 9, .inl (fun _ => 0))), (q_5, .inl (cy 0, 512, .inl (fun _ => 0)))] H := hP
  have hD : va_D A [(h0, .inr (3, [.ref q_1, .ref q_2, .ref q_3, .ref q_4, .null, .null])), (q_1, .inl (cy 0, 9, .inl (fun _ => 0))), (q_2, .inl (cy 0, 9, .inl (fun _ => 0))), (q_3, .inl (cy 0, 9, .inl (fun _ => 0))), (q_4, .inl (cy 0, 9, .inl (fun _ => 0))), (q_5, .inl (cy 0, 512, .inl (fun _ => 0)))] := hD
  refine W.widen (k := 5) (n := 548) (by decide +kernel) (by decide +kernel) ?_
  refine va_putF (D := D) (ci := 3) (v := .ref q_5) (ty := .array .int) (C := RX3) (T := TX3) (N := 6) hx hb hts in_3 tyX3 tyX3_ok nmX3 hown hK hP hD hS 0 rfl rfl 4 (by decide) fl_24 (fun _ h9 => h9) rfl hin rfl (by decide +kernel) rfl rfl (Nat.le_of_ble_eq_true rfl) dX3_init_42 (fun H locs hP hD hS => ?_)
  have hP : va_P D vwCl [(h0, .inr (3, [.ref q_1, .ref q_2, .ref q_3, .ref q_4, .ref q_5, .null])), (q_1, .inl (cy 0, 9, .inl (fun _ => 0))), (q_2, .inl (cy 0, 9, .inl (fun _ => 0))), (q_3, .inl (cy 0, 9, .inl (fun _ => 0))), (q_4, .inl (cy 0, 9, .inl (fun _ => 0))), (q_5, .inl (cy 0, 512, .inl (fun _ => 0)))] H := hP
  have hD : va_D A [(h0, .inr (3, [.ref q_1, .ref q_2, .ref q_3, .ref q_4, .ref q_5, .null])), (q_1, .inl (cy 0, 9, .inl (fun _ => 0))), (q_2, .inl (cy 0, 9, .inl (fun _ => 0))), (q_3, .inl (cy 0, 9, .inl (fun _ => 0))), (q_4, .inl (cy 0, 9, .inl (fun _ => 0))), (q_5, .inl (cy 0, 512, .inl (fun _ => 0)))] := hD
  refine lv_aload_n hx hb dX3_init_45 rfl (lv_at hl 0 rfl) ?_
  refine lv_bipush (v := 81) hx hb dX3_init_46 (by decide +kernel) ?_
  refine nw_a (atype := .int) (ty := .int) (cI := cy 0) (n := 81) hx hb hy_3 rfl hK hP hD hS hA 0 rfl rfl 81 (by decide +kernel) (by decide +kernel) (by decide +kernel) (by decide +kernel) (by decide +kernel) dX3_init_48 (fun q_6 H hP hD hS => ?_)
  have hP : va_P D vwCl [(h0, .inr (3, [.ref q_1, .ref q_2, .ref q_3, .ref q_4, .ref q_5, .null])), (q_1, .inl (cy 0, 9, .inl (fun _ => 0))), (q_2, .inl (cy 0, 9, .inl (fun _ => 0))), (q_3, .inl (cy 0, 9, .inl (fun _ => 0))), (q_4, .inl (cy 0, 9, .inl (fun _ => 0))), (q_5, .inl (cy 0, 512, .inl (fun _ => 0))), (q_6, .inl (cy 0, 81, .inl (fun _ => 0)))] H := hP
  have hD : va_D A [(h0, .inr (3, [.ref q_1, .ref q_2, .ref q_3, .ref q_4, .ref q_5, .null])), (q_1, .inl (cy 0, 9, .inl (fun _ => 0))), (q_2, .inl (cy 0, 9, .inl (fun _ => 0))), (q_3, .inl (cy 0, 9, .inl (fun _ => 0))), (q_4, .inl (cy 0, 9, .inl (fun _ => 0))), (q_5, .inl (cy 0, 512, .inl (fun _ => 0))), (q_6, .inl (cy 0, 81, .inl (fun _ => 0)))] := hD
  refine W.widen (k := 6) (n := 629) (by decide +kernel) (by decide +kernel) ?_
  refine va_putF (D := D) (ci := 3) (v := .ref q_6) (ty := .array .int) (C := RX3) (T := TX3) (N := 6) hx hb hts in_3 tyX3 tyX3_ok nmX3 hown hK hP hD hS 0 rfl rfl 5 (by decide) fl_27 (fun _ h9 => h9) rfl hin rfl (by decide +kernel) rfl rfl (Nat.le_of_ble_eq_true rfl) dX3_init_50 (fun H locs hP hD hS => ?_)
  have hP : va_P D vwCl [(h0, .inr (3, [.ref q_1, .ref q_2, .ref q_3, .ref q_4, .ref q_5, .ref q_6])), (q_1, .inl (cy 0, 9, .inl (fun _ => 0))), (q_2, .inl (cy 0, 9, .inl (fun _ => 0))), (q_3, .inl (cy 0, 9, .inl (fun _ => 0))), (q_4, .inl (cy 0, 9, .inl (fun _ => 0))), (q_5, .inl (cy 0, 512, .inl (fun _ => 0))), (q_6, .inl (cy 0, 81, .inl (fun _ => 0)))] H := hP
  have hD : va_D A [(h0, .inr (3, [.ref q_1, .ref q_2, .ref q_3, .ref q_4, .ref q_5, .ref q_6])), (q_1, .inl (cy 0, 9, .inl (fun _ => 0))), (q_2, .inl (cy 0, 9, .inl (fun _ => 0))), (q_3, .inl (cy 0, 9, .inl (fun _ => 0))), (q_4, .inl (cy 0, 9, .inl (fun _ => 0))), (q_5, .inl (cy 0, 512, .inl (fun _ => 0))), (q_6, .inl (cy 0, 81, .inl (fun _ => 0)))] := hD
  have hP9 := hP.sub (ws' := [(h0, .inr (3, [.ref q_1, .ref q_2, .ref q_3, .ref q_4, .ref q_5, .ref q_6])), (q_1, .inl (cy 0, 9, .inl (fun _ => 0))), (q_2, .inl (cy 0, 9, .inl (fun _ => 0))), (q_3, .inl (cy 0, 9, .inl (fun _ => 0))), (q_4, .inl (cy 0, 9, .inl (fun _ => 0))), (q_5, .inl (cy 0, 512, .inl (fun _ => 0))), (q_6, .inl (cy 0, 81, .inl (fun _ => 0)))]) [0, 1, 2, 3, 4, 5, 6] rfl
  have hD9 := hD.sub (ws' := [(h0, .inr (3, [.ref q_1, .ref q_2, .ref q_3, .ref q_4, .ref q_5, .ref q_6])), (q_1, .inl (cy 0, 9, .inl (fun _ => 0))), (q_2, .inl (cy 0, 9, .inl (fun _ => 0))), (q_3, .inl (cy 0, 9, .inl (fun _ => 0))), (q_4, .inl (cy 0, 9, .inl (fun _ => 0))), (q_5, .inl (cy 0, 512, .inl (fun _ => 0))), (q_6, .inl (cy 0, 81, .inl (fun _ => 0)))]) [0, 1, 2, 3, 4, 5, 6] (by decide) rfl
  exact W.vret hx hb hr (fun t ht hW => ⟨⟨(), rfl, trivial, q_1, q_2, q_3, q_4, q_5, q_6, by rw [ht]; exact hP9, hD9⟩, hS.F ht⟩) hS.2.2 dX3_init_53
