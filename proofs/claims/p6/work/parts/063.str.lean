variable {η : zRn}
/-! String constants: length, charAt -/
def zc_J0_coder_7d493 : List (Nat × Jvm.ClassFile.Instr × Nat) := [(0, .getstatic 38, 3), (3, .ifCond .eq 10, 3), (6, .aload_n 0, 1), (7, .getfield 15, 3), (10, .goto 4, 3), (13, .iconst 1, 1), (14, .ireturn, 1)]
theorem zd_J0_coder_7d493 : ∀ q ∈ zc_J0_coder_7d493, decode cJ0_coder_7d493 q.1 = .ok (q.2.1, q.2.2) := by decide +kernel
set_option maxRecDepth 100000 in
theorem zq_J0_coder_7d493 : lw_tbl[692]? = some (.code yJ0_coder_7d493 cJ0_coder_7d493 1 (some .byte)) := rfl
theorem zw_J0_coder_7d493 : zMV yJ0_coder_7d493 cJ0_coder_7d493 1 (some .byte) 0 := ⟨⟨zTin 114 (by decide +kernel) rfl, zTin 692 zq_J0_coder_7d493 rfl, ⟨by decide, by decide⟩, by decide +kernel⟩, zTin 690 (by decide +kernel) rfl, zTin 691 (by decide +kernel) rfl⟩
theorem zt_J0_coder_7d493_0 : decode cJ0_coder_7d493 0 = .ok (.getstatic 38, 3) := by decide +kernel
theorem zt_J0_coder_7d493_3 : decode cJ0_coder_7d493 3 = .ok (.ifCond .eq 10, 3) := by decide +kernel
theorem zt_J0_coder_7d493_6 : decode cJ0_coder_7d493 6 = .ok (.aload_n 0, 1) := by decide +kernel
theorem zt_J0_coder_7d493_7 : decode cJ0_coder_7d493 7 = .ok (.getfield 15, 3) := by decide +kernel
theorem zt_J0_coder_7d493_10 : decode cJ0_coder_7d493 10 = .ok (.goto 4, 3) := by decide +kernel
theorem zt_J0_coder_7d493_13 : decode cJ0_coder_7d493 13 = .ok (.iconst 1, 1) := by decide +kernel
theorem zt_J0_coder_7d493_14 : decode cJ0_coder_7d493 14 = .ok (.ireturn, 1) := by decide +kernel
def zc_J0_length_8abf5 : List (Nat × Jvm.ClassFile.Instr × Nat) := [(0, .aload_n 0, 1), (1, .getfield 9, 3), (4, .arraylength, 1), (5, .aload_n 0, 1), (6, .invokevirtual 335, 3), (9, .ishr, 1), (10, .ireturn, 1)]
theorem zd_J0_length_8abf5 : ∀ q ∈ zc_J0_length_8abf5, decode cJ0_length_8abf5 q.1 = .ok (q.2.1, q.2.2) := by decide +kernel
set_option maxRecDepth 100000 in
theorem zq_J0_length_8abf5 : lw_tbl[688]? = some (.code yJ0_length_8abf5 cJ0_length_8abf5 1 (some .int)) := rfl
theorem zw_J0_length_8abf5 : zMV yJ0_length_8abf5 cJ0_length_8abf5 1 (some .int) 0 := ⟨⟨zTin 114 (by decide +kernel) rfl, zTin 688 zq_J0_length_8abf5 rfl, ⟨by decide, by decide⟩, by decide +kernel⟩, zTin 686 (by decide +kernel) rfl, zTin 687 (by decide +kernel) rfl⟩
theorem zt_J0_length_8abf5_0 : decode cJ0_length_8abf5 0 = .ok (.aload_n 0, 1) := by decide +kernel
theorem zt_J0_length_8abf5_1 : decode cJ0_length_8abf5 1 = .ok (.getfield 9, 3) := by decide +kernel
theorem zt_J0_length_8abf5_4 : decode cJ0_length_8abf5 4 = .ok (.arraylength, 1) := by decide +kernel
theorem zt_J0_length_8abf5_5 : decode cJ0_length_8abf5 5 = .ok (.aload_n 0, 1) := by decide +kernel
theorem zt_J0_length_8abf5_6 : decode cJ0_length_8abf5 6 = .ok (.invokevirtual 335, 3) := by decide +kernel
theorem zt_J0_length_8abf5_9 : decode cJ0_length_8abf5 9 = .ok (.ishr, 1) := by decide +kernel
theorem zt_J0_length_8abf5_10 : decode cJ0_length_8abf5 10 = .ok (.ireturn, 1) := by decide +kernel
def zc_J0_isLatin1_aae02 : List (Nat × Jvm.ClassFile.Instr × Nat) := [(0, .getstatic 38, 3), (3, .ifCond .eq 14, 3), (6, .aload_n 0, 1), (7, .getfield 15, 3), (10, .ifCond .ne 7, 3), (13, .iconst 1, 1), (14, .goto 4, 3), (17, .iconst 0, 1), (18, .ireturn, 1)]
theorem zd_J0_isLatin1_aae02 : ∀ q ∈ zc_J0_isLatin1_aae02, decode cJ0_isLatin1_aae02 q.1 = .ok (q.2.1, q.2.2) := by decide +kernel
set_option maxRecDepth 100000 in
theorem zq_J0_isLatin1_aae02 : lw_tbl[702]? = some (.code yJ0_isLatin1_aae02 cJ0_isLatin1_aae02 1 (some .boolean)) := rfl
theorem zw_J0_isLatin1_aae02 : zMV yJ0_isLatin1_aae02 cJ0_isLatin1_aae02 1 (some .boolean) 0 := ⟨⟨zTin 114 (by decide +kernel) rfl, zTin 702 zq_J0_isLatin1_aae02 rfl, ⟨by decide, by decide⟩, by decide +kernel⟩, zTin 700 (by decide +kernel) rfl, zTin 701 (by decide +kernel) rfl⟩
theorem zt_J0_isLatin1_aae02_0 : decode cJ0_isLatin1_aae02 0 = .ok (.getstatic 38, 3) := by decide +kernel
theorem zt_J0_isLatin1_aae02_3 : decode cJ0_isLatin1_aae02 3 = .ok (.ifCond .eq 14, 3) := by decide +kernel
theorem zt_J0_isLatin1_aae02_6 : decode cJ0_isLatin1_aae02 6 = .ok (.aload_n 0, 1) := by decide +kernel
theorem zt_J0_isLatin1_aae02_7 : decode cJ0_isLatin1_aae02 7 = .ok (.getfield 15, 3) := by decide +kernel
theorem zt_J0_isLatin1_aae02_10 : decode cJ0_isLatin1_aae02 10 = .ok (.ifCond .ne 7, 3) := by decide +kernel
theorem zt_J0_isLatin1_aae02_13 : decode cJ0_isLatin1_aae02 13 = .ok (.iconst 1, 1) := by decide +kernel
theorem zt_J0_isLatin1_aae02_14 : decode cJ0_isLatin1_aae02 14 = .ok (.goto 4, 3) := by decide +kernel
theorem zt_J0_isLatin1_aae02_17 : decode cJ0_isLatin1_aae02 17 = .ok (.iconst 0, 1) := by decide +kernel
theorem zt_J0_isLatin1_aae02_18 : decode cJ0_isLatin1_aae02 18 = .ok (.ireturn, 1) := by decide +kernel
def zc_J3_checkIndex_8e157 : List (Nat × Jvm.ClassFile.Instr × Nat) := [(0, .iload_n 0, 1), (1, .ifCond .lt 8, 3), (4, .iload_n 0, 1), (5, .iload_n 1, 1), (6, .if_icmp .lt 10, 3), (9, .aload_n 2, 1), (10, .iload_n 0, 1), (11, .iload_n 1, 1), (12, .invokestatic 95, 3), (15, .athrow, 1), (16, .iload_n 0, 1), (17, .ireturn, 1)]
theorem zd_J3_checkIndex_8e157 : ∀ q ∈ zc_J3_checkIndex_8e157, decode cJ3_checkIndex_8e157 q.1 = .ok (q.2.1, q.2.2) := by decide +kernel
set_option maxRecDepth 100000 in
theorem zq_J3_checkIndex_8e157 : lw_tbl[713]? = some (.code yJ3_checkIndex_8e157 cJ3_checkIndex_8e157 3 (some .int)) := rfl
theorem zw_J3_checkIndex_8e157 : zMS yJ3_checkIndex_8e157 cJ3_checkIndex_8e157 3 (some .int) 3 := ⟨⟨zTin 116 (by decide +kernel) rfl, zTin 713 zq_J3_checkIndex_8e157 rfl, ⟨by decide, by decide⟩, by decide +kernel⟩, zTin 712 (by decide +kernel) rfl⟩
theorem zt_J3_checkIndex_8e157_0 : decode cJ3_checkIndex_8e157 0 = .ok (.iload_n 0, 1) := by decide +kernel
theorem zt_J3_checkIndex_8e157_1 : decode cJ3_checkIndex_8e157 1 = .ok (.ifCond .lt 8, 3) := by decide +kernel
theorem zt_J3_checkIndex_8e157_4 : decode cJ3_checkIndex_8e157 4 = .ok (.iload_n 0, 1) := by decide +kernel
theorem zt_J3_checkIndex_8e157_5 : decode cJ3_checkIndex_8e157 5 = .ok (.iload_n 1, 1) := by decide +kernel
theorem zt_J3_checkIndex_8e157_6 : decode cJ3_checkIndex_8e157 6 = .ok (.if_icmp .lt 10, 3) := by decide +kernel
theorem zt_J3_checkIndex_8e157_9 : decode cJ3_checkIndex_8e157 9 = .ok (.aload_n 2, 1) := by decide +kernel
theorem zt_J3_checkIndex_8e157_10 : decode cJ3_checkIndex_8e157 10 = .ok (.iload_n 0, 1) := by decide +kernel
theorem zt_J3_checkIndex_8e157_11 : decode cJ3_checkIndex_8e157 11 = .ok (.iload_n 1, 1) := by decide +kernel
theorem zt_J3_checkIndex_8e157_12 : decode cJ3_checkIndex_8e157 12 = .ok (.invokestatic 95, 3) := by decide +kernel
theorem zt_J3_checkIndex_8e157_15 : decode cJ3_checkIndex_8e157 15 = .ok (.athrow, 1) := by decide +kernel
theorem zt_J3_checkIndex_8e157_16 : decode cJ3_checkIndex_8e157 16 = .ok (.iload_n 0, 1) := by decide +kernel
theorem zt_J3_checkIndex_8e157_17 : decode cJ3_checkIndex_8e157 17 = .ok (.ireturn, 1) := by decide +kernel
def zc_J0_checkIndex_df160 : List (Nat × Jvm.ClassFile.Instr × Nat) := [(0, .iload_n 0, 1), (1, .iload_n 1, 1), (2, .getstatic 1053, 3), (5, .invokestatic 1059, 3), (8, .pop, 1), (9, .return_, 1)]
theorem zd_J0_checkIndex_df160 : ∀ q ∈ zc_J0_checkIndex_df160, decode cJ0_checkIndex_df160 q.1 = .ok (q.2.1, q.2.2) := by decide +kernel
set_option maxRecDepth 100000 in
theorem zq_J0_checkIndex_df160 : lw_tbl[708]? = some (.code yJ0_checkIndex_df160 cJ0_checkIndex_df160 2 none) := rfl
theorem zw_J0_checkIndex_df160 : zMS yJ0_checkIndex_df160 cJ0_checkIndex_df160 2 none 2 := ⟨⟨zTin 114 (by decide +kernel) rfl, zTin 708 zq_J0_checkIndex_df160 rfl, ⟨by decide, by decide⟩, by decide +kernel⟩, zTin 707 (by decide +kernel) rfl⟩
theorem zt_J0_checkIndex_df160_0 : decode cJ0_checkIndex_df160 0 = .ok (.iload_n 0, 1) := by decide +kernel
theorem zt_J0_checkIndex_df160_1 : decode cJ0_checkIndex_df160 1 = .ok (.iload_n 1, 1) := by decide +kernel
theorem zt_J0_checkIndex_df160_2 : decode cJ0_checkIndex_df160 2 = .ok (.getstatic 1053, 3) := by decide +kernel
theorem zt_J0_checkIndex_df160_5 : decode cJ0_checkIndex_df160 5 = .ok (.invokestatic 1059, 3) := by decide +kernel
theorem zt_J0_checkIndex_df160_8 : decode cJ0_checkIndex_df160 8 = .ok (.pop, 1) := by decide +kernel
theorem zt_J0_checkIndex_df160_9 : decode cJ0_checkIndex_df160 9 = .ok (.return_, 1) := by decide +kernel
def zc_J1_charAt_3b067 : List (Nat × Jvm.ClassFile.Instr × Nat) := [(0, .iload_n 1, 1), (1, .aload_n 0, 1), (2, .arraylength, 1), (3, .invokestatic 9, 3), (6, .aload_n 0, 1), (7, .iload_n 1, 1), (8, .baload, 1), (9, .sipush 255, 3), (12, .iand, 1), (13, .i2c, 1), (14, .ireturn, 1)]
theorem zd_J1_charAt_3b067 : ∀ q ∈ zc_J1_charAt_3b067, decode cJ1_charAt_3b067 q.1 = .ok (q.2.1, q.2.2) := by decide +kernel
set_option maxRecDepth 100000 in
theorem zq_J1_charAt_3b067 : lw_tbl[705]? = some (.code yJ1_charAt_3b067 cJ1_charAt_3b067 2 (some .char)) := rfl
theorem zw_J1_charAt_3b067 : zMS yJ1_charAt_3b067 cJ1_charAt_3b067 2 (some .char) 2 := ⟨⟨zTin 115 (by decide +kernel) rfl, zTin 705 zq_J1_charAt_3b067 rfl, ⟨by decide, by decide⟩, by decide +kernel⟩, zTin 704 (by decide +kernel) rfl⟩
theorem zt_J1_charAt_3b067_0 : decode cJ1_charAt_3b067 0 = .ok (.iload_n 1, 1) := by decide +kernel
theorem zt_J1_charAt_3b067_1 : decode cJ1_charAt_3b067 1 = .ok (.aload_n 0, 1) := by decide +kernel
theorem zt_J1_charAt_3b067_2 : decode cJ1_charAt_3b067 2 = .ok (.arraylength, 1) := by decide +kernel
theorem zt_J1_charAt_3b067_3 : decode cJ1_charAt_3b067 3 = .ok (.invokestatic 9, 3) := by decide +kernel
theorem zt_J1_charAt_3b067_6 : decode cJ1_charAt_3b067 6 = .ok (.aload_n 0, 1) := by decide +kernel
theorem zt_J1_charAt_3b067_7 : decode cJ1_charAt_3b067 7 = .ok (.iload_n 1, 1) := by decide +kernel
theorem zt_J1_charAt_3b067_8 : decode cJ1_charAt_3b067 8 = .ok (.baload, 1) := by decide +kernel
theorem zt_J1_charAt_3b067_9 : decode cJ1_charAt_3b067 9 = .ok (.sipush 255, 3) := by decide +kernel
theorem zt_J1_charAt_3b067_12 : decode cJ1_charAt_3b067 12 = .ok (.iand, 1) := by decide +kernel
theorem zt_J1_charAt_3b067_13 : decode cJ1_charAt_3b067 13 = .ok (.i2c, 1) := by decide +kernel
theorem zt_J1_charAt_3b067_14 : decode cJ1_charAt_3b067 14 = .ok (.ireturn, 1) := by decide +kernel
def zc_J0_charAt_5068e : List (Nat × Jvm.ClassFile.Instr × Nat) := [(0, .aload_n 0, 1), (1, .invokevirtual 492, 3), (4, .ifCond .eq 12, 3), (7, .aload_n 0, 1), (8, .getfield 9, 3), (11, .iload_n 1, 1), (12, .invokestatic 495, 3), (15, .ireturn, 1), (16, .aload_n 0, 1), (17, .getfield 9, 3), (20, .iload_n 1, 1), (21, .invokestatic 498, 3), (24, .ireturn, 1)]
theorem zd_J0_charAt_5068e : ∀ q ∈ zc_J0_charAt_5068e, decode cJ0_charAt_5068e q.1 = .ok (q.2.1, q.2.2) := by decide +kernel
set_option maxRecDepth 100000 in
theorem zq_J0_charAt_5068e : lw_tbl[698]? = some (.code yJ0_charAt_5068e cJ0_charAt_5068e 2 (some .char)) := rfl
theorem zw_J0_charAt_5068e : zMV yJ0_charAt_5068e cJ0_charAt_5068e 2 (some .char) 1 := ⟨⟨zTin 114 (by decide +kernel) rfl, zTin 698 zq_J0_charAt_5068e rfl, ⟨by decide, by decide⟩, by decide +kernel⟩, zTin 696 (by decide +kernel) rfl, zTin 697 (by decide +kernel) rfl⟩
theorem zt_J0_charAt_5068e_0 : decode cJ0_charAt_5068e 0 = .ok (.aload_n 0, 1) := by decide +kernel
theorem zt_J0_charAt_5068e_1 : decode cJ0_charAt_5068e 1 = .ok (.invokevirtual 492, 3) := by decide +kernel
theorem zt_J0_charAt_5068e_4 : decode cJ0_charAt_5068e 4 = .ok (.ifCond .eq 12, 3) := by decide +kernel
theorem zt_J0_charAt_5068e_7 : decode cJ0_charAt_5068e 7 = .ok (.aload_n 0, 1) := by decide +kernel
theorem zt_J0_charAt_5068e_8 : decode cJ0_charAt_5068e 8 = .ok (.getfield 9, 3) := by decide +kernel
theorem zt_J0_charAt_5068e_11 : decode cJ0_charAt_5068e 11 = .ok (.iload_n 1, 1) := by decide +kernel
theorem zt_J0_charAt_5068e_12 : decode cJ0_charAt_5068e 12 = .ok (.invokestatic 495, 3) := by decide +kernel
theorem zt_J0_charAt_5068e_15 : decode cJ0_charAt_5068e 15 = .ok (.ireturn, 1) := by decide +kernel
theorem zt_J0_charAt_5068e_16 : decode cJ0_charAt_5068e 16 = .ok (.aload_n 0, 1) := by decide +kernel
theorem zt_J0_charAt_5068e_17 : decode cJ0_charAt_5068e 17 = .ok (.getfield 9, 3) := by decide +kernel
theorem zt_J0_charAt_5068e_20 : decode cJ0_charAt_5068e 20 = .ok (.iload_n 1, 1) := by decide +kernel
theorem zt_J0_charAt_5068e_21 : decode cJ0_charAt_5068e 21 = .ok (.invokestatic 498, 3) := by decide +kernel
theorem zt_J0_charAt_5068e_24 : decode cJ0_charAt_5068e 24 = .ok (.ireturn, 1) := by decide +kernel
theorem zy_38 : Cond.fieldLink RJ0 38 RJ0 "COMPACT_STRINGS" "Z" ∈ zTW := zTin 693 (by decide +kernel) rfl
theorem zy_15 : Cond.fieldLink RJ0 15 RJ0 "coder" "B" ∈ zTW := zTin 1939 (by decide +kernel) rfl
theorem zy_9 : Cond.fieldLink RJ0 9 RJ0 "value" "[B" ∈ zTW := zTin 1938 (by decide +kernel) rfl
theorem zy_1053 : Cond.fieldLink RJ0 1053 RJ3 "SIOOBE_FORMATTER" "Ljava/util/function/BiFunction;" ∈ zTW := zTin 709 (by decide +kernel) rfl
theorem zy_335 : Cond.methodLink RJ0 335 yJ0_coder_7d493 ∈ zTW := zTin 689 (by decide +kernel) rfl
theorem zy_492 : Cond.methodLink RJ0 492 yJ0_isLatin1_aae02 ∈ zTW := zTin 699 (by decide +kernel) rfl
theorem zy_495 : Cond.methodLink RJ0 495 yJ1_charAt_3b067 ∈ zTW := zTin 703 (by decide +kernel) rfl
theorem zy_j9 : Cond.methodLink RJ1 9 yJ0_checkIndex_df160 ∈ zTW := zTin 706 (by decide +kernel) rfl
theorem zy_1059 : Cond.methodLink RJ0 1059 yJ3_checkIndex_8e157 ∈ zTW := zTin 711 (by decide +kernel) rfl
def zSP (L : List Nat) (adK adV : Nat → Nat) (fv : Option Nat) (U : State) : Prop := vk_S 15 zSl zSb adK adV (fun q => q ∈ L) U U.heap ∧ va_Z RJ0 "COMPACT_STRINGS" "Z" (.int 1) (fun q => q ∈ L) U U.heap ∧ va_Z RJ3 "SIOOBE_FORMATTER" "Ljava/util/function/BiFunction;" (va_rf fv) (fun q => q ∈ L) U U.heap
theorem zSP.go {L : List Nat} {adK adV : Nat → Nat} {fv : Option Nat} {s U : State} {H : Heap} {locs : List Loc} (h : zSP L adK adV fv s) (hS : va_S (fun q => q ∈ L) s.heap H locs) (hU : U.heap = H) (hW : s.WarmedH U.vm) : zSP L adK adV fv U := by
  subst hU
  exact ⟨(h.1.moved hW.alike).kept hS.2.1, (h.2.1.moved hW.alike).kept hS.2.1, (h.2.2.moved hW.alike).kept hS.2.1⟩
theorem zSP.blind {L : List Nat} {adK adV : Nat → Nat} {fv : Option Nat} {av : List Value} : FrameBlind (va_Pc av (zSP L adK adV fv)) := fun _ U g mk q => ⟨q.1, q.2.1.moved (u := U) (U := U.calling g mk _) (Vm.Alike.refl U.vm), q.2.2.1.moved (u := U) (U := U.calling g mk _) (Vm.Alike.refl U.vm), q.2.2.2.moved (u := U) (U := U.calling g mk _) (Vm.Alike.refl U.vm)⟩
def zSv : Array Value → State → Outcome → State → Prop := fun _ st o t => o = .returned none ∧ t.heap = st.heap
theorem pc_v0 {p : Program} {l : Launch} {e : Env} {R : Room} {s : State} {m : MethodId} {args : Array Value} {below : List Frame} {meth : Method} {c : Code} {H : Heap} {locs : List Loc} {cells slots : Nat} {Q : State → Prop} {pc : Nat} {ls : Array Slot} {rest st0 : List Value} {a : Array Value} (hr : va_Run p l e R s m args below meth c H locs cells slots 0 0 (F0 m pc ls st0) rest (zSv a) (fun _ => False))
    (kk : W p l e R s m args below meth c H locs cells slots Q (F0 m (pc + 3) ls rest)) : W p l e R s m args below meth c H locs cells slots Q (F0 m pc ls st0) := by
  intro T hT X
  obtain ⟨v, st₀, t, T', L, h0, X', hL, e1, e2, ⟨hv, hh⟩, st⟩ := hr T hT X
  cases hv
  obtain ⟨t2, a1, b1⟩ := kk T' (by rw [e1, hh, h0]) (Stand.forget X' (fun q h => (hL q h).elim))
  exact ⟨t2, st t2 a1, b1⟩
theorem z_good0 {w1 : Cond} (h1 : w1 ∈ zTW) : GoodIn zTW (w1 :: zTW) := by
  intro w hw
  rcases List.mem_cons.mp hw with rfl | hw
  · exact ⟨h1, zTW_good _ h1⟩
  · exact ⟨hw, zTW_good _ hw⟩
theorem z_s1 : ∀ i : Fin 15, (Int32.ofNat (zSl.getD i.val 0)) >>> ((0 : Int32) &&& 31) = Int32.ofNat (zSl.getD i.val 0) := by decide +kernel
theorem z_s2 : ∀ i : Fin 15, ∀ j : Fin 5, (0 ≤ ((((zSb.getD i.val []).getD j.val 0) &&& 255).toUInt32 % 65536).toInt32.toInt ∧ ((((zSb.getD i.val []).getD j.val 0) &&& 255).toUInt32 % 65536).toInt32.toInt ≤ 255) ∧ narrow .char (.int ((((zSb.getD i.val []).getD j.val 0) &&& 255).toUInt32 % 65536).toInt32) = .int ((((zSb.getD i.val []).getD j.val 0) &&& 255).toUInt32 % 65536).toInt32 := by decide +kernel
theorem z_s3 : ∀ i : Fin 15, 3 ≤ zSl.getD i.val 0 ∧ zSl.getD i.val 0 ≤ 5 ∧ (Int32.ofNat (zSl.getD i.val 0)).toInt = (zSl.getD i.val 0 : Int) := by decide +kernel
set_option maxHeartbeats 4000000 in
set_option maxRecDepth 100000 in
theorem zS_coder (l : Launch) (L : List Nat) (adK adV : Nat → Nat) (fv : Option Nat) {i : Nat} (hi : i < 15) : Met l yJ0_coder_7d493 (Cond.code yJ0_coder_7d493 cJ0_coder_7d493 1 (some .byte) :: zTW) ({ frames := 0, cells := 0, slots := 0, locals := 0 } : Room) (va_Pc ([.ref (adK i)]) (zSP L adK adV fv)) (vp_Si (fun r => r = 0)) 0 0 (fun _ => False) := by
  refine Met.ofW (cc := cJ0_coder_7d493) (maxL := 1) (ret := (some .byte)) (by decide +kernel) rfl ?_
  intro p e s m args below meth c s₁ B hml hv
  obtain ⟨rfl, hSP⟩ := hv
  have hE := hSP.1
  have hx := B.exec
  have hb := B.bytes
  have hr := B.returns
  have hts0 := atoms_spec (ws := Cond.code yJ0_coder_7d493 cJ0_coder_7d493 1 (some .byte) :: zTW) B.pre
  have hts : ∀ w ∈ zTW, w.before _ s = true := fun w hw => hts0 w (List.mem_cons_of_mem _ hw)
  have hown : s.vm.findClass RJ0 = some m.cls := findClass_of_methodNamed B.named
  have hlocks := B.notSynchronized
  have hS : va_S (fun q => q ∈ L) s.heap s.heap [] := va_S.rf
  have hl := lv_entry ([.ref (adK i)]) (n := 1) (Nat.le_of_ble_eq_true rfl)
  rw [lg_entry_eq]
  generalize (lg_sl ([.ref (adK i)]) ++ List.replicate (1 - (lg_sl ([.ref (adK i)])).length) Slot.unset).toArray = ls at hl ⊢
  have hl : lv_has ls 1 [(0, .ref (adK i))] := hl
  refine va_gets hx hb hSP.2.1 hS hown (hts _ zy_38) (fun _ h => h) zt_J0_coder_7d493_0 ?_
  refine lv_if_eq (tgt := 13) hx hb zt_J0_coder_7d493_3 (by decide) (fun h => absurd h (by decide)) (fun _ => ?_)
  refine lv_aload_n hx hb zt_J0_coder_7d493_6 rfl (lv_at hl 0 rfl) ?_
  refine vk_getf hx hb (hE.1 i hi).2.1 hS hown (hts _ zy_15) (fun _ h => h) zt_J0_coder_7d493_7 ?_
  refine lv_goto (tgt := 14) hx hb zt_J0_coder_7d493_10 (by decide) ?_
  exact W.zret (v := 0) hx hb hr (by decide +kernel) (fun t ht hW => ⟨0, rfl, rfl, ht⟩) (fun _ h => absurd h List.not_mem_nil) zt_J0_coder_7d493_14
set_option maxHeartbeats 4000000 in
set_option maxRecDepth 100000 in
theorem zS_latin (l : Launch) (L : List Nat) (adK adV : Nat → Nat) (fv : Option Nat) {i : Nat} (hi : i < 15) : Met l yJ0_isLatin1_aae02 (Cond.code yJ0_isLatin1_aae02 cJ0_isLatin1_aae02 1 (some .boolean) :: zTW) ({ frames := 0, cells := 0, slots := 0, locals := 0 } : Room) (va_Pc ([.ref (adK i)]) (zSP L adK adV fv)) (vp_Si (fun r => r = 1)) 0 0 (fun _ => False) := by
  refine Met.ofW (cc := cJ0_isLatin1_aae02) (maxL := 1) (ret := (some .boolean)) (by decide +kernel) rfl ?_
  intro p e s m args below meth c s₁ B hml hv
  obtain ⟨rfl, hSP⟩ := hv
  have hE := hSP.1
  have hx := B.exec
  have hb := B.bytes
  have hr := B.returns
  have hts0 := atoms_spec (ws := Cond.code yJ0_isLatin1_aae02 cJ0_isLatin1_aae02 1 (some .boolean) :: zTW) B.pre
  have hts : ∀ w ∈ zTW, w.before _ s = true := fun w hw => hts0 w (List.mem_cons_of_mem _ hw)
  have hown : s.vm.findClass RJ0 = some m.cls := findClass_of_methodNamed B.named
  have hlocks := B.notSynchronized
  have hS : va_S (fun q => q ∈ L) s.heap s.heap [] := va_S.rf
  have hl := lv_entry ([.ref (adK i)]) (n := 1) (Nat.le_of_ble_eq_true rfl)
  rw [lg_entry_eq]
  generalize (lg_sl ([.ref (adK i)]) ++ List.replicate (1 - (lg_sl ([.ref (adK i)])).length) Slot.unset).toArray = ls at hl ⊢
  have hl : lv_has ls 1 [(0, .ref (adK i))] := hl
  refine va_gets hx hb hSP.2.1 hS hown (hts _ zy_38) (fun _ h => h) zt_J0_isLatin1_aae02_0 ?_
  refine lv_if_eq (tgt := 17) hx hb zt_J0_isLatin1_aae02_3 (by decide) (fun h => absurd h (by decide)) (fun _ => ?_)
  refine lv_aload_n hx hb zt_J0_isLatin1_aae02_6 rfl (lv_at hl 0 rfl) ?_
  refine vk_getf hx hb (hE.1 i hi).2.1 hS hown (hts _ zy_15) (fun _ h => h) zt_J0_isLatin1_aae02_7 ?_
  refine lv_if_ne (tgt := 17) hx hb zt_J0_isLatin1_aae02_10 (by decide) (fun h => absurd rfl h) (fun _ => ?_)
  refine lv_iconst (v := 1) hx hb zt_J0_isLatin1_aae02_13 (by decide +kernel) ?_
  refine lv_goto (tgt := 18) hx hb zt_J0_isLatin1_aae02_14 (by decide) ?_
  exact W.zret (v := 1) hx hb hr (by decide +kernel) (fun t ht hW => ⟨1, rfl, rfl, ht⟩) (fun _ h => absurd h List.not_mem_nil) zt_J0_isLatin1_aae02_18
set_option maxHeartbeats 4000000 in
set_option maxRecDepth 100000 in
theorem zS_length (l : Launch) (L : List Nat) (adK adV : Nat → Nat) (fv : Option Nat) {i : Nat} (hi : i < 15) : Met l yJ0_length_8abf5 (Cond.code yJ0_length_8abf5 cJ0_length_8abf5 1 (some .int) :: zTW) ({ frames := 1, cells := 0, slots := 0, locals := 20 } : Room) (va_Pc ([.ref (adK i)]) (zSP L adK adV fv)) (vp_Si (fun r => r = Int32.ofNat (zSl.getD i 0))) 0 0 (fun _ => False) := by
  refine Met.ofW (cc := cJ0_length_8abf5) (maxL := 1) (ret := (some .int)) (by decide +kernel) rfl ?_
  intro p e s m args below meth c s₁ B hml hv
  obtain ⟨rfl, hSP⟩ := hv
  have hE := hSP.1
  have hx := B.exec
  have hb := B.bytes
  have hr := B.returns
  have hts0 := atoms_spec (ws := Cond.code yJ0_length_8abf5 cJ0_length_8abf5 1 (some .int) :: zTW) B.pre
  have hts : ∀ w ∈ zTW, w.before _ s = true := fun w hw => hts0 w (List.mem_cons_of_mem _ hw)
  have hown : s.vm.findClass RJ0 = some m.cls := findClass_of_methodNamed B.named
  have hlocks := B.notSynchronized
  have hS : va_S (fun q => q ∈ L) s.heap s.heap [] := va_S.rf
  have hl := lv_entry ([.ref (adK i)]) (n := 1) (Nat.le_of_ble_eq_true rfl)
  rw [lg_entry_eq]
  generalize (lg_sl ([.ref (adK i)]) ++ List.replicate (1 - (lg_sl ([.ref (adK i)])).length) Slot.unset).toArray = ls at hl ⊢
  have hl : lv_has ls 1 [(0, .ref (adK i))] := hl
  refine lv_aload_n hx hb zt_J0_length_8abf5_0 rfl (lv_at hl 0 rfl) ?_
  refine vk_getf hx hb (hE.1 i hi).2.2.1 hS hown (hts _ zy_9) (fun _ h => h) zt_J0_length_8abf5_1 ?_
  refine va_tlen (v := Int32.ofNat (zSl.getD i 0)) hx hb (hE.1 i hi).2.2.2 hS rfl zt_J0_length_8abf5_4 ?_
  refine lv_aload_n hx hb zt_J0_length_8abf5_5 rfl (lv_at hl 0 rfl) ?_
  refine pc_i (va_runV (C := RJ0) (n := 0) (As := []) (rest := [.int (Int32.ofNat (zSl.getD i 0))]) (bytes := cJ0_coder_7d493) (maxL := 1) (ret := (some .byte)) ⟨hx, hb, hml, hown, hts0⟩ (zS_coder l L adK adV fv hi) ⟨callB_of _ hts0 (z_good zTW_good zw_J0_coder_7d493.1.2.1) rfl rfl rfl (hts _ zw_J0_coder_7d493.1.1) (hts _ zy_335) ⟨zw_J0_coder_7d493.1.2.2.1.1, zw_J0_coder_7d493.1.2.2.1.2, zw_J0_coder_7d493.1.2.2.2⟩ ⟨by decide, by decide⟩, hts _ zw_J0_coder_7d493.2.1, hts _ zw_J0_coder_7d493.2.2⟩ ⟨zSP.blind, vk_recv hE hi hS, fun U hU hW => ⟨rfl, hSP.go hS hU hW⟩⟩ rfl rfl hl.1 rfl (lv_room (Nat.le_of_ble_eq_true rfl)) zt_J0_length_8abf5_6 ⟨Nat.zero_le _, Nat.zero_le _⟩) (fun r hr0 => ?_)
  subst hr0
  refine lv_ishr hx hb zt_J0_length_8abf5_9 ?_
  rw [z_s1 ⟨i, hi⟩]
  exact W.iret hx hb hr (fun t ht hW => ⟨_, rfl, rfl, ht⟩) (fun _ h => absurd h List.not_mem_nil) zt_J0_length_8abf5_10
set_option maxHeartbeats 4000000 in
set_option maxRecDepth 100000 in
theorem zS_check3 (l : Launch) (L : List Nat) (adK adV : Nat → Nat) (fv : Option Nat) {x n : Int32} (h1 : 0 ≤ x.toInt) (h2 : x.toInt < n.toInt) : Met l yJ3_checkIndex_8e157 (Cond.code yJ3_checkIndex_8e157 cJ3_checkIndex_8e157 3 (some .int) :: zTW) ({ frames := 0, cells := 0, slots := 0, locals := 0 } : Room) (va_Pc ([.int x, .int n, va_rf fv]) (zSP L adK adV fv)) (vp_Si (fun r => r = x)) 0 0 (fun _ => False) := by
  refine Met.ofW (cc := cJ3_checkIndex_8e157) (maxL := 3) (ret := (some .int)) (by decide +kernel) rfl ?_
  intro p e s m args below meth c s₁ B hml hv
  obtain ⟨rfl, hSP⟩ := hv
  have hE := hSP.1
  have hx := B.exec
  have hb := B.bytes
  have hr := B.returns
  have hts0 := atoms_spec (ws := Cond.code yJ3_checkIndex_8e157 cJ3_checkIndex_8e157 3 (some .int) :: zTW) B.pre
  have hts : ∀ w ∈ zTW, w.before _ s = true := fun w hw => hts0 w (List.mem_cons_of_mem _ hw)
  have hown : s.vm.findClass RJ3 = some m.cls := findClass_of_methodNamed B.named
  have hlocks := B.notSynchronized
  have hS : va_S (fun q => q ∈ L) s.heap s.heap [] := va_S.rf
  have hfc : (va_rf fv).category = 1 := by cases fv <;> rfl
  have hfl : lg_sl ([.int x, .int n, va_rf fv]) = [.val (.int x), .val (.int n), .val (va_rf fv)] := by cases fv <;> rfl
  have hl := lv_entry ([.int x, .int n, va_rf fv]) (n := 3) (by rw [hfl]; exact Nat.le_refl 3)
  rw [lg_entry_eq]
  generalize (lg_sl ([.int x, .int n, va_rf fv]) ++ List.replicate (3 - (lg_sl ([.int x, .int n, va_rf fv])).length) Slot.unset).toArray = ls at hl ⊢
  have hl : lv_has ls 3 [(0, .int x), (1, .int n), (2, va_rf fv)] := hl
  refine lv_iload_n hx hb zt_J3_checkIndex_8e157_0 rfl (lv_at hl 0 rfl) ?_
  refine lv_if_lt (tgt := 9) hx hb zt_J3_checkIndex_8e157_1 (by decide) (fun h => absurd (Int32.lt_iff_toInt_lt.mp h) (by have e0 : (0 : Int32).toInt = 0 := rfl; omega)) (fun _ => ?_)
  refine lv_iload_n hx hb zt_J3_checkIndex_8e157_4 rfl (lv_at hl 0 rfl) ?_
  refine lv_iload_n hx hb zt_J3_checkIndex_8e157_5 rfl (lv_at hl 1 rfl) ?_
  refine lv_icmp_lt (tgt := 16) hx hb zt_J3_checkIndex_8e157_6 (by decide) (fun _ => ?_) (fun h => absurd (Int32.lt_iff_toInt_lt.mpr h2) h)
  refine lv_iload_n hx hb zt_J3_checkIndex_8e157_16 rfl (lv_at hl 0 rfl) ?_
  exact W.iret hx hb hr (fun t ht hW => ⟨_, rfl, rfl, ht⟩) (fun _ h => absurd h List.not_mem_nil) zt_J3_checkIndex_8e157_17
set_option maxHeartbeats 4000000 in
set_option maxRecDepth 100000 in
theorem zS_check (l : Launch) (L : List Nat) (adK adV : Nat → Nat) (fv : Option Nat) {x n : Int32} (h1 : 0 ≤ x.toInt) (h2 : x.toInt < n.toInt) : Met l yJ0_checkIndex_df160 (Cond.code yJ0_checkIndex_df160 cJ0_checkIndex_df160 2 none :: zTW) ({ frames := 1, cells := 0, slots := 0, locals := 22 } : Room) (va_Pc ([.int x, .int n]) (zSP L adK adV fv)) zSv 0 0 (fun _ => False) := by
  refine Met.ofW (cc := cJ0_checkIndex_df160) (maxL := 2) (ret := none) (by decide +kernel) rfl ?_
  intro p e s m args below meth c s₁ B hml hv
  obtain ⟨rfl, hSP⟩ := hv
  have hE := hSP.1
  have hx := B.exec
  have hb := B.bytes
  have hr := B.returns
  have hts0 := atoms_spec (ws := Cond.code yJ0_checkIndex_df160 cJ0_checkIndex_df160 2 none :: zTW) B.pre
  have hts : ∀ w ∈ zTW, w.before _ s = true := fun w hw => hts0 w (List.mem_cons_of_mem _ hw)
  have hown : s.vm.findClass RJ0 = some m.cls := findClass_of_methodNamed B.named
  have hlocks := B.notSynchronized
  have hS : va_S (fun q => q ∈ L) s.heap s.heap [] := va_S.rf
  have hl := lv_entry ([.int x, .int n]) (n := 2) (Nat.le_of_ble_eq_true rfl)
  rw [lg_entry_eq]
  generalize (lg_sl ([.int x, .int n]) ++ List.replicate (2 - (lg_sl ([.int x, .int n])).length) Slot.unset).toArray = ls at hl ⊢
  have hl : lv_has ls 2 [(0, .int x), (1, .int n)] := hl
  refine lv_iload_n hx hb zt_J0_checkIndex_df160_0 rfl (lv_at hl 0 rfl) ?_
  refine lv_iload_n hx hb zt_J0_checkIndex_df160_1 rfl (lv_at hl 1 rfl) ?_
  refine va_gets hx hb hSP.2.2 hS hown (hts _ zy_1053) (fun _ h => h) zt_J0_checkIndex_df160_2 ?_
  refine pc_i (va_runS (n := 3) (As := [.int x, .int n, va_rf fv]) (rest := []) (bytes := cJ3_checkIndex_8e157) (maxL := 3) (ret := (some .int)) ⟨hx, hb, hml, hown, hts0⟩ (zS_check3 l L adK adV fv h1 h2) ⟨callB_of _ hts0 (z_good zTW_good zw_J3_checkIndex_8e157.1.2.1) rfl rfl rfl (hts _ zw_J3_checkIndex_8e157.1.1) (hts _ zy_1059) ⟨zw_J3_checkIndex_8e157.1.2.2.1.1, zw_J3_checkIndex_8e157.1.2.2.1.2, zw_J3_checkIndex_8e157.1.2.2.2⟩ ⟨by decide, by decide⟩, hts _ zw_J3_checkIndex_8e157.2⟩ ⟨zSP.blind, fun U hU hW => ⟨rfl, hSP.go hS hU hW⟩⟩ rfl rfl hl.1 rfl (lv_room (Nat.le_of_ble_eq_true rfl)) zt_J0_checkIndex_df160_5 ⟨Nat.zero_le _, Nat.zero_le _⟩) (fun r hr0 => ?_)
  refine lv_pop hx hb zt_J0_checkIndex_df160_8 rfl ?_
  exact W.vret hx hb hr (fun t ht hW => ⟨rfl, ht⟩) (fun _ h => absurd h List.not_mem_nil) zt_J0_checkIndex_df160_9
set_option maxHeartbeats 4000000 in
set_option maxRecDepth 100000 in
theorem zS_char1 (l : Launch) (L : List Nat) (adK adV : Nat → Nat) (fv : Option Nat) {i : Nat} (hi : i < 15) {x : Int32} (h1 : 0 ≤ x.toInt) (h2 : x.toInt < (zSl.getD i 0 : Int)) : Met l yJ1_charAt_3b067 (Cond.code yJ1_charAt_3b067 cJ1_charAt_3b067 2 (some .char) :: zTW) ({ frames := 2, cells := 0, slots := 0, locals := 43 } : Room) (va_Pc ([.ref (adV i), .int x]) (zSP L adK adV fv)) (vp_Si (fun r => 0 ≤ r.toInt ∧ r.toInt ≤ 255)) 0 0 (fun _ => False) := by
  refine Met.ofW (cc := cJ1_charAt_3b067) (maxL := 2) (ret := (some .char)) (by decide +kernel) rfl ?_
  intro p e s m args below meth c s₁ B hml hv
  obtain ⟨rfl, hSP⟩ := hv
  have hE := hSP.1
  have hx := B.exec
  have hb := B.bytes
  have hr := B.returns
  have hts0 := atoms_spec (ws := Cond.code yJ1_charAt_3b067 cJ1_charAt_3b067 2 (some .char) :: zTW) B.pre
  have hts : ∀ w ∈ zTW, w.before _ s = true := fun w hw => hts0 w (List.mem_cons_of_mem _ hw)
  have hown : s.vm.findClass RJ1 = some m.cls := findClass_of_methodNamed B.named
  have hlocks := B.notSynchronized
  have hS : va_S (fun q => q ∈ L) s.heap s.heap [] := va_S.rf
  have hl := lv_entry ([.ref (adV i), .int x]) (n := 2) (Nat.le_of_ble_eq_true rfl)
  rw [lg_entry_eq]
  generalize (lg_sl ([.ref (adV i), .int x]) ++ List.replicate (2 - (lg_sl ([.ref (adV i), .int x])).length) Slot.unset).toArray = ls at hl ⊢
  have hl : lv_has ls 2 [(0, .ref (adV i)), (1, .int x)] := hl
  have hlen := z_s3 ⟨i, hi⟩
  simp only at hlen
  have hv := z_vin (i := x) (n := zSl.getD i 0) h1 h2
  have hch := z_s2 ⟨i, hi⟩ ⟨x.toInt.toNat, by omega⟩
  simp only at hch
  refine lv_iload_n hx hb zt_J1_charAt_3b067_0 rfl (lv_at hl 1 rfl) ?_
  refine lv_aload_n hx hb zt_J1_charAt_3b067_1 rfl (lv_at hl 0 rfl) ?_
  refine va_tlen (v := Int32.ofNat (zSl.getD i 0)) hx hb (hE.1 i hi).2.2.2 hS rfl zt_J1_charAt_3b067_2 ?_
  refine pc_v0 (va_runS (n := 2) (As := [.int x, .int (Int32.ofNat (zSl.getD i 0))]) (rest := []) (bytes := cJ0_checkIndex_df160) (maxL := 2) (ret := none) ⟨hx, hb, hml, hown, hts0⟩ (zS_check l L adK adV fv h1 (by rw [hlen.2.2]; exact h2)) ⟨callB_of _ hts0 (z_good zTW_good zw_J0_checkIndex_df160.1.2.1) rfl rfl rfl (hts _ zw_J0_checkIndex_df160.1.1) (hts _ zy_j9) ⟨zw_J0_checkIndex_df160.1.2.2.1.1, zw_J0_checkIndex_df160.1.2.2.1.2, zw_J0_checkIndex_df160.1.2.2.2⟩ ⟨by decide, by decide⟩, hts _ zw_J0_checkIndex_df160.2⟩ ⟨zSP.blind, fun U hU hW => ⟨rfl, hSP.go hS hU hW⟩⟩ rfl rfl hl.1 rfl (lv_room (Nat.le_of_ble_eq_true rfl)) zt_J1_charAt_3b067_3 ⟨Nat.zero_le _, Nat.zero_le _⟩) ?_
  refine lv_aload_n hx hb zt_J1_charAt_3b067_6 rfl (lv_at hl 0 rfl) ?_
  refine lv_iload_n hx hb zt_J1_charAt_3b067_7 rfl (lv_at hl 1 rfl) ?_
  refine va_tb (v := .int ((zSb.getD i []).getD x.toInt.toNat 0)) hx hb (hE.1 i hi).2.2.2 hS hv.1 (by rw [hv.2]) zt_J1_charAt_3b067_8 ?_
  refine lv_sipush (v := 255) hx hb zt_J1_charAt_3b067_9 (by decide +kernel) ?_
  refine lv_iand hx hb zt_J1_charAt_3b067_12 ?_
  refine lv_i2c hx hb zt_J1_charAt_3b067_13 rfl ?_
  exact W.zret hx hb hr hch.2 (fun t ht hW => ⟨_, rfl, hch.1, ht⟩) (fun _ h => absurd h List.not_mem_nil) zt_J1_charAt_3b067_14
theorem z_nc8 : ∀ k : Fin 256, narrow .char (.int (Int32.ofInt (k.val : Int))) = .int (Int32.ofInt (k.val : Int)) := by decide +kernel
theorem z_nch {x : Int32} (h1 : 0 ≤ x.toInt) (h2 : x.toInt ≤ 255) : narrow .char (.int x) = .int x := by
  have := z_nc8 ⟨x.toInt.toNat, by omega⟩
  simp only at this
  rw [show ((x.toInt.toNat : Nat) : Int) = x.toInt by omega, z_ofi] at this
  exact this
set_option maxHeartbeats 4000000 in
set_option maxRecDepth 100000 in
theorem zS_charAt (l : Launch) (L : List Nat) (adK adV : Nat → Nat) (fv : Option Nat) {i : Nat} (hi : i < 15) {x : Int32} (h1 : 0 ≤ x.toInt) (h2 : x.toInt < (zSl.getD i 0 : Int)) : Met l yJ0_charAt_5068e (Cond.code yJ0_charAt_5068e cJ0_charAt_5068e 2 (some .char) :: zTW) ({ frames := 3, cells := 0, slots := 0, locals := 64 } : Room) (va_Pc ([.ref (adK i), .int x]) (zSP L adK adV fv)) (vp_Si (fun r => 0 ≤ r.toInt ∧ r.toInt ≤ 255)) 0 0 (fun _ => False) := by
  refine Met.ofW (cc := cJ0_charAt_5068e) (maxL := 2) (ret := (some .char)) (by decide +kernel) rfl ?_
  intro p e s m args below meth c s₁ B hml hv
  obtain ⟨rfl, hSP⟩ := hv
  have hE := hSP.1
  have hx := B.exec
  have hb := B.bytes
  have hr := B.returns
  have hts0 := atoms_spec (ws := Cond.code yJ0_charAt_5068e cJ0_charAt_5068e 2 (some .char) :: zTW) B.pre
  have hts : ∀ w ∈ zTW, w.before _ s = true := fun w hw => hts0 w (List.mem_cons_of_mem _ hw)
  have hown : s.vm.findClass RJ0 = some m.cls := findClass_of_methodNamed B.named
  have hlocks := B.notSynchronized
  have hS : va_S (fun q => q ∈ L) s.heap s.heap [] := va_S.rf
  have hl := lv_entry ([.ref (adK i), .int x]) (n := 2) (Nat.le_of_ble_eq_true rfl)
  rw [lg_entry_eq]
  generalize (lg_sl ([.ref (adK i), .int x]) ++ List.replicate (2 - (lg_sl ([.ref (adK i), .int x])).length) Slot.unset).toArray = ls at hl ⊢
  have hl : lv_has ls 2 [(0, .ref (adK i)), (1, .int x)] := hl
  refine lv_aload_n hx hb zt_J0_charAt_5068e_0 rfl (lv_at hl 0 rfl) ?_
  refine pc_i (va_runV (C := RJ0) (n := 0) (As := []) (rest := []) (bytes := cJ0_isLatin1_aae02) (maxL := 1) (ret := (some .boolean)) ⟨hx, hb, hml, hown, hts0⟩ (zS_latin l L adK adV fv hi) ⟨callB_of _ hts0 (z_good zTW_good zw_J0_isLatin1_aae02.1.2.1) rfl rfl rfl (hts _ zw_J0_isLatin1_aae02.1.1) (hts _ zy_492) ⟨zw_J0_isLatin1_aae02.1.2.2.1.1, zw_J0_isLatin1_aae02.1.2.2.1.2, zw_J0_isLatin1_aae02.1.2.2.2⟩ ⟨by decide, by decide⟩, hts _ zw_J0_isLatin1_aae02.2.1, hts _ zw_J0_isLatin1_aae02.2.2⟩ ⟨zSP.blind, vk_recv hE hi hS, fun U hU hW => ⟨rfl, hSP.go hS hU hW⟩⟩ rfl rfl hl.1 rfl (lv_room (Nat.le_of_ble_eq_true rfl)) zt_J0_charAt_5068e_1 ⟨Nat.zero_le _, Nat.zero_le _⟩) (fun r hr0 => ?_)
  subst hr0
  refine lv_if_eq (tgt := 16) hx hb zt_J0_charAt_5068e_4 (by decide) (fun h => absurd h (by decide)) (fun _ => ?_)
  refine lv_aload_n hx hb zt_J0_charAt_5068e_7 rfl (lv_at hl 0 rfl) ?_
  refine vk_getf hx hb (hE.1 i hi).2.2.1 hS hown (hts _ zy_9) (fun _ h => h) zt_J0_charAt_5068e_8 ?_
  refine lv_iload_n hx hb zt_J0_charAt_5068e_11 rfl (lv_at hl 1 rfl) ?_
  refine pc_i (va_runS (n := 2) (As := [.ref (adV i), .int x]) (rest := []) (bytes := cJ1_charAt_3b067) (maxL := 2) (ret := (some .char)) ⟨hx, hb, hml, hown, hts0⟩ (zS_char1 l L adK adV fv hi h1 h2) ⟨callB_of _ hts0 (z_good zTW_good zw_J1_charAt_3b067.1.2.1) rfl rfl rfl (hts _ zw_J1_charAt_3b067.1.1) (hts _ zy_495) ⟨zw_J1_charAt_3b067.1.2.2.1.1, zw_J1_charAt_3b067.1.2.2.1.2, zw_J1_charAt_3b067.1.2.2.2⟩ ⟨by decide, by decide⟩, hts _ zw_J1_charAt_3b067.2⟩ ⟨zSP.blind, fun U hU hW => ⟨rfl, hSP.go hS hU hW⟩⟩ rfl rfl hl.1 rfl (lv_room (Nat.le_of_ble_eq_true rfl)) zt_J0_charAt_5068e_12 ⟨Nat.zero_le _, Nat.zero_le _⟩) (fun r hr0 => ?_)
  exact W.zret hx hb hr (z_nch hr0.1 hr0.2) (fun t ht hW => ⟨_, rfl, hr0, ht⟩) (fun _ h => absurd h List.not_mem_nil) zt_J0_charAt_5068e_15
/-- the steps -/
def zo_str (k : Nat) (as : zAS) : Option zAS := some (as.1 ++ [(0, 2147483647)], as.2.1, (k + 2, as.1.length, 0) :: as.2.2.1, as.2.2.2)
def zo_sln (as : zAS) : Option zAS := match as.2.2.1 with
  | a :: st => if (decide (zKs 3 + 2 ≤ a.1) && decide (a.1 ≤ zKs 5 + 2) && znn as.1 a && decide (as.1[0]? = some (0, 0)) && decide ((st.map (fun a => if a.1 = 1 then 2 else 1)).sum ≤ 8)) = true then some (as.1, as.2.1, (0, 0, ((a.1 - 2 - zKs 0 : Nat) : Int)) :: st, as.2.2.2) else none
  | [] => none
def zo_sch (as : zAS) : Option zAS := match as.2.2.1 with
  | b :: a :: st => (match ziv as.1 b with
    | some q => if (decide (zKs 3 + 2 ≤ a.1) && decide (a.1 ≤ zKs 5 + 2) && znn as.1 a && decide (b.1 = 0) && decide (0 ≤ q.1) && decide (q.2 < ((a.1 - 2 - zKs 0 : Nat) : Int)) && decide ((st.map (fun a => if a.1 = 1 then 2 else 1)).sum ≤ 8)) = true then some (as.1 ++ [(0, 255)], as.2.1, (0, as.1.length, 0) :: st, as.2.2.2) else none
    | none => none)
  | _ => none
theorem z_dr (k a : Nat) : zdec η (k + 2) (a : Int) = .ref (η.1 a) := by
  unfold zdec zrf
  simp only
  rw [if_neg (by omega), Int.toNat_natCast]
  rfl
section ZSR
variable {kds : List zKD} {cl : List vw_C} {tyf : (Nat → ClassId) → List (ClassId × FieldType)} {l : Launch} {cc : ByteArray} {nL fr lo : Nat} {eff : List (Nat × Nat × Nat)}
theorem z_spstr {pc idx i : Nat} (hi : i < 15) (hx : zSi.getD i 0 = idx) (hd : decode cc pc = .ok (.ldc idx, 2)) : zSpok kds cl zTW zKP tyf l RX4 cc nL fr lo eff (pc, 2, zo_str (zKs (zSl.getD i 0))) := by
  intro η D cy L Θ h0 p e R s m args below meth c Q σA as as' hexec hb hml hown hts hK hKa hT hnd hfr hlo hf k
  simp only at hf k
  obtain ⟨-, tb, adK, adV, cK, fv, -, -, hR, -, -, hΘ, -⟩ := hK
  unfold zo_str at hf
  cases hf
  refine zgo_push k (fun σ h H locs ls g => ⟨g.2.2.2.1, (cK i : Int), by omega, ?_, Or.inr ⟨by omega, by rw [Int.toNat_natCast]; exact (hΘ i hi).1⟩, fun w => ?_⟩)
  · have := (hΘ i hi).2.1
    simp only
    omega
  · rw [z_dr, (hΘ i hi).2.2] at w
    subst hx
    exact va_ldcS hexec hb hown (hR i hi) hd w
theorem z_spsln {pc idx : Nat} (hd : decode cc pc = .ok (.invokevirtual idx, 3)) (hlk : Cond.methodLink RX4 idx yJ0_length_8abf5 ∈ zTW) (h5 : 2 ≤ fr) (h6 : 40 ≤ lo) : zSpok kds cl zTW zKP tyf l RX4 cc nL fr lo eff (pc, 3, zo_sln) := by
  intro η D cy L Θ h0 p e R s m args below meth c Q σA as as' hexec hb hml hown hts hK hKa hT hnd hfr hlo hf k
  simp only at hf k
  obtain ⟨-, tb, adK, adV, cK, fv, -, hE, -, hC, hF, hΘ0, hΘ⟩ := hK
  unfold zo_sln at hf
  split at hf
  · rename_i a st hs
    split at hf
    · rename_i hc
      simp only [Bool.and_eq_true, decide_eq_true_eq] at hc
      obtain ⟨⟨⟨⟨c1, c2⟩, c3⟩, c4⟩, c5⟩ := hc
      cases hf
      refine zgo_stk k (fun σ h H locs ls g => ?_)
      have gS := g.2.2.2.1
      have gF := g.2.2.2.2.2.2.2.1
      rw [hs] at gS ⊢
      have z0 : zKs 3 = zKs 0 + 3 := rfl
      have z5 : zKs 5 = zKs 0 + 5 := rfl
      have zk : ∀ n, zKs n = zKs 0 + n := fun n => by unfold zKs; omega
      obtain ⟨ea, na, Θa⟩ := z_nnr (kk := a.1 - 2) c3 g.1 (gS a List.mem_cons_self) (by omega)
      obtain ⟨i, hi, ei, el⟩ := hΘ _ (a.1 - 2 - zKs 0) (by omega) (by omega) (by rw [Θa, zk]; congr 1; omega)
      refine ⟨fun q hq => ?_, fun w => ?_⟩
      · rcases List.mem_cons.mp hq with rfl | hq
        · exact z_cg g.1 c4 ⟨by omega, by omega⟩
        · exact gS q (List.mem_cons_of_mem _ hq)
      · rw [List.map_cons, z_cv g.1 c4] at w
        rw [List.map_cons, ea, ← ei, (hΘ0 i hi).2.2]
        have hSP : zSP L adK adV fv s := ⟨hE, hC, hF⟩
        refine pc_i (va_runV (C := RJ0) (n := 0) (As := []) (rest := st.map (zvo η σ)) (bytes := cJ0_length_8abf5) (maxL := 1) (ret := some .int) ⟨hexec, hb, hml, hown, hts⟩ (zS_length l L adK adV fv hi) ⟨callB_of _ hts (z_good0 zw_J0_length_8abf5.1.2.1) rfl rfl rfl (hts _ zw_J0_length_8abf5.1.1) (hts _ hlk) ⟨zw_J0_length_8abf5.1.2.2.1.1, zw_J0_length_8abf5.1.2.2.1.2, zw_J0_length_8abf5.1.2.2.2⟩ ⟨by rw [hfr]; exact h5, by rw [hlo]; exact h6⟩, hts _ zw_J0_length_8abf5.2.1, hts _ zw_J0_length_8abf5.2.2⟩ ⟨zSP.blind, vk_recv hE hi gF, fun U hU hW => ⟨rfl, hSP.go gF hU hW⟩⟩ rfl rfl g.2.2.1.1 rfl ?_ hd ⟨Nat.zero_le _, Nat.zero_le _⟩) (fun r hr0 => ?_)
        · have := z_cats (η := η) (σ := σ) (st := st)
          rw [← this] at c5
          simpa using c5
        · subst hr0
          have h3 := z_s3 ⟨i, hi⟩
          simp only at h3
          rw [← el] at w
          have e2 : zdec η 0 ((zSl.getD i 0 : Nat) : Int) = .int (Int32.ofNat (zSl.getD i 0)) := by
            rw [← h3.2.2]
            exact z_d32 _
          rw [e2] at w
          exact w
    · cases hf
  · cases hf
theorem z_spsch {pc idx : Nat} (hd : decode cc pc = .ok (.invokevirtual idx, 3)) (hlk : Cond.methodLink RX4 idx yJ0_charAt_5068e ∈ zTW) (h5 : 4 ≤ fr) (h6 : 85 ≤ lo) : zSpok kds cl zTW zKP tyf l RX4 cc nL fr lo eff (pc, 3, zo_sch) := by
  intro η D cy L Θ h0 p e R s m args below meth c Q σA as as' hexec hb hml hown hts hK hKa hT hnd hfr hlo hf k
  simp only at hf k
  obtain ⟨-, tb, adK, adV, cK, fv, -, hE, -, hC, hF, hΘ0, hΘ⟩ := hK
  unfold zo_sch at hf
  split at hf
  · rename_i b a st hs
    split at hf
    · rename_i q hq
      split at hf
      · rename_i hc
        simp only [Bool.and_eq_true, decide_eq_true_eq] at hc
        obtain ⟨⟨⟨⟨⟨⟨c1, c2⟩, c3⟩, c4⟩, c5⟩, c6⟩, c7⟩ := hc
        cases hf
        intro τ h H locs ls g
        have gS := g.2.2.2.1
        have gF := g.2.2.2.2.2.2.2.1
        rw [hs] at gS ⊢
        have z0 : zKs 3 = zKs 0 + 3 := rfl
        have z5 : zKs 5 = zKs 0 + 5 := rfl
        have zk : ∀ n, zKs n = zKs 0 + n := fun n => by unfold zKs; omega
        obtain ⟨ea, na, Θa⟩ := z_nnr (kk := a.1 - 2) c3 g.1 (gS a (List.mem_cons_of_mem _ List.mem_cons_self)) (by omega)
        obtain ⟨i, hi, ei, el⟩ := hΘ _ (a.1 - 2 - zKs 0) (by omega) (by omega) (by rw [Θa, zk]; congr 1; omega)
        obtain ⟨x, ex, hx⟩ := z_ci (gS b List.mem_cons_self) c4
        have bx := z_iv g.1 hq
        rw [← hx] at bx
        have hSP : zSP L adK adV fv s := ⟨hE, hC, hF⟩
        have hx2 : x.toInt < (zSl.getD i 0 : Int) := by omega
        have hst : ∀ q ∈ st, zga Θ (σA ++ τ) q := fun q hq => gS q (List.mem_cons_of_mem _ (List.mem_cons_of_mem _ hq))
        rw [List.map_cons, List.map_cons, ex, ea, ← ei, (hΘ0 i hi).2.2]
        refine pc_i (va_runV (C := RJ0) (n := 1) (As := [.int x]) (rest := st.map (zvo η (σA ++ τ))) (bytes := cJ0_charAt_5068e) (maxL := 2) (ret := some .char) ⟨hexec, hb, hml, hown, hts⟩ (zS_charAt l L adK adV fv hi (by omega) hx2) ⟨callB_of _ hts (z_good0 zw_J0_charAt_5068e.1.2.1) rfl rfl rfl (hts _ zw_J0_charAt_5068e.1.1) (hts _ hlk) ⟨zw_J0_charAt_5068e.1.2.2.1.1, zw_J0_charAt_5068e.1.2.2.1.2, zw_J0_charAt_5068e.1.2.2.2⟩ ⟨by rw [hfr]; exact h5, by rw [hlo]; exact h6⟩, hts _ zw_J0_charAt_5068e.2.1, hts _ zw_J0_charAt_5068e.2.2⟩ ⟨zSP.blind, vk_recv hE hi gF, fun U hU hW => ⟨rfl, hSP.go gF hU hW⟩⟩ rfl rfl g.2.2.1.1 rfl ?_ hd ⟨Nat.zero_le _, Nat.zero_le _⟩) (fun r hr0 => ?_)
        · have := z_cats (η := η) (σ := σA ++ τ) (st := st)
          rw [← this] at c7
          simpa using c7
        · have g' := zG_push g hst (q := (0, 255)) (t := 0) (x := r.toInt) hr0.1 hr0.2 ⟨z_lo _, z_hi _⟩
          rw [List.append_assoc] at g'
          have w := k (τ ++ [r.toInt]) h H locs ls g'
          simp only [List.map_cons, ← List.append_assoc] at w
          rw [z_vn g.1, z_st hst, z_d32] at w
          exact w
      · cases hf
    · cases hf
  · cases hf
end ZSR
