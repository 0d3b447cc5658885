variable {η : zRn}
/-! String constants: length, charAt -/
set_option maxRecDepth 100000 in
theorem zq_J0_coder_7d493 : lw_tbl[692]? = some (.code yJ0_coder_7d493 cJ0_coder_7d493 1 (some .byte)) := rfl
theorem zw_J0_coder_7d493 : zMV yJ0_coder_7d493 cJ0_coder_7d493 1 (some .byte) 0 := ⟨⟨zTin 114 (by decide +kernel) rfl, zTin 692 zq_J0_coder_7d493 rfl, ⟨by decide, by decide⟩, by decide +kernel⟩, zTin 690 (by decide +kernel) rfl, zTin 691 (by decide +kernel) rfl⟩
theorem zt_J0_coder_7d493_0 : decode cJ0_coder_7d493 0 = .ok (.getstatic 38, 3) := by decide +kernel
theorem zt_J0_coder_7d493_3 : decode cJ0_coder_7d493 3 = .ok (.ifCond .eq 10, 3) := by decide +kernel
theorem zt_J0_coder_7d493_6 : decode cJ0_coder_7d493 6 = .ok (.aload_n 0, 1) := by decide +kernel
theorem zt_J0_coder_7d493_7 : decode cJ0_coder_7d493 7 = .ok (.getfield 15, 3) := by decide +kernel
theorem zt_J0_coder_7d493_10 : decode cJ0_coder_7d493 10 = .ok (.goto 4, 3) := by decide +kernel
theorem zt_J0_coder_7d493_14 : decode cJ0_coder_7d493 14 = .ok (.ireturn, 1) := by decide +kernel
set_option maxRecDepth 100000 in
theorem zq_J0_length_8abf5 : lw_tbl[688]? = some (.code yJ0_length_8abf5 cJ0_length_8abf5 1 (some .int)) := rfl
theorem zw_J0_length_8abf5 : zMV yJ0_length_8abf5 cJ0_length_8abf5 1 (some .int) 0 := ⟨⟨zTin 114 (by decide +kernel) rfl, zTin 688 zq_J0_length_8abf5 rfl, ⟨by decide, by decide⟩, by decide +kernel⟩, zTin 686 (by decide +kernel) rfl, zTin 687 (by decide +kernel) rfl⟩
theorem zt_J0_length_8abf5_0 : decode cJ0_length_8abf5 0 = .ok (.aload_n 0, 1) := by decide +kernel
theorem zt_J0_length_8abf5_1 : decode cJ0_length_8abf5 1 = .ok (.getfield 9, 3) := by decide +kernel
theorem zt_J0_length_8abf5_4 : decode cJ0_length_8abf5 4 = .ok (.arraylength, 1) := by decide +kernel
theorem zt_J0_length_8abf5_5 : decode cJ0_length_8abf5 5 = .ok (.aload_n 0, 1) := by decide +kernel
theorem zt_J0_length_8abf5_6 : decode cJ0_length_8abf5 6 = .ok (.invokevirtual 335, 3) := by decide +kernel
theorem zt_J0_length_8abf5_9 : decode cJ0_length_8abf5 9 = .ok (.ishr, 1) := by decide +kernel
theorem zt_J0_length_8abf5_10 : decode cJ0_length_8abf5 10 = .ok (.ireturn, 1) := by decide +kernel
set_option maxRecDepth 100000 in
theorem zq_J0_isLatin1_aae02 : lw_tbl[702]? = some (.code yJ0_isLatin1_aae02 cJ0_isLatin1_aae02 1 (some .boolean)) := rfl
theorem zw_J0_isLatin1_aae02 : zMV yJ0_isLatin1_aae02 cJ0_isLatin1_aae02 1 (some .boolean) 0 := ⟨⟨zTin 114 (by decide +kernel) rfl, zTin 702 zq_J0_isLatin1_aae02 rfl, ⟨by decide, by decide⟩, by decide +kernel⟩, zTin 700 (by decide +kernel) rfl, zTin 701 (by decide +kernel) rfl⟩
theorem zt_J0_isLatin1_aae02_0 : decode cJ0_isLatin1_aae02 0 = .ok (.getstatic 38, 3) := by decide +kernel
theorem zt_J0_isLatin1_aae02_3 : decode cJ0_isLatin1_aae02 3 = .ok (.ifCond .eq 14, 3) := by decide +kernel
theorem zt_J0_isLatin1_aae02_6 : decode cJ0_isLatin1_aae02 6 = .ok (.aload_n 0, 1) := by decide +kernel
theorem zt_J0_isLatin1_aae02_7 : decode cJ0_isLatin1_aae02 7 = .ok (.getfield 15, 3) := by decide +kernel
theorem zt_J0_isLatin1_aae02_10 : decode cJ0_isLatin1_aae02 10 = .ok (.ifCond .ne 7, 3) := by decide +kernel
theorem zt_J0_isLatin1_aae02_13 : decode cJ0_isLatin1_aae02 13 = .ok (.iconst 1, 1) := by decide +kernel
theorem zt_J0_isLatin1_aae02_14 : decode cJ0_isLatin1_aae02 14 = .ok (.goto 4, 3) := by decide +kernel
theorem zt_J0_isLatin1_aae02_18 : decode cJ0_isLatin1_aae02 18 = .ok (.ireturn, 1) := by decide +kernel
set_option maxRecDepth 100000 in
theorem zq_J3_checkIndex_8e157 : lw_tbl[713]? = some (.code yJ3_checkIndex_8e157 cJ3_checkIndex_8e157 3 (some .int)) := rfl
theorem zw_J3_checkIndex_8e157 : zMS yJ3_checkIndex_8e157 cJ3_checkIndex_8e157 3 (some .int) 3 := ⟨⟨zTin 116 (by decide +kernel) rfl, zTin 713 zq_J3_checkIndex_8e157 rfl, ⟨by decide, by decide⟩, by decide +kernel⟩, zTin 712 (by decide +kernel) rfl⟩
theorem zt_J3_checkIndex_8e157_0 : decode cJ3_checkIndex_8e157 0 = .ok (.iload_n 0, 1) := by decide +kernel
theorem zt_J3_checkIndex_8e157_1 : decode cJ3_checkIndex_8e157 1 = .ok (.ifCond .lt 8, 3) := by decide +kernel
theorem zt_J3_checkIndex_8e157_4 : decode cJ3_checkIndex_8e157 4 = .ok (.iload_n 0, 1) := by decide +kernel
theorem zt_J3_checkIndex_8e157_5 : decode cJ3_checkIndex_8e157 5 = .ok (.iload_n 1, 1) := by decide +kernel
theorem zt_J3_checkIndex_8e157_6 : decode cJ3_checkIndex_8e157 6 = .ok (.if_icmp .lt 10, 3) := by decide +kernel
theorem zt_J3_checkIndex_8e157_16 : decode cJ3_checkIndex_8e157 16 = .ok (.iload_n 0, 1) := by decide +kernel
theorem zt_J3_checkIndex_8e157_17 : decode cJ3_checkIndex_8e157 17 = .ok (.ireturn, 1) := by decide +kernel
set_option maxRecDepth 100000 in
theorem zq_J0_checkIndex_df160 : lw_tbl[708]? = some (.code yJ0_checkIndex_df160 cJ0_checkIndex_df160 2 none) := rfl
theorem zw_J0_checkIndex_df160 : zMS yJ0_checkIndex_df160 cJ0_checkIndex_df160 2 none 2 := ⟨⟨zTin 114 (by decide +kernel) rfl, zTin 708 zq_J0_checkIndex_df160 rfl, ⟨by decide, by decide⟩, by decide +kernel⟩, zTin 707 (by decide +kernel) rfl⟩
theorem zt_J0_checkIndex_df160_0 : decode cJ0_checkIndex_df160 0 = .ok (.iload_n 0, 1) := by decide +kernel
theorem zt_J0_checkIndex_df160_1 : decode cJ0_checkIndex_df160 1 = .ok (.iload_n 1, 1) := by decide +kernel
theorem zt_J0_checkIndex_df160_2 : decode cJ0_checkIndex_df160 2 = .ok (.getstatic 1053, 3) := by decide +kernel
theorem zt_J0_checkIndex_df160_5 : decode cJ0_checkIndex_df160 5 = .ok (.invokestatic 1059, 3) := by decide +kernel
theorem zt_J0_checkIndex_df160_8 : decode cJ0_checkIndex_df160 8 = .ok (.pop, 1) := by decide +kernel
theorem zt_J0_checkIndex_df160_9 : decode cJ0_checkIndex_df160 9 = .ok (.return_, 1) := by decide +kernel
set_option maxRecDepth 100000 in
theorem zq_J1_charAt_3b067 : lw_tbl[705]? = some (.code yJ1_charAt_3b067 cJ1_charAt_3b067 2 (some .char)) := rfl
theorem zw_J1_charAt_3b067 : zMS yJ1_charAt_3b067 cJ1_charAt_3b067 2 (some .char) 2 := ⟨⟨zTin 115 (by decide +kernel) rfl, zTin 705 zq_J1_charAt_3b067 rfl, ⟨by decide, by decide⟩, by decide +kernel⟩, zTin 704 (by decide +kernel) rfl⟩
theorem zt_J1_charAt_3b067_0 : decode cJ1_charAt_3b067 0 = .ok (.iload_n 1, 1) := by decide +kernel
theorem zt_J1_charAt_3b067_1 : decode cJ1_charAt_3b067 1 = .ok (.aload_n 0, 1) := by decide +kernel
theorem zt_J1_charAt_3b067_2 : decode cJ1_charAt_3b067 2 = .ok (.arraylength, 1) := by decide +kernel
theorem zt_J1_charAt_3b067_3 : decode cJ1_charAt_3b067 3 = .ok (.invokestatic 9, 3) := by decide +kernel
theorem zt_J1_charAt_3b067_6 : decode cJ1_charAt_3b067 6 = .ok (.aload_n 0, 1) := by decide +kernel
theorem zt_J1_charAt_3b067_7 : decode cJ1_charAt_3b067 7 = .ok (.iload_n 1, 1) := by decide +kernel
theorem zt_J1_charAt_3b067_8 : decode cJ1_charAt_3b067 8 = .ok (.baload, 1) := by decide +kernel
theorem zt_J1_charAt_3b067_9 : decode cJ1_charAt_3b067 9 = .ok (.sipush 255, 3) := by decide +kernel
theorem zt_J1_charAt_3b067_12 : decode cJ1_charAt_3b067 12 = .ok (.iand, 1) := by decide +kernel
theorem zt_J1_charAt_3b067_13 : decode cJ1_charAt_3b067 13 = .ok (.i2c, 1) := by decide +kernel
theorem zt_J1_charAt_3b067_14 : decode cJ1_charAt_3b067 14 = .ok (.ireturn, 1) := by decide +kernel
set_option maxRecDepth 100000 in
theorem zq_J0_charAt_5068e : lw_tbl[698]? = some (.code yJ0_charAt_5068e cJ0_charAt_5068e 2 (some .char)) := rfl
theorem zw_J0_charAt_5068e : zMV yJ0_charAt_5068e cJ0_charAt_5068e 2 (some .char) 1 := ⟨⟨zTin 114 (by decide +kernel) rfl, zTin 698 zq_J0_charAt_5068e rfl, ⟨by decide, by decide⟩, by decide +kernel⟩, zTin 696 (by decide +kernel) rfl, zTin 697 (by decide +kernel) rfl⟩
theorem zt_J0_charAt_5068e_0 : decode cJ0_charAt_5068e 0 = .ok (.aload_n 0, 1) := by decide +kernel
theorem zt_J0_charAt_5068e_1 : decode cJ0_charAt_5068e 1 = .ok (.invokevirtual 492, 3) := by decide +kernel
theorem zt_J0_charAt_5068e_4 : decode cJ0_charAt_5068e 4 = .ok (.ifCond .eq 12, 3) := by decide +kernel
theorem zt_J0_charAt_5068e_7 : decode cJ0_charAt_5068e 7 = .ok (.aload_n 0, 1) := by decide +kernel
theorem zt_J0_charAt_5068e_8 : decode cJ0_charAt_5068e 8 = .ok (.getfield 9, 3) := by decide +kernel
theorem zt_J0_charAt_5068e_11 : decode cJ0_charAt_5068e 11 = .ok (.iload_n 1, 1) := by decide +kernel
theorem zt_J0_charAt_5068e_12 : decode cJ0_charAt_5068e 12 = .ok (.invokestatic 495, 3) := by decide +kernel
theorem zt_J0_charAt_5068e_15 : decode cJ0_charAt_5068e 15 = .ok (.ireturn, 1) := by decide +kernel
theorem zy_38 : Cond.fieldLink RJ0 38 RJ0 "COMPACT_STRINGS" "Z" ∈ zTW := zTin 693 (by decide +kernel) rfl
theorem zy_15 : Cond.fieldLink RJ0 15 RJ0 "coder" "B" ∈ zTW := zTin 1939 (by decide +kernel) rfl
theorem zy_9 : Cond.fieldLink RJ0 9 RJ0 "value" "[B" ∈ zTW := zTin 1938 (by decide +kernel) rfl
theorem zy_1053 : Cond.fieldLink RJ0 1053 RJ3 "SIOOBE_FORMATTER" "Ljava/util/function/BiFunction;" ∈ zTW := zTin 709 (by decide +kernel) rfl
theorem zy_335 : Cond.methodLink RJ0 335 yJ0_coder_7d493 ∈ zTW := zTin 689 (by decide +kernel) rfl
theorem zy_492 : Cond.methodLink RJ0 492 yJ0_isLatin1_aae02 ∈ zTW := zTin 699 (by decide +kernel) rfl
theorem zy_495 : Cond.methodLink RJ0 495 yJ1_charAt_3b067 ∈ zTW := zTin 703 (by decide +kernel) rfl
theorem zy_j9 : Cond.methodLink RJ1 9 yJ0_checkIndex_df160 ∈ zTW := zTin 706 (by decide +kernel) rfl
theorem zy_1059 : Cond.methodLink RJ0 1059 yJ3_checkIndex_8e157 ∈ zTW := zTin 711 (by decide +kernel) rfl
def zSP (L : List Nat) (adK adV : Nat → Nat) (fv : Option Nat) (U : State) : Prop := vk_S 15 zSl zSb adK adV (fun q => q ∈ L) U U.heap ∧ va_Z RJ0 "COMPACT_STRINGS" "Z" (.int 1) (fun q => q ∈ L) U U.heap ∧ va_Z RJ3 "SIOOBE_FORMATTER" "Ljava/util/function/BiFunction;" (va_rf fv) (fun q => q ∈ L) U U.heap
theorem zSP.go {L : List Nat} {adK adV : Nat → Nat} {fv : Option Nat} {s U : State} {H : Heap} {locs : List Loc} (h : zSP L adK adV fv s) (hS : va_S (fun q => q ∈ L) s.heap H locs) (hU : U.heap = H) (hW : s.WarmedH U.vm) : zSP L adK adV fv U := by
  subst hU
  exact ⟨(h.1.moved hW.alike).kept hS.2.1, (h.2.1.moved hW.alike).kept hS.2.1, (h.2.2.moved hW.alike).kept hS.2.1⟩
theorem zSP.blind {L : List Nat} {adK adV : Nat → Nat} {fv : Option Nat} {av : List Value} : FrameBlind (va_Pc av (zSP L adK adV fv)) := fun _ U g mk q => ⟨q.1, q.2.1.moved (u := U) (U := U.calling g mk _) (Vm.Alike.refl U.vm), q.2.2.1.moved (u := U) (U := U.calling g mk _) (Vm.Alike.refl U.vm), q.2.2.2.moved (u := U) (U := U.calling g mk _) (Vm.Alike.refl U.vm)⟩
def zSv : Array Value → State → Outcome → State → Prop := fun _ st o t => o = .returned none ∧ t.heap = st.heap
theorem pc_v0 {p : Program} {l : Launch} {e : Env} {R : Room} {s : State} {m : MethodId} {args : Array Value} {below : List Frame} {meth : Method} {c : Code} {H : Heap} {locs : List Loc} {cells slots : Nat} {Q : State → Prop} {pc : Nat} {ls : Array Slot} {rest st0 : List Value} {a : Array Value} (hr : va_Run p l e R s m args below meth c H locs cells slots 0 0 (F0 m pc ls st0) rest (zSv a) (fun _ => False))
    (kk : W p l e R s m args below meth c H locs cells slots Q (F0 m (pc + 3) ls rest)) : W p l e R s m args below meth c H locs cells slots Q (F0 m pc ls st0) := by
  intro T hT X
  obtain ⟨v, st₀, t, T', L, h0, X', hL, e1, e2, ⟨hv, hh⟩, st⟩ := hr T hT X
  cases hv
  obtain ⟨t2, a1, b1⟩ := kk T' (by rw [e1, hh, h0]) (Stand.forget X' (fun q h => (hL q h).elim))
  exact ⟨t2, st t2 a1, b1⟩
theorem z_good0 {w1 : Cond} (h1 : w1 ∈ zTW) : GoodIn zTW (w1 :: zTW) := by
  intro w hw
  rcases List.mem_cons.mp hw with rfl | hw
  · exact ⟨h1, zTW_good _ h1⟩
  · exact ⟨hw, zTW_good _ hw⟩
theorem z_s1 : ∀ i : Fin 15, (Int32.ofNat (zSl.getD i.val 0)) >>> ((0 : Int32) &&& 31) = Int32.ofNat (zSl.getD i.val 0) := by decide +kernel
theorem z_s2 : ∀ i : Fin 15, ∀ j : Fin 5, (0 ≤ ((((zSb.getD i.val []).getD j.val 0) &&& 255).toUInt32 % 65536).toInt32.toInt ∧ ((((zSb.getD i.val []).getD j.val 0) &&& 255).toUInt32 % 65536).toInt32.toInt ≤ 255) ∧ narrow .char (.int ((((zSb.getD i.val []).getD j.val 0) &&& 255).toUInt32 % 65536).toInt32) = .int ((((zSb.getD i.val []).getD j.val 0) &&& 255).toUInt32 % 65536).toInt32 := by decide +kernel
theorem z_s3 : ∀ i : Fin 15, 3 ≤ zSl.getD i.val 0 ∧ zSl.getD i.val 0 ≤ 5 ∧ (Int32.ofNat (zSl.getD i.val 0)).toInt = (zSl.getD i.val 0 : Int) := by decide +kernel
set_option maxHeartbeats 4000000 in
set_option maxRecDepth 100000 in
theorem zS_coder (l : Launch) (L : List Nat) (adK adV : Nat → Nat) (fv : Option Nat) {i : Nat} (hi : i < 15) : Met l yJ0_coder_7d493 (Cond.code yJ0_coder_7d493 cJ0_coder_7d493 1 (some .byte) :: zTW) ({ frames := 0, cells := 0, slots := 0, locals := 0 } : Room) (va_Pc ([.ref (adK i)]) (zSP L adK adV fv)) (vp_Si (fun r => r = 0)) 0 0 (fun _ => False) := by
  refine Met.ofW (cc := cJ0_coder_7d493) (maxL := 1) (ret := (some .byte)) (by decide +kernel) rfl ?_
  intro p e s m args below meth c s₁ B hml hv
  obtain ⟨rfl, hSP⟩ := hv
  have hE := hSP.1
  have hx := B.exec
  have hb := B.bytes
  have hr := B.returns
  have hts0 := atoms_spec (ws := Cond.code yJ0_coder_7d493 cJ0_coder_7d493 1 (some .byte) :: zTW) B.pre
  have hts : ∀ w ∈ zTW, w.before _ s = true := fun w hw => hts0 w (List.mem_cons_of_mem _ hw)
  have hown : s.vm.findClass RJ0 = some m.cls := findClass_of_methodNamed B.named
  have hlocks := B.notSynchronized
  have hS : va_S (fun q => q ∈ L) s.heap s.heap [] := va_S.rf
  have hl := lv_entry ([.ref (adK i)]) (n := 1) (Nat.le_of_ble_eq_true rfl)
  rw [lg_entry_eq]
  generalize (lg_sl ([.ref (adK i)]) ++ List.replicate (1 - (lg_sl ([.ref (adK i)])).length) Slot.unset).toArray = ls at hl ⊢
  have hl : lv_has ls 1 [(0, .ref (adK i))] := hl
  refine va_gets hx hb hSP.2.1 hS hown (hts _ zy_38) (fun _ h => h) zt_J0_coder_7d493_0 ?_
  refine lv_if_eq (tgt := 13) hx hb zt_J0_coder_7d493_3 (by decide) (fun h => absurd h (by decide)) (fun _ => ?_)
  refine lv_aload_n hx hb zt_J0_coder_7d493_6 rfl (lv_at hl 0 rfl) ?_
  refine vk_getf hx hb (hE.1 i hi).2.1 hS hown (hts _ zy_15) (fun _ h => h) zt_J0_coder_7d493_7 ?_
  refine lv_goto (tgt := 14) hx hb zt_J0_coder_7d493_10 (by decide) ?_
  exact W.zret (v := 0) hx hb hr (by decide +kernel) (fun t ht hW => ⟨0, rfl, rfl, ht⟩) (fun _ h => absurd h List.not_mem_nil) zt_J0_coder_7d493_14
set_option maxHeartbeats 4000000 in
set_option maxRecDepth 100000 in
theorem zS_latin (l : Launch) (L : List Nat) (adK adV : Nat → Nat) (fv : Option Nat) {i : Nat} (hi : i < 15) : Met l yJ0_isLatin1_aae02 (Cond.code yJ0_isLatin1_aae02 cJ0_isLatin1_aae02 1 (some .boolean) :: zTW) ({ frames := 0, cells := 0, slots := 0, locals := 0 } : Room) (va_Pc ([.ref (adK i)]) (zSP L adK adV fv)) (vp_Si (fun r => r = 1)) 0 0 (fun _ => False) := by
  refine Met.ofW (cc := cJ0_isLatin1_aae02) (maxL := 1) (ret := (some .boolean)) (by decide +kernel) rfl ?_
  intro p e s m args below meth c s₁ B hml hv
  obtain ⟨rfl, hSP⟩ := hv
  have hE := hSP.1
  have hx := B.exec
  have hb := B.bytes
  have hr := B.returns
  have hts0 := atoms_spec (ws := Cond.code yJ0_isLatin1_aae02 cJ0_isLatin1_aae02 1 (some .boolean) :: zTW) B.pre
  have hts : ∀ w ∈ zTW, w.before _ s = true := fun w hw => hts0 w (List.mem_cons_of_mem _ hw)
  have hown : s.vm.findClass RJ0 = some m.cls := findClass_of_methodNamed B.named
  have hlocks := B.notSynchronized
  have hS : va_S (fun q => q ∈ L) s.heap s.heap [] := va_S.rf
  have hl := lv_entry ([.ref (adK i)]) (n := 1) (Nat.le_of_ble_eq_true rfl)
  rw [lg_entry_eq]
  generalize (lg_sl ([.ref (adK i)]) ++ List.replicate (1 - (lg_sl ([.ref (adK i)])).length) Slot.unset).toArray = ls at hl ⊢
  have hl : lv_has ls 1 [(0, .ref (adK i))] := hl
  refine va_gets hx hb hSP.2.1 hS hown (hts _ zy_38) (fun _ h => h) zt_J0_isLatin1_aae02_0 ?_
  refine lv_if_eq (tgt := 17) hx hb zt_J0_isLatin1_aae02_3 (by decide) (fun h => absurd h (by decide)) (fun _ => ?_)
  refine lv_aload_n hx hb zt_J0_isLatin1_aae02_6 rfl (lv_at hl 0 rfl) ?_
  refine vk_getf hx hb (hE.1 i hi).2.1 hS hown (hts _ zy_15) (fun _ h => h) zt_J0_isLatin1_aae02_7 ?_
  refine lv_if_ne (tgt := 17) hx hb zt_J0_isLatin1_aae02_10 (by decide) (fun h => absurd rfl h) (fun _ => ?_)
  refine lv_iconst (v := 1) hx hb zt_J0_isLatin1_aae02_13 (by decide +kernel) ?_
  refine lv_goto (tgt := 18) hx hb zt_J0_isLatin1_aae02_14 (by decide) ?_
  exact W.zret (v := 1) hx hb hr (by decide +kernel) (fun t ht hW => ⟨1, rfl, rfl, ht⟩) (fun _ h => absurd h List.not_mem_nil) zt_J0_isLatin1_aae02_18
set_option maxHeartbeats 4000000 in
set_option maxRecDepth 100000 in
theorem zS_length (l : Launch) (L : List Nat) (adK adV : Nat → Nat) (fv : Option Nat) {i : Nat} (hi : i < 15) : Met l yJ0_length_8abf5 (Cond.code yJ0_length_8abf5 cJ0_length_8abf5 1 (some .int) :: zTW) ({ frames := 1, cells := 0, slots := 0, locals := 20 } : Room) (va_Pc ([.ref (adK i)]) (zSP L adK adV fv)) (vp_Si (fun r => r = Int32.ofNat (zSl.getD i 0))) 0 0 (fun _ => False) := by
  refine Met.ofW (cc := cJ0_length_8abf5) (maxL := 1) (ret := (some .int)) (by decide +kernel) rfl ?_
  intro p e s m args below meth c s₁ B hml hv
  obtain ⟨rfl, hSP⟩ := hv
  have hE := hSP.1
  have hx := B.exec
  have hb := B.bytes
  have hr := B.returns
  have hts0 := atoms_spec (ws := Cond.code yJ0_length_8abf5 cJ0_length_8abf5 1 (some .int) :: zTW) B.pre
  have hts : ∀ w ∈ zTW, w.before _ s = true := fun w hw => hts0 w (List.mem_cons_of_mem _ hw)
  have hown : s.vm.findClass RJ0 = some m.cls := findClass_of_methodNamed B.named
  have hlocks := B.notSynchronized
  have hS : va_S (fun q => q ∈ L) s.heap s.heap [] := va_S.rf
  have hl := lv_entry ([.ref (adK i)]) (n := 1) (Nat.le_of_ble_eq_true rfl)
  rw [lg_entry_eq]
  generalize (lg_sl ([.ref (adK i)]) ++ List.replicate (1 - (lg_sl ([.ref (adK i)])).length) Slot.unset).toArray = ls at hl ⊢
  have hl : lv_has ls 1 [(0, .ref (adK i))] := hl
  refine lv_aload_n hx hb zt_J0_length_8abf5_0 rfl (lv_at hl 0 rfl) ?_
  refine vk_getf hx hb (hE.1 i hi).2.2.1 hS hown (hts _ zy_9) (fun _ h => h) zt_J0_length_8abf5_1 ?_
  refine va_tlen (v := Int32.ofNat (zSl.getD i 0)) hx hb (hE.1 i hi).2.2.2 hS rfl zt_J0_length_8abf5_4 ?_
  refine lv_aload_n hx hb zt_J0_length_8abf5_5 rfl (lv_at hl 0 rfl) ?_
  refine pc_i (va_runV (C := RJ0) (n := 0) (As := []) (rest := [.int (Int32.ofNat (zSl.getD i 0))]) (bytes := cJ0_coder_7d493) (maxL := 1) (ret := (some .byte)) ⟨hx, hb, hml, hown, hts0⟩ (zS_coder l L adK adV fv hi) ⟨callB_of _ hts0 (z_good zTW_good zw_J0_coder_7d493.1.2.1) rfl rfl rfl (hts _ zw_J0_coder_7d493.1.1) (hts _ zy_335) ⟨zw_J0_coder_7d493.1.2.2.1.1, zw_J0_coder_7d493.1.2.2.1.2, zw_J0_coder_7d493.1.2.2.2⟩ ⟨by decide, by decide⟩, hts _ zw_J0_coder_7d493.2.1, hts _ zw_J0_coder_7d493.2.2⟩ ⟨zSP.blind, vk_recv hE hi hS, fun U hU hW => ⟨rfl, hSP.go hS hU hW⟩⟩ rfl rfl hl.1 rfl (lv_room (Nat.le_of_ble_eq_true rfl)) zt_J0_length_8abf5_6 ⟨Nat.zero_le _, Nat.zero_le _⟩) (fun r hr0 => ?_)
  subst hr0
  refine lv_ishr hx hb zt_J0_length_8abf5_9 ?_
  rw [z_s1 ⟨i, hi⟩]
  exact W.iret hx hb hr (fun t ht hW => ⟨_, rfl, rfl, ht⟩) (fun _ h => absurd h List.not_mem_nil) zt_J0_length_8abf5_10
set_option maxHeartbeats 4000000 in
set_option maxRecDepth 100000 in
theorem zS_check3 (l : Launch) (L : List Nat) (adK adV : Nat → Nat) (fv : Option Nat) {x n : Int32} (h1 : 0 ≤ x.toInt) (h2 : x.toInt < n.toInt) : Met l yJ3_checkIndex_8e157 (Cond.code yJ3_checkIndex_8e157 cJ3_checkIndex_8e157 3 (some .int) :: zTW) ({ frames := 0, cells := 0, slots := 0, locals := 0 } : Room) (va_Pc ([.int x, .int n, va_rf fv]) (zSP L adK adV fv)) (vp_Si (fun r => r = x)) 0 0 (fun _ => False) := by
  refine Met.ofW (cc := cJ3_checkIndex_8e157) (maxL := 3) (ret := (some .int)) (by decide +kernel) rfl ?_
  intro p e s m args below meth c s₁ B hml hv
  obtain ⟨rfl, hSP⟩ := hv
  have hE := hSP.1
  have hx := B.exec
  have hb := B.bytes
  have hr := B.returns
  have hts0 := atoms_spec (ws := Cond.code yJ3_checkIndex_8e157 cJ3_checkIndex_8e157 3 (some .int) :: zTW) B.pre
  have hts : ∀ w ∈ zTW, w.before _ s = true := fun w hw => hts0 w (List.mem_cons_of_mem _ hw)
  have hown : s.vm.findClass RJ3 = some m.cls := findClass_of_methodNamed B.named
  have hlocks := B.notSynchronized
  have hS : va_S (fun q => q ∈ L) s.heap s.heap [] := va_S.rf
  have hfc : (va_rf fv).category = 1 := by cases fv <;> rfl
  have hfl : lg_sl ([.int x, .int n, va_rf fv]) = [.val (.int x), .val (.int n), .val (va_rf fv)] := by cases fv <;> rfl
  have hl := lv_entry ([.int x, .int n, va_rf fv]) (n := 3) (by rw [hfl]; exact Nat.le_refl 3)
  rw [lg_entry_eq]
  generalize (lg_sl ([.int x, .int n, va_rf fv]) ++ List.replicate (3 - (lg_sl ([.int x, .int n, va_rf fv])).length) Slot.unset).toArray = ls at hl ⊢
  have hl : lv_has ls 3 [(0, .int x), (1, .int n), (2, va_rf fv)] := hl
  refine lv_iload_n hx hb zt_J3_checkIndex_8e157_0 rfl (lv_at hl 0 rfl) ?_
  refine lv_if_lt (tgt := 9) hx hb zt_J3_checkIndex_8e157_1 (by decide) (fun h => absurd (Int32.lt_iff_toInt_lt.mp h) (by have e0 : (0 : Int32).toInt = 0 := rfl; omega)) (fun _ => ?_)
  refine lv_iload_n hx hb zt_J3_checkIndex_8e157_4 rfl (lv_at hl 0 rfl) ?_
  refine lv_iload_n hx hb zt_J3_checkIndex_8e157_5 rfl (lv_at hl 1 rfl) ?_
  refine lv_icmp_lt (tgt := 16) hx hb zt_J3_checkIndex_8e157_6 (by decide) (fun _ => ?_) (fun h => absurd (Int32.lt_iff_toInt_lt.mpr h2) h)
  refine lv_iload_n hx hb zt_J3_checkIndex_8e157_16 rfl (lv_at hl 0 rfl) ?_
  exact W.iret hx hb hr (fun t ht hW => ⟨_, rfl, rfl, ht⟩) (fun _ h => absurd h List.not_mem_nil) zt_J3_checkIndex_8e157_17
set_option maxHeartbeats 4000000 in
set_option maxRecDepth 100000 in
theorem zS_check (l : Launch) (L : List Nat) (adK adV : Nat → Nat) (fv : Option Nat) {x n : Int32} (h1 : 0 ≤ x.toInt) (h2 : x.toInt < n.toInt) : Met l yJ0_checkIndex_df160 (Cond.code yJ0_checkIndex_df160 cJ0_checkIndex_df160 2 none :: zTW) ({ frames := 1, cells := 0, slots := 0, locals := 22 } : Room) (va_Pc ([.int x, .int n]) (zSP L adK adV fv)) zSv 0 0 (fun _ => False) := by
  refine Met.ofW (cc := cJ0_checkIndex_df160) (maxL := 2) (ret := none) (by decide +kernel) rfl ?_
  intro p e s m args below meth c s₁ B hml hv
  obtain ⟨rfl, hSP⟩ := hv
  have hE := hSP.1
  have hx := B.exec
  have hb := B.bytes
  have hr := B.returns
  have hts0 := atoms_spec (ws := Cond.code yJ0_checkIndex_df160 cJ0_checkIndex_df160 2 none :: zTW) B.pre
  have hts : ∀ w ∈ zTW, w.before _ s = true := fun w hw => hts0 w (List.mem_cons_of_mem _ hw)
  have hown : s.vm.findClass RJ0 = some m.cls := findClass_of_methodNamed B.named
  have hlocks := B.notSynchronized
  have hS : va_S (fun q => q ∈ L) s.heap s.heap [] := va_S.rf
  have hl := lv_entry ([.int x, .int n]) (n := 2) (Nat.le_of_ble_eq_true rfl)
  rw [lg_entry_eq]
  generalize (lg_sl ([.int x, .int n]) ++ List.replicate (2 - (lg_sl ([.int x, .int n])).length) Slot.unset).toArray = ls at hl ⊢
  have hl : lv_has ls 2 [(0, .int x), (1, .int n)] := hl
  refine lv_iload_n hx hb zt_J0_checkIndex_df160_0 rfl (lv_at hl 0 rfl) ?_
  refine lv_iload_n hx hb zt_J0_checkIndex_df160_1 rfl (lv_at hl 1 rfl) ?_
  refine va_gets hx hb hSP.2.2 hS hown (hts _ zy_1053) (fun _ h => h) zt_J0_checkIndex_df160_2 ?_
  refine pc_i (va_runS (n := 3) (As := [.int x, .int n, va_rf fv]) (rest := []) (bytes := cJ3_checkIndex_8e157) (maxL := 3) (ret := (some .int)) ⟨hx, hb, hml, hown, hts0⟩ (zS_check3 l L adK adV fv h1 h2) ⟨callB_of _ hts0 (z_good zTW_good zw_J3_checkIndex_8e157.1.2.1) rfl rfl rfl (hts _ zw_J3_checkIndex_8e157.1.1) (hts _ zy_1059) ⟨zw_J3_checkIndex_8e157.1.2.2.1.1, zw_J3_checkIndex_8e157.1.2.2.1.2, zw_J3_checkIndex_8e157.1.2.2.2⟩ ⟨by decide, by decide⟩, hts _ zw_J3_checkIndex_8e157.2⟩ ⟨zSP.blind, fun U hU hW => ⟨rfl, hSP.go hS hU hW⟩⟩ rfl rfl hl.1 rfl (lv_room (Nat.le_of_ble_eq_true rfl)) zt_J0_checkIndex_df160_5 ⟨Nat.zero_le _, Nat.zero_le _⟩) (fun r hr0 => ?_)
  refine lv_pop hx hb zt_J0_checkIndex_df160_8 rfl ?_
  exact W.vret hx hb hr (fun t ht hW => ⟨rfl, ht⟩) (fun _ h => absurd h List.not_mem_nil) zt_J0_checkIndex_df160_9
theorem z_nc8 : ∀ k : Fin 256, narrow .char (.int (Int32.ofInt (k.val : Int))) = .int (Int32.ofInt (k.val : Int)) := by decide +kernel
theorem z_nch {x : Int32} (h1 : 0 ≤ x.toInt) (h2 : x.toInt ≤ 255) : narrow .char (.int x) = .int x := by
  have := z_nc8 ⟨x.toInt.toNat, by omega⟩
  simp only at this
  rw [show ((x.toInt.toNat : Nat) : Int) = x.toInt by omega, z_ofi] at this
  exact this
theorem z_dr (k a : Nat) : zdec η (k + 2) (a : Int) = .ref (η.1 a) := by
  unfold zdec zrf
  simp only
  rw [if_neg (by omega), Int.toNat_natCast]
  rfl
section ZSR
variable {kds : List zKD} {cl : List vw_C} {tyf : (Nat → ClassId) → List (ClassId × FieldType)} {l : Launch} {cc : ByteArray} {nL fr lo : Nat} {eff : List (Nat × Nat × Nat)}
end ZSR
