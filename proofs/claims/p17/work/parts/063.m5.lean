section
variable {η : zRn}
/-! String constants: length, charAt -/
set_option maxRecDepth 100000 in
theorem zq_J0_coder_7d493 : tables_1_3[112]? = some (.code yJ0_coder_7d493 cJ0_coder_7d493 1 (some .byte)) := rfl
theorem zw_J0_coder_7d493 : zMV yJ0_coder_7d493 cJ0_coder_7d493 1 (some .byte) 0 := ⟨⟨zTi_1 14 (by decide +kernel) rfl, zTi_3 112 zq_J0_coder_7d493 rfl, ⟨by decide, by decide⟩, by decide +kernel⟩, zTi_3 110 (by decide +kernel) rfl, zTi_3 111 (by decide +kernel) rfl⟩
theorem zt_J0_coder_7d493_0 : decode cJ0_coder_7d493 0 = .ok (.getstatic 38, 3) := by decide +kernel
theorem zt_J0_coder_7d493_3 : decode cJ0_coder_7d493 3 = .ok (.ifCond .eq 10, 3) := by decide +kernel
theorem zt_J0_coder_7d493_6 : decode cJ0_coder_7d493 6 = .ok (.aload_n 0, 1) := by decide +kernel
theorem zt_J0_coder_7d493_7 : decode cJ0_coder_7d493 7 = .ok (.getfield 15, 3) := by decide +kernel
theorem zt_J0_coder_7d493_10 : decode cJ0_coder_7d493 10 = .ok (.goto 4, 3) := by decide +kernel
theorem zt_J0_coder_7d493_14 : decode cJ0_coder_7d493 14 = .ok (.ireturn, 1) := by decide +kernel
set_option maxRecDepth 100000 in
theorem zq_J0_length_8abf5 : tables_1_3[108]? = some (.code yJ0_length_8abf5 cJ0_length_8abf5 1 (some .int)) := rfl
theorem zw_J0_length_8abf5 : zMV yJ0_length_8abf5 cJ0_length_8abf5 1 (some .int) 0 := ⟨⟨zTi_1 14 (by decide +kernel) rfl, zTi_3 108 zq_J0_length_8abf5 rfl, ⟨by decide, by decide⟩, by decide +kernel⟩, zTi_3 106 (by decide +kernel) rfl, zTi_3 107 (by decide +kernel) rfl⟩
theorem zt_J0_length_8abf5_0 : decode cJ0_length_8abf5 0 = .ok (.aload_n 0, 1) := by decide +kernel
theorem zt_J0_length_8abf5_1 : decode cJ0_length_8abf5 1 = .ok (.getfield 9, 3) := by decide +kernel
theorem zt_J0_length_8abf5_4 : decode cJ0_length_8abf5 4 = .ok (.arraylength, 1) := by decide +kernel
theorem zt_J0_length_8abf5_5 : decode cJ0_length_8abf5 5 = .ok (.aload_n 0, 1) := by decide +kernel
theorem zt_J0_length_8abf5_6 : decode cJ0_length_8abf5 6 = .ok (.invokevirtual 335, 3) := by decide +kernel
theorem zt_J0_length_8abf5_9 : decode cJ0_length_8abf5 9 = .ok (.ishr, 1) := by decide +kernel
theorem zt_J0_length_8abf5_10 : decode cJ0_length_8abf5 10 = .ok (.ireturn, 1) := by decide +kernel
set_option maxRecDepth 100000 in
theorem zq_J0_isLatin1_aae02 : tables_1_3[122]? = some (.code yJ0_isLatin1_aae02 cJ0_isLatin1_aae02 1 (some .boolean)) := rfl
theorem zw_J0_isLatin1_aae02 : zMV yJ0_isLatin1_aae02 cJ0_isLatin1_aae02 1 (some .boolean) 0 := ⟨⟨zTi_1 14 (by decide +kernel) rfl, zTi_3 122 zq_J0_isLatin1_aae02 rfl, ⟨by decide, by decide⟩, by decide +kernel⟩, zTi_3 120 (by decide +kernel) rfl, zTi_3 121 (by decide +kernel) rfl⟩
theorem zt_J0_isLatin1_aae02_0 : decode cJ0_isLatin1_aae02 0 = .ok (.getstatic 38, 3) := by decide +kernel
theorem zt_J0_isLatin1_aae02_3 : decode cJ0_isLatin1_aae02 3 = .ok (.ifCond .eq 14, 3) := by decide +kernel
theorem zt_J0_isLatin1_aae02_6 : decode cJ0_isLatin1_aae02 6 = .ok (.aload_n 0, 1) := by decide +kernel
theorem zt_J0_isLatin1_aae02_7 : decode cJ0_isLatin1_aae02 7 = .ok (.getfield 15, 3) := by decide +kernel
theorem zt_J0_isLatin1_aae02_10 : decode cJ0_isLatin1_aae02 10 = .ok (.ifCond .ne 7, 3) := by decide +kernel
theorem zt_J0_isLatin1_aae02_13 : decode cJ0_isLatin1_aae02 13 = .ok (.iconst 1, 1) := by decide +kernel
theorem zt_J0_isLatin1_aae02_14 : decode cJ0_isLatin1_aae02 14 = .ok (.goto 4, 3) := by decide +kernel
theorem zt_J0_isLatin1_aae02_18 : decode cJ0_isLatin1_aae02 18 = .ok (.ireturn, 1) := by decide +kernel
set_option maxRecDepth 100000 in
theorem zq_J3_checkIndex_8e157 : tables_1_3[133]? = some (.code yJ3_checkIndex_8e157 cJ3_checkIndex_8e157 3 (some .int)) := rfl
theorem zw_J3_checkIndex_8e157 : zMS yJ3_checkIndex_8e157 cJ3_checkIndex_8e157 3 (some .int) 3 := ⟨⟨zTi_1 16 (by decide +kernel) rfl, zTi_3 133 zq_J3_checkIndex_8e157 rfl, ⟨by decide, by decide⟩, by decide +kernel⟩, zTi_3 132 (by decide +kernel) rfl⟩
theorem zt_J3_checkIndex_8e157_0 : decode cJ3_checkIndex_8e157 0 = .ok (.iload_n 0, 1) := by decide +kernel
theorem zt_J3_checkIndex_8e157_1 : decode cJ3_checkIndex_8e157 1 = .ok (.ifCond .lt 8, 3) := by decide +kernel
theorem zt_J3_checkIndex_8e157_4 : decode cJ3_checkIndex_8e157 4 = .ok (.iload_n 0, 1) := by decide +kernel
theorem zt_J3_checkIndex_8e157_5 : decode cJ3_checkIndex_8e157 5 = .ok (.iload_n 1, 1) := by decide +kernel
theorem zt_J3_checkIndex_8e157_6 : decode cJ3_checkIndex_8e157 6 = .ok (.if_icmp .lt 10, 3) := by decide +kernel
theorem zt_J3_checkIndex_8e157_16 : decode cJ3_checkIndex_8e157 16 = .ok (.iload_n 0, 1) := by decide +kernel
theorem zt_J3_checkIndex_8e157_17 : decode cJ3_checkIndex_8e157 17 = .ok (.ireturn, 1) := by decide +kernel
set_option maxRecDepth 100000 in
theorem zq_J0_checkIndex_df160 : tables_1_3[128]? = some (.code yJ0_checkIndex_df160 cJ0_checkIndex_df160 2 none) := rfl
theorem zw_J0_checkIndex_df160 : zMS yJ0_checkIndex_df160 cJ0_checkIndex_df160 2 none 2 := ⟨⟨zTi_1 14 (by decide +kernel) rfl, zTi_3 128 zq_J0_checkIndex_df160 rfl, ⟨by decide, by decide⟩, by decide +kernel⟩, zTi_3 127 (by decide +kernel) rfl⟩
theorem zt_J0_checkIndex_df160_0 : decode cJ0_checkIndex_df160 0 = .ok (.iload_n 0, 1) := by decide +kernel
theorem zt_J0_checkIndex_df160_1 : decode cJ0_checkIndex_df160 1 = .ok (.iload_n 1, 1) := by decide +kernel
theorem zt_J0_checkIndex_df160_2 : decode cJ0_checkIndex_df160 2 = .ok (.getstatic 1053, 3) := by decide +kernel
theorem zt_J0_checkIndex_df160_5 : decode cJ0_checkIndex_df160 5 = .ok (.invokestatic 1059, 3) := by decide +kernel
theorem zt_J0_checkIndex_df160_8 : decode cJ0_checkIndex_df160 8 = .ok (.pop, 1) := by decide +kernel
theorem zt_J0_checkIndex_df160_9 : decode cJ0_checkIndex_df160 9 = .ok (.return_, 1) := by decide +kernel
set_option maxRecDepth 100000 in
theorem zq_J1_charAt_3b067 : tables_1_3[125]? = some (.code yJ1_charAt_3b067 cJ1_charAt_3b067 2 (some .char)) := rfl
theorem zw_J1_charAt_3b067 : zMS yJ1_charAt_3b067 cJ1_charAt_3b067 2 (some .char) 2 := ⟨⟨zTi_1 15 (by decide +kernel) rfl, zTi_3 125 zq_J1_charAt_3b067 rfl, ⟨by decide, by decide⟩, by decide +kernel⟩, zTi_3 124 (by decide +kernel) rfl⟩
theorem zt_J1_charAt_3b067_0 : decode cJ1_charAt_3b067 0 = .ok (.iload_n 1, 1) := by decide +kernel
theorem zt_J1_charAt_3b067_1 : decode cJ1_charAt_3b067 1 = .ok (.aload_n 0, 1) := by decide +kernel
theorem zt_J1_charAt_3b067_2 : decode cJ1_charAt_3b067 2 = .ok (.arraylength, 1) := by decide +kernel
theorem zt_J1_charAt_3b067_3 : decode cJ1_charAt_3b067 3 = .ok (.invokestatic 9, 3) := by decide +kernel
theorem zt_J1_charAt_3b067_6 : decode cJ1_charAt_3b067 6 = .ok (.aload_n 0, 1) := by decide +kernel
theorem zt_J1_charAt_3b067_7 : decode cJ1_charAt_3b067 7 = .ok (.iload_n 1, 1) := by decide +kernel
theorem zt_J1_charAt_3b067_8 : decode cJ1_charAt_3b067 8 = .ok (.baload, 1) := by decide +kernel
theorem zt_J1_charAt_3b067_9 : decode cJ1_charAt_3b067 9 = .ok (.sipush 255, 3) := by decide +kernel
theorem zt_J1_charAt_3b067_12 : decode cJ1_charAt_3b067 12 = .ok (.iand, 1) := by decide +kernel
theorem zt_J1_charAt_3b067_13 : decode cJ1_charAt_3b067 13 = .ok (.i2c, 1) := by decide +kernel
theorem zt_J1_charAt_3b067_14 : decode cJ1_charAt_3b067 14 = .ok (.ireturn, 1) := by decide +kernel
set_option maxRecDepth 100000 in
theorem zq_J0_charAt_5068e : tables_1_3[118]? = some (.code yJ0_charAt_5068e cJ0_charAt_5068e 2 (some .char)) := rfl
theorem zw_J0_charAt_5068e : zMV yJ0_charAt_5068e cJ0_charAt_5068e 2 (some .char) 1 := ⟨⟨zTi_1 14 (by decide +kernel) rfl, zTi_3 118 zq_J0_charAt_5068e rfl, ⟨by decide, by decide⟩, by decide +kernel⟩, zTi_3 116 (by decide +kernel) rfl, zTi_3 117 (by decide +kernel) rfl⟩
theorem zt_J0_charAt_5068e_0 : decode cJ0_charAt_5068e 0 = .ok (.aload_n 0, 1) := by decide +kernel
theorem zt_J0_charAt_5068e_1 : decode cJ0_charAt_5068e 1 = .ok (.invokevirtual 492, 3) := by decide +kernel
theorem zt_J0_charAt_5068e_4 : decode cJ0_charAt_5068e 4 = .ok (.ifCond .eq 12, 3) := by decide +kernel
theorem zt_J0_charAt_5068e_7 : decode cJ0_charAt_5068e 7 = .ok (.aload_n 0, 1) := by decide +kernel
theorem zt_J0_charAt_5068e_8 : decode cJ0_charAt_5068e 8 = .ok (.getfield 9, 3) := by decide +kernel
theorem zt_J0_charAt_5068e_11 : decode cJ0_charAt_5068e 11 = .ok (.iload_n 1, 1) := by decide +kernel
theorem zt_J0_charAt_5068e_12 : decode cJ0_charAt_5068e 12 = .ok (.invokestatic 495, 3) := by decide +kernel
theorem zt_J0_charAt_5068e_15 : decode cJ0_charAt_5068e 15 = .ok (.ireturn, 1) := by decide +kernel
theorem zy_38 : Cond.fieldLink RJ0 38 RJ0 "COMPACT_STRINGS" "Z" ∈ zTW := zTi_3 113 (by decide +kernel) rfl
theorem zy_15 : Cond.fieldLink RJ0 15 RJ0 "coder" "B" ∈ zTW := zTi_8 159 (by decide +kernel) rfl
theorem zy_9 : Cond.fieldLink RJ0 9 RJ0 "value" "[B" ∈ zTW := zTi_8 158 (by decide +kernel) rfl
theorem zy_1053 : Cond.fieldLink RJ0 1053 RJ3 "SIOOBE_FORMATTER" "Ljava/util/function/BiFunction;" ∈ zTW := zTi_3 129 (by decide +kernel) rfl
theorem zy_335 : Cond.methodLink RJ0 335 yJ0_coder_7d493 ∈ zTW := zTi_3 109 (by decide +kernel) rfl
theorem zy_492 : Cond.methodLink RJ0 492 yJ0_isLatin1_aae02 ∈ zTW := zTi_3 119 (by decide +kernel) rfl
theorem zy_495 : Cond.methodLink RJ0 495 yJ1_charAt_3b067 ∈ zTW := zTi_3 123 (by decide +kernel) rfl
theorem zy_j9 : Cond.methodLink RJ1 9 yJ0_checkIndex_df160 ∈ zTW := zTi_3 126 (by decide +kernel) rfl
theorem zy_1059 : Cond.methodLink RJ0 1059 yJ3_checkIndex_8e157 ∈ zTW := zTi_3 131 (by decide +kernel) rfl
def zSP (L : List Nat) (adK adV : Nat → Nat) (fv : Option Nat) (U : State) : Prop := vk_S 15 zSl zSb adK adV (fun q => q ∈ L) U U.heap ∧ va_Z RJ0 "COMPACT_STRINGS" "Z" (.int 1) (fun q => q ∈ L) U U.heap ∧ va_Z RJ3 "SIOOBE_FORMATTER" "Ljava/util/function/BiFunction;" (va_rf fv) (fun q => q ∈ L) U U.heap
theorem zSP.go {L : List Nat} {adK adV : Nat → Nat} {fv : Option Nat} {s U : State} {H : Heap} {locs : List Loc} (h : zSP L adK adV fv s) (hS : va_S (fun q => q ∈ L) s.heap H locs) (hU : U.heap = H) (hW : s.WarmedH U.vm) : zSP L adK adV fv U := by
  subst hU
  exact ⟨(h.1.moved hW.alike).kept hS.2.1, (h.2.1.moved hW.alike).kept hS.2.1, (h.2.2.moved hW.alike).kept hS.2.1⟩
theorem zSP.blind {L : List Nat} {adK adV : Nat → Nat} {fv : Option Nat} {av : List Value} : FrameBlind (va_Pc av (zSP L adK adV fv)) := fun _ U g mk q => ⟨q.1, q.2.1.moved (u := U) (U := U.calling g mk _) (Vm.Alike.refl U.vm), q.2.2.1.moved (u := U) (U := U.calling g mk _) (Vm.Alike.refl U.vm), q.2.2.2.moved (u := U) (U := U.calling g mk _) (Vm.Alike.refl U.vm)⟩
def zSv : Array Value → State → Outcome → State → Prop := fun _ st o t => o = .returned none ∧ t.heap = st.heap
theorem pc_v0 {p : Program} {l : Launch} {e : Env} {R : Room} {s : State} {m : MethodId} {args : Array Value} {below : List Frame} {meth : Method} {c : Code} {H : Heap} {locs : List Loc} {cells slots : Nat} {Q : State → Prop} {pc : Nat} {ls : Array Slot} {rest st0 : List Value} {a : Array Value} (hr : va_Run p l e R s m args below meth c H locs cells slots 0 0 (F0 m pc ls st0) rest (zSv a) (fun _ => False))
    (kk : W p l e R s m args below meth c H locs cells slots Q (F0 m (pc + 3) ls rest)) : W p l e R s m args below meth c H locs cells slots Q (F0 m pc ls st0) := by
  intro T hT X
  obtain ⟨v, st₀, t, T', L, h0, X', hL, e1, e2, ⟨hv, hh⟩, st⟩ := hr T hT X
  cases hv
  obtain ⟨t2, a1, b1⟩ := kk T' (by rw [e1, hh, h0]) (Stand.forget X' (fun q h => (hL q h).elim))
  exact ⟨t2, st t2 a1, b1⟩
theorem z_good0 {w1 : Cond} (h1 : w1 ∈ zTW) : GoodIn zTW (w1 :: zTW) := by
  intro w hw
  rcases List.mem_cons.mp hw with rfl | hw
  · exact ⟨h1, zTW_good _ h1⟩
  · exact ⟨hw, zTW_good _ hw⟩
theorem z_s1 : ∀ i : Fin 15, (Int32.ofNat (zSl.getD i.val 0)) >>> ((0 : Int32) &&& 31) = Int32.ofNat (zSl.getD i.val 0) := by decide +kernel
theorem z_s2 : ∀ i : Fin 15, ∀ j : Fin 5, (0 ≤ ((((zSb.getD i.val []).getD j.val 0) &&& 255).toUInt32 % 65536).toInt32.toInt ∧ ((((zSb.getD i.val []).getD j.val 0) &&& 255).toUInt32 % 65536).toInt32.toInt ≤ 255) ∧ narrow .char (.int ((((zSb.getD i.val []).getD j.val 0) &&& 255).toUInt32 % 65536).toInt32) = .int ((((zSb.getD i.val []).getD j.val 0) &&& 255).toUInt32 % 65536).toInt32 := by decide +kernel
theorem z_s3 : ∀ i : Fin 15, 3 ≤ zSl.getD i.val 0 ∧ zSl.getD i.val 0 ≤ 5 ∧ (Int32.ofNat (zSl.getD i.val 0)).toInt = (zSl.getD i.val 0 : Int) := by decide +kernel
set_option maxHeartbeats 4000000 in
set_option maxRecDepth 100000 in
theorem zS_coder (l : Launch) (L : List Nat) (adK adV : Nat → Nat) (fv : Option Nat) {i : Nat} (hi : i < 15) : Met l yJ0_coder_7d493 (Cond.code yJ0_coder_7d493 cJ0_coder_7d493 1 (some .byte) :: zTW) ({ frames := 0, cells := 0, slots := 0, locals := 0 } : Room) (va_Pc ([.ref (adK i)]) (zSP L adK adV fv)) (vp_Si (fun r => r = 0)) 0 0 (fun _ => False) := by
  refine Met.ofW (cc := cJ0_coder_7d493) (maxL := 1) (ret := (some .byte)) (by decide +kernel) rfl ?_
  intro p e s m args below meth c s₁ B hml hv
  obtain ⟨rfl, hSP⟩ := hv
  have hE := hSP.1
  have hx := B.exec
  have hb := B.bytes
  have hr := B.returns
  have hts0 := atoms_spec (ws := Cond.code yJ0_coder_7d493 cJ0_coder_7d493 1 (some .byte) :: zTW) B.pre
  have hts : ∀ w ∈ zTW, w.before _ s = true := fun w hw => hts0 w (List.mem_cons_of_mem _ hw)
  have hown : s.vm.findClass RJ0 = some m.cls := findClass_of_methodNamed B.named
  have hlocks := B.notSynchronized
  have hS : va_S (fun q => q ∈ L) s.heap s.heap [] := va_S.rf
  have hl := lv_entry ([.ref (adK i)]) (n := 1) (Nat.le_of_ble_eq_true rfl)
  rw [lg_entry_eq]
  generalize (lg_sl ([.ref (adK i)]) ++ List.replicate (1 - (lg_sl ([.ref (adK i)])).length) Slot.unset).toArray = ls at hl ⊢
  have hl : lv_has ls 1 [(0, .ref (adK i))] := hl
  refine va_gets hx hb hSP.2.1 hS hown (hts _ zy_38) (fun _ h => h) zt_J0_coder_7d493_0 ?_
  refine lv_if_eq (tgt := 13) hx hb zt_J0_coder_7d493_3 (by decide) (fun h => absurd h (by decide)) (fun _ => ?_)
  refine lv_aload_n hx hb zt_J0_coder_7d493_6 rfl (lv_at hl 0 rfl) ?_
  refine vk_getf hx hb (hE.1 i hi).2.1 hS hown (hts _ zy_15) (fun _ h => h) zt_J0_coder_7d493_7 ?_
  refine lv_goto (tgt := 14) hx hb zt_J0_coder_7d493_10 (by decide) ?_
  exact W.zret (v := 0) hx hb hr (by decide +kernel) (fun t ht hW => ⟨0, rfl, rfl, ht⟩) (fun _ h => absurd h List.not_mem_nil) zt_J0_coder_7d493_14
set_option maxHeartbeats 4000000 in
set_option maxRecDepth 100000 in
theorem zS_latin (l : Launch) (L : List Nat) (adK adV : Nat → Nat) (fv : Option Nat) {i : Nat} (hi : i < 15) : Met l yJ0_isLatin1_aae02 (Cond.code yJ0_isLatin1_aae02 cJ0_isLatin1_aae02 1 (some .boolean) :: zTW) ({ frames := 0, cells := 0, slots := 0, locals := 0 } : Room) (va_Pc ([.ref (adK i)]) (zSP L adK adV fv)) (vp_Si (fun r => r = 1)) 0 0 (fun _ => False) := by
  refine Met.ofW (cc := cJ0_isLatin1_aae02) (maxL := 1) (ret := (some .boolean)) (by decide +kernel) rfl ?_
  intro p e s m args below meth c s₁ B hml hv
  obtain ⟨rfl, hSP⟩ := hv
  have hE := hSP.1
  have hx := B.exec
  have hb := B.bytes
  have hr := B.returns
  have hts0 := atoms_spec (ws := Cond.code yJ0_isLatin1_aae02 cJ0_isLatin1_aae02 1 (some .boolean) :: zTW) B.pre
  have hts : ∀ w ∈ zTW, w.before _ s = true := fun w hw => hts0 w (List.mem_cons_of_mem _ hw)
  have hown : s.vm.findClass RJ0 = some m.cls := findClass_of_methodNamed B.named
  have hlocks := B.notSynchronized
  have hS : va_S (fun q => q ∈ L) s.heap s.heap [] := va_S.rf
  have hl := lv_entry ([.ref (adK i)]) (n := 1) (Nat.le_of_ble_eq_true rfl)
  rw [lg_entry_eq]
  generalize (lg_sl ([.ref (adK i)]) ++ List.replicate (1 - (lg_sl ([.ref (adK i)])).length) Slot.unset).toArray = ls at hl ⊢
  have hl : lv_has ls 1 [(0, .ref (adK i))] := hl
  refine va_gets hx hb hSP.2.1 hS hown (hts _ zy_38) (fun _ h => h) zt_J0_isLatin1_aae02_0 ?_
  refine lv_if_eq (tgt := 17) hx hb zt_J0_isLatin1_aae02_3 (by decide) (fun h => absurd h (by decide)) (fun _ => ?_)
  refine lv_aload_n hx hb zt_J0_isLatin1_aae02_6 rfl (lv_at hl 0 rfl) ?_
  refine vk_getf hx hb (hE.1 i hi).2.1 hS hown (hts _ zy_15) (fun _ h => h) zt_J0_isLatin1_aae02_7 ?_
  refine lv_if_ne (tgt := 17) hx hb zt_J0_isLatin1_aae02_10 (by decide) (fun h => absurd rfl h) (fun _ => ?_)
  refine lv_iconst (v := 1) hx hb zt_J0_isLatin1_aae02_13 (by decide +kernel) ?_
  refine lv_goto (tgt := 18) hx hb zt_J0_isLatin1_aae02_14 (by decide) ?_
  exact W.zret (v := 1) hx hb hr (by decide +kernel) (fun t ht hW => ⟨1, rfl, rfl, ht⟩) (fun _ h => absurd h List.not_mem_nil) zt_J0_isLatin1_aae02_18
set_option maxHeartbeats 4000000 in
set_option maxRecDepth 100000 in
theorem zS_length (l : Launch) (L : List Nat) (adK adV : Nat → Nat) (fv : Option Nat) {i : Nat} (hi : i < 15) : Met l yJ0_length_8abf5 (Cond.code yJ0_length_8abf5 cJ0_length_8abf5 1 (some .int) :: zTW) ({ frames := 1, cells := 0, slots := 0, locals := 20 } : Room) (va_Pc ([.ref (adK i)]) (zSP L adK adV fv)) (vp_Si (fun r => r = Int32.ofNat (zSl.getD i 0))) 0 0 (fun _ => False) := by
  refine Met.ofW (cc := cJ0_length_8abf5) (maxL := 1) (ret := (some .int)) (by decide +kernel) rfl ?_
  intro p e s m args below meth c s₁ B hml hv
  obtain ⟨rfl, hSP⟩ := hv
  have hE := hSP.1
  have hx := B.exec
  have hb := B.bytes
  have hr := B.returns
  have hts0 := atoms_spec (ws := Cond.code yJ0_length_8abf5 cJ0_length_8abf5 1 (some .int) :: zTW) B.pre
  have hts : ∀ w ∈ zTW, w.before _ s = true := fun w hw => hts0 w (List.mem_cons_of_mem _ hw)
  have hown : s.vm.findClass RJ0 = some m.cls := findClass_of_methodNamed B.named
  have hlocks := B.notSynchronized
  have hS : va_S (fun q => q ∈ L) s.heap s.heap [] := va_S.rf
  have hl := lv_entry ([.ref (adK i)]) (n := 1) (Nat.le_of_ble_eq_true rfl)
  rw [lg_entry_eq]
  generalize (lg_sl ([.ref (adK i)]) ++ List.replicate (1 - (lg_sl ([.ref (adK i)])).length) Slot.unset).toArray = ls at hl ⊢
  have hl : lv_has ls 1 [(0, .ref (adK i))] := hl
  refine lv_aload_n hx hb zt_J0_length_8abf5_0 rfl (lv_at hl 0 rfl) ?_
  refine vk_getf hx hb (hE.1 i hi).2.2.1 hS hown (hts _ zy_9) (fun _ h => h) zt_J0_length_8abf5_1 ?_
  refine va_tlen (v := Int32.ofNat (zSl.getD i 0)) hx hb (hE.1 i hi).2.2.2 hS rfl zt_J0_length_8abf5_4 ?_
  refine lv_aload_n hx hb zt_J0_length_8abf5_5 rfl (lv_at hl 0 rfl) ?_
  refine pc_i (va_runV (C := RJ0) (n := 0) (As := []) (rest := [.int (Int32.ofNat (zSl.getD i 0))]) (bytes := cJ0_coder_7d493) (maxL := 1) (ret := (some .byte)) ⟨hx, hb, hml, hown, hts0⟩ (zS_coder l L adK adV fv hi) ⟨callB_of _ hts0 (z_good zTW_good zw_J0_coder_7d493.1.2.1) rfl rfl rfl (hts _ zw_J0_coder_7d493.1.1) (hts _ zy_335) ⟨zw_J0_coder_7d493.1.2.2.1.1, zw_J0_coder_7d493.1.2.2.1.2, zw_J0_coder_7d493.1.2.2.2⟩ ⟨by decide, by decide⟩, hts _ zw_J0_coder_7d493.2.1, hts _ zw_J0_coder_7d493.2.2⟩ ⟨zSP.blind, vk_recv hE hi hS, fun U hU hW => ⟨rfl, hSP.go hS hU hW⟩⟩ rfl rfl hl.1 rfl (lv_room (Nat.le_of_ble_eq_true rfl)) zt_J0_length_8abf5_6 ⟨Nat.zero_le _, Nat.zero_le _⟩) (fun r hr0 => ?_)
  subst hr0
  refine lv_ishr hx hb zt_J0_length_8abf5_9 ?_
  rw [z_s1 ⟨i, hi⟩]
  exact W.iret hx hb hr (fun t ht hW => ⟨_, rfl, rfl, ht⟩) (fun _ h => absurd h List.not_mem_nil) zt_J0_length_8abf5_10
set_option maxHeartbeats 4000000 in
set_option maxRecDepth 100000 in
theorem zS_check3 (l : Launch) (L : List Nat) (adK adV : Nat → Nat) (fv : Option Nat) {x n : Int32} (h1 : 0 ≤ x.toInt) (h2 : x.toInt < n.toInt) : Met l yJ3_checkIndex_8e157 (Cond.code yJ3_checkIndex_8e157 cJ3_checkIndex_8e157 3 (some .int) :: zTW) ({ frames := 0, cells := 0, slots := 0, locals := 0 } : Room) (va_Pc ([.int x, .int n, va_rf fv]) (zSP L adK adV fv)) (vp_Si (fun r => r = x)) 0 0 (fun _ => False) := by
  refine Met.ofW (cc := cJ3_checkIndex_8e157) (maxL := 3) (ret := (some .int)) (by decide +kernel) rfl ?_
  intro p e s m args below meth c s₁ B hml hv
  obtain ⟨rfl, hSP⟩ := hv
  have hE := hSP.1
  have hx := B.exec
  have hb := B.bytes
  have hr := B.returns
  have hts0 := atoms_spec (ws := Cond.code yJ3_checkIndex_8e157 cJ3_checkIndex_8e157 3 (some .int) :: zTW) B.pre
  have hts : ∀ w ∈ zTW, w.before _ s = true := fun w hw => hts0 w (List.mem_cons_of_mem _ hw)
  have hown : s.vm.findClass RJ3 = some m.cls := findClass_of_methodNamed B.named
  have hlocks := B.notSynchronized
  have hS : va_S (fun q => q ∈ L) s.heap s.heap [] := va_S.rf
  have hfc : (va_rf fv).category = 1 := by cases fv <;> rfl
  have hfl : lg_sl ([.int x, .int n, va_rf fv]) = [.val (.int x), .val (.int n), .val (va_rf fv)] := by cases fv <;> rfl
  have hl := lv_entry ([.int x, .int n, va_rf fv]) (n := 3) (by rw [hfl]; exact Nat.le_refl 3)
  rw [lg_entry_eq]
  generalize (lg_sl ([.int x, .int n, va_rf fv]) ++ List.replicate (3 - (lg_sl ([.int x, .int n, va_rf fv])).length) Slot.unset).toArray = ls at hl ⊢
  have hl : lv_has ls 3 [(0, .int x), (1, .int n), (2, va_rf fv)] := hl
  refine lv_iload_n hx hb zt_J3_checkIndex_8e157_0 rfl (lv_at hl 0 rfl) ?_
  refine lv_if_lt (tgt := 9) hx hb zt_J3_checkIndex_8e157_1 (by decide) (fun h => absurd (Int32.lt_iff_toInt_lt.mp h) (by have e0 : (0 : Int32).toInt = 0 := rfl; omega)) (fun _ => ?_)
  refine lv_iload_n hx hb zt_J3_checkIndex_8e157_4 rfl (lv_at hl 0 rfl) ?_
  refine lv_iload_n hx hb zt_J3_checkIndex_8e157_5 rfl (lv_at hl 1 rfl) ?_
  refine lv_icmp_lt (tgt := 16) hx hb zt_J3_checkIndex_8e157_6 (by decide) (fun _ => ?_) (fun h => absurd (Int32.lt_iff_toInt_lt.mpr h2) h)
  refine lv_iload_n hx hb zt_J3_checkIndex_8e157_16 rfl (lv_at hl 0 rfl) ?_
  exact W.iret hx hb hr (fun t ht hW => ⟨_, rfl, rfl, ht⟩) (fun _ h => absurd h List.not_mem_nil) zt_J3_checkIndex_8e157_17
set_option maxHeartbeats 4000000 in
set_option maxRecDepth 100000 in
theorem zS_check (l : Launch) (L : List Nat) (adK adV : Nat → Nat) (fv : Option Nat) {x n : Int32} (h1 : 0 ≤ x.toInt) (h2 : x.toInt < n.toInt) : Met l yJ0_checkIndex_df160 (Cond.code yJ0_checkIndex_df160 cJ0_checkIndex_df160 2 none :: zTW) ({ frames := 1, cells := 0, slots := 0, locals := 22 } : Room) (va_Pc ([.int x, .int n]) (zSP L adK adV fv)) zSv 0 0 (fun _ => False) := by
  refine Met.ofW (cc := cJ0_checkIndex_df160) (maxL := 2) (ret := none) (by decide +kernel) rfl ?_
  intro p e s m args below meth c s₁ B hml hv
  obtain ⟨rfl, hSP⟩ := hv
  have hE := hSP.1
  have hx := B.exec
  have hb := B.bytes
  have hr := B.returns
  have hts0 := atoms_spec (ws := Cond.code yJ0_checkIndex_df160 cJ0_checkIndex_df160 2 none :: zTW) B.pre
  have hts : ∀ w ∈ zTW, w.before _ s = true := fun w hw => hts0 w (List.mem_cons_of_mem _ hw)
  have hown : s.vm.findClass RJ0 = some m.cls := findClass_of_methodNamed B.named
  have hlocks := B.notSynchronized
  have hS : va_S (fun q => q ∈ L) s.heap s.heap [] := va_S.rf
  have hl := lv_entry ([.int x, .int n]) (n := 2) (Nat.le_of_ble_eq_true rfl)
  rw [lg_entry_eq]
  generalize (lg_sl ([.int x, .int n]) ++ List.replicate (2 - (lg_sl ([.int x, .int n])).length) Slot.unset).toArray = ls at hl ⊢
  have hl : lv_has ls 2 [(0, .int x), (1, .int n)] := hl
  refine lv_iload_n hx hb zt_J0_checkIndex_df160_0 rfl (lv_at hl 0 rfl) ?_
  refine lv_iload_n hx hb zt_J0_checkIndex_df160_1 rfl (lv_at hl 1 rfl) ?_
  refine va_gets hx hb hSP.2.2 hS hown (hts _ zy_1053) (fun _ h => h) zt_J0_checkIndex_df160_2 ?_
  refine pc_i (va_runS (n := 3) (As := [.int x, .int n, va_rf fv]) (rest := []) (bytes := cJ3_checkIndex_8e157) (maxL := 3) (ret := (some .int)) ⟨hx, hb, hml, hown, hts0⟩ (zS_check3 l L adK adV fv h1 h2) ⟨callB_of _ hts0 (z_good zTW_good zw_J3_checkIndex_8e157.1.2.1) rfl rfl rfl (hts _ zw_J3_checkIndex_8e157.1.1) (hts _ zy_1059) ⟨zw_J3_checkIndex_8e157.1.2.2.1.1, zw_J3_checkIndex_8e157.1.2.2.1.2, zw_J3_checkIndex_8e157.1.2.2.2⟩ ⟨by decide, by decide⟩, hts _ zw_J3_checkIndex_8e157.2⟩ ⟨zSP.blind, fun U hU hW => ⟨rfl, hSP.go hS hU hW⟩⟩ rfl rfl hl.1 rfl (lv_room (Nat.le_of_ble_eq_true rfl)) zt_J0_checkIndex_df160_5 ⟨Nat.zero_le _, Nat.zero_le _⟩) (fun r hr0 => ?_)
  refine lv_pop hx hb zt_J0_checkIndex_df160_8 rfl ?_
  exact W.vret hx hb hr (fun t ht hW => ⟨rfl, ht⟩) (fun _ h => absurd h List.not_mem_nil) zt_J0_checkIndex_df160_9
theorem z_nc8 : ∀ k : Fin 256, narrow .char (.int (Int32.ofInt (k.val : Int))) = .int (Int32.ofInt (k.val : Int)) := by decide +kernel
theorem z_nch {x : Int32} (h1 : 0 ≤ x.toInt) (h2 : x.toInt ≤ 255) : narrow .char (.int x) = .int x := by
  have := z_nc8 ⟨x.toInt.toNat, by omega⟩
  simp only at this
  rw [show ((x.toInt.toNat : Nat) : Int) = x.toInt by omega, z_ofi] at this
  exact this
theorem z_dr (k a : Nat) : zdec η (k + 2) (a : Int) = .ref (η.1 a) := by
  unfold zdec zrf
  simp only
  rw [if_neg (by omega), Int.toNat_natCast]
  rfl
section ZSR
variable {kds : List zKD} {cl : List vw_C} {tyf : (Nat → ClassId) → List (ClassId × FieldType)} {l : Launch} {cc : ByteArray} {nL fr lo : Nat} {eff : List (Nat × Nat × Nat)}
end ZSR
end
section
/-! the reference: kinds; what its methods find -/
def zkdm : List zKD := [(1, 1, 2400, [(0, (-128), 127)]), (1, 0, 4, [(0, 0, 600)]), (1, 0, 4, [(0, (-2147483648), 2147483647)]), (1, 0, 4, [(0, (-2147483648), 2147483647)]), (1, 0, 12, [(0, 0, 2)]), (1, 0, 400, [(0, 0, 8), (0, 0, 8), (0, (-1), 99), (0, (-1), 99), (0, 0, 9), (0, 0, 4), (0, 0, 6), (0, 0, 99), (0, (-1), 99), (0, (-1), 99), (0, (-1), 99), (0, 0, 99), (0, (-1), 99), (0, (-1), 99), (0, (-1), 99), (0, 0, 99), (0, (-1), 99), (0, (-1), 99), (0, (-1), 99), (0, (-1), 99), (0, (-1), 99), (0, (-1), 99), (0, (-1), 99), (0, (-1), 99), (0, (-1), 99), (0, (-1), 99), (0, (-1), 99), (0, (-1), 99), (0, (-1), 99), (0, (-1), 99), (0, (-1), 99), (0, 0, 63), (0, (-1), 99), (0, 0, 2), (0, 0, 63), (0, (-1), 99), (0, 0, 2), (0, 0, 63), (0, (-1), 99), (0, 0, 2), (0, 0, 63), (0, (-1), 99), (0, 0, 2), (0, 0, 63), (0, (-1), 99), (0, 0, 2), (0, 0, 63), (0, (-1), 99), (0, 0, 2), (0, (-1), 99)]), (1, 0, 968, [(0, 0, 30), (0, (-1), 99), (0, (-1), 99), (0, (-1), 99), (0, (-1), 99), (0, (-1), 99), (0, (-1), 99), (0, (-1), 99), (0, (-1), 99), (0, (-1), 99), (0, (-1), 99), (0, (-1), 99), (0, (-1), 99), (0, (-1), 99), (0, (-1), 99), (0, (-1), 99), (0, (-1), 99), (0, (-1), 99), (0, (-1), 99), (0, (-1), 99), (0, (-1), 99), (0, (-1), 99), (0, (-1), 99), (0, (-1), 99), (0, (-1), 99), (0, (-1), 99), (0, (-1), 99), (0, (-1), 99), (0, (-1), 99), (0, (-1), 99), (0, (-1), 99), (0, (-1), 99), (0, (-1), 99), (0, (-1), 99), (0, (-1), 99), (0, (-1), 99), (0, (-1), 99), (0, (-1), 99), (0, (-1), 99), (0, (-1), 99), (0, (-1), 99), (0, (-1), 99), (0, (-1), 99), (0, (-1), 99), (0, (-1), 99), (0, (-1), 99), (0, (-1), 99), (0, (-1), 99), (0, (-1), 99), (0, (-1), 99), (0, (-1), 99), (0, (-1), 99), (0, (-1), 99), (0, (-1), 99), (0, (-1), 99), (0, (-1), 99), (0, (-1), 99), (0, (-1), 99), (0, (-1), 99), (0, (-1), 99), (0, (-1), 99), (0, (-1), 99), (0, (-1), 99), (0, (-1), 99), (0, (-1), 99), (0, (-1), 99), (0, (-1), 99), (0, (-1), 99), (0, (-1), 99), (0, (-1), 99), (0, (-1), 99), (0, (-1), 99), (0, (-1), 99), (0, (-1), 99), (0, (-1), 99), (0, (-1), 99), (0, (-1), 99), (0, (-1), 99), (0, (-1), 99), (0, (-1), 99), (0, (-1), 99), (0, (-1), 99), (0, (-1), 99), (0, (-1), 99), (0, (-1), 99), (0, (-1), 99), (0, (-1), 99), (0, (-1), 99), (0, (-1), 99), (0, (-1), 99), (0, (-1), 99), (0, (-1), 99), (0, (-1), 99), (0, (-1), 99), (0, (-1), 99), (0, (-1), 99), (0, (-1), 99), (0, (-1), 99), (0, (-1), 99), (0, (-1), 99), (0, (-1), 99), (0, (-1), 99), (0, (-1), 99), (0, (-1), 99), (0, (-1), 99), (0, (-1), 99), (0, (-1), 99), (0, (-1), 99), (0, (-1), 99), (0, (-1), 99), (0, (-1), 99), (0, (-1), 99), (0, (-1), 99), (0, (-1), 99), (0, (-1), 99), (0, (-1), 99), (0, (-1), 99), (0, (-1), 99), (0, (-1), 99), (0, (-1), 99), (0, (-1), 99)]), (1, 0, 416, [(0, 0, 9), (0, 0, 16), (0, (-1), 99), (0, (-1), 99), (0, (-1), 99), (0, (-1), 99), (0, (-1), 99), (0, (-1), 99), (0, (-1), 99), (0, (-1), 99), (0, (-1), 99), (0, (-1), 99), (0, (-1), 99), (0, (-1), 99), (0, (-1), 99), (0, (-1), 99), (0, (-1), 99), (0, (-1), 99), (0, (-1), 99), (0, (-1), 99), (0, 0, 8), (0, 0, 8), (0, 0, 8), (0, 0, 8), (0, 0, 8), (0, 0, 8), (0, 0, 8), (0, 0, 8), (0, 0, 8), (0, 0, 8), (0, 0, 8), (0, 0, 8), (0, 0, 8), (0, 0, 8), (0, 0, 8), (0, 0, 8), (0, 0, 8), (0, 0, 8), (0, 0, 8), (0, 0, 8), (0, 0, 8), (0, 0, 8), (0, 0, 8), (0, 0, 8), (0, 0, 8), (0, 0, 8), (0, 0, 8), (0, 0, 8), (0, 0, 8), (0, 0, 8), (0, 0, 8), (0, 0, 8)]), (1, 0, 121, [(0, (-1), 99)]), (1, 0, 5, [(0, (-1), 99)]), (1, 0, 6, [(0, 0, 63)]), (1, 0, 6, [(0, (-2147483648), 2147483647)]), (1, 0, 6, [(0, (-2147483648), 2147483647)]), (1, 0, 6, [(0, (-2147483648), 2147483647)]), (1, 0, 6, [(0, (-2147483648), 2147483647)]), (1, 0, 6, [(0, (-2147483648), 2147483647)]), (1, 0, 6, [(0, (-2147483648), 2147483647)]), (1, 0, 6, [(0, (-2147483648), 2147483647)]), (1, 0, 6, [(0, (-2147483648), 2147483647)]), (1, 0, 6, [(0, 0, 99)]), (1, 0, 6, [(0, (-1), 5)]), (1, 0, 30, [(0, (-2147483648), 2147483647)]), (1, 0, 30, [(0, (-2147483648), 2147483647)]), (1, 0, 30, [(0, (-2147483648), 2147483647)]), (1, 0, 30, [(0, (-2147483648), 2147483647)]), (1, 0, 30, [(0, (-2147483648), 2147483647)]), (1, 0, 30, [(0, (-2147483648), 2147483647)]), (1, 2, 1984, [(0, 0, 1)]), (1, 2, 1984, [(0, 0, 1)]), (1, 0, 9, [(0, 0, 511)]), (1, 0, 512, [(0, (-2147483648), 2147483647)]), (1, 0, 9, [(0, (-2147483648), 2147483647)]), (1, 0, 9, [(0, (-2147483648), 2147483647)]), (1, 0, 9, [(0, 0, 8)]), (1, 2, 3, [(0, 0, 1)]), (0, 12, 64, [(0, (-2147483648), 2147483647), (2, 0, 2147483647), (3, 0, 2147483647), (4, 0, 2147483647), (5, 0, 2147483647), (6, 0, 2147483647), (7, 0, 2147483647), (8, 0, 2147483647), (9, 0, 2147483647), (0, 0, 600), (0, 0, 600), (0, 0, 600), (0, 0, 4), (0, 0, 99), (1, (-9223372036854775808), 9223372036854775807), (0, (-2147483648), 2147483647), (0, 0, 4), (0, (-2147483648), 2147483647), (10, 0, 2147483647), (11, 0, 2147483647), (0, (-1), 99), (0, (-1), 99), (0, 0, 1), (0, 0, 1), (0, 0, 8), (0, 0, 8), (0, (-2147483648), 2147483647), (0, (-2147483648), 2147483647), (0, 0, 6), (0, 0, 4), (12, 0, 2147483647), (13, 0, 2147483647), (14, 0, 2147483647), (0, (-2147483648), 2147483647), (0, 0, 30), (0, 0, 6), (15, 0, 2147483647), (16, 0, 2147483647), (17, 0, 2147483647), (22, 0, 2147483647), (21, 0, 2147483647), (18, 0, 2147483647), (19, 0, 2147483647), (20, 0, 2147483647), (23, 0, 2147483647), (24, 0, 2147483647), (25, 0, 2147483647), (26, 0, 2147483647), (27, 0, 2147483647), (0, (-2147483648), 2147483647), (0, (-2147483648), 2147483647), (0, (-2147483648), 2147483647), (29, 0, 2147483647), (30, 0, 2147483647), (28, 0, 2147483647), (0, 0, 1), (0, 0, 9), (0, 0, 16), (31, 0, 2147483647), (32, 0, 2147483647), (33, 0, 2147483647), (34, 0, 2147483647), (35, 0, 2147483647), (36, 0, 2147483647)])]
theorem zkdm_35 : zkdm[35]? = some (0, 12, 64, [(0, (-2147483648), 2147483647), (2, 0, 2147483647), (3, 0, 2147483647), (4, 0, 2147483647), (5, 0, 2147483647), (6, 0, 2147483647), (7, 0, 2147483647), (8, 0, 2147483647), (9, 0, 2147483647), (0, 0, 600), (0, 0, 600), (0, 0, 600), (0, 0, 4), (0, 0, 99), (1, (-9223372036854775808), 9223372036854775807), (0, (-2147483648), 2147483647), (0, 0, 4), (0, (-2147483648), 2147483647), (10, 0, 2147483647), (11, 0, 2147483647), (0, (-1), 99), (0, (-1), 99), (0, 0, 1), (0, 0, 1), (0, 0, 8), (0, 0, 8), (0, (-2147483648), 2147483647), (0, (-2147483648), 2147483647), (0, 0, 6), (0, 0, 4), (12, 0, 2147483647), (13, 0, 2147483647), (14, 0, 2147483647), (0, (-2147483648), 2147483647), (0, 0, 30), (0, 0, 6), (15, 0, 2147483647), (16, 0, 2147483647), (17, 0, 2147483647), (22, 0, 2147483647), (21, 0, 2147483647), (18, 0, 2147483647), (19, 0, 2147483647), (20, 0, 2147483647), (23, 0, 2147483647), (24, 0, 2147483647), (25, 0, 2147483647), (26, 0, 2147483647), (27, 0, 2147483647), (0, (-2147483648), 2147483647), (0, (-2147483648), 2147483647), (0, (-2147483648), 2147483647), (29, 0, 2147483647), (30, 0, 2147483647), (28, 0, 2147483647), (0, 0, 1), (0, 0, 9), (0, 0, 16), (31, 0, 2147483647), (32, 0, 2147483647), (33, 0, 2147483647), (34, 0, 2147483647), (35, 0, 2147483647), (36, 0, 2147483647)]) := rfl
theorem zx_12 : ∀ w ∈ u_ws RX12 TX12 64, w ∈ zTW := zTpm _ [(6, 63), (6, 65), (6, 67), (6, 69), (6, 71), (6, 73), (6, 75), (6, 77), (6, 79), (6, 81), (6, 83), (6, 85), (6, 87), (6, 89), (6, 91), (6, 93), (6, 95), (6, 97), (6, 99), (6, 101), (6, 103), (6, 105), (6, 107), (6, 109), (6, 111), (6, 113), (6, 115), (6, 117), (6, 119), (6, 121), (6, 123), (6, 125), (6, 127), (6, 129), (6, 131), (6, 133), (6, 135), (6, 137), (6, 139), (6, 141), (6, 143), (6, 145), (6, 147), (6, 149), (6, 151), (6, 153), (6, 155), (6, 157), (6, 159), (6, 161), (6, 163), (6, 165), (6, 167), (6, 169), (6, 171), (6, 173), (6, 175), (6, 177), (6, 179), (6, 181), (6, 183), (6, 185), (6, 187), (6, 189)] (by decide +kernel) (by decide +kernel)
def zKPr : zKPt := fun _ D cy _ _ U => KW D cy U
theorem zkpr_ok : zKPok vwCl tyW zKPr := by
  refine ⟨fun _ D cy L Θ U h => ⟨h.1, rfl, rfl, rfl, fun t h1 h2 => ?_⟩, fun _ D cy L Θ s U h hW _ _ => h.warm hW, fun _ D cy L Θ U g mk a h => h.call⟩
  rcases (show t = 3 ∨ t = 4 ∨ t = 5 ∨ t = 6 by omega) with rfl | rfl | rfl | rfl
  · exact ⟨_, rfl⟩
  · exact ⟨_, rfl⟩
  · exact ⟨_, rfl⟩
  · exact ⟨_, rfl⟩
end
section
variable {η : zRn}
/-! walks by hand over the same heap: a row an instruction -/
/-- the machine, the code, the words, the classes -/
def hCx (D : va_G) (cl : List vw_C) (cy : Nat → ClassId) (L : List Nat) (p : Program) (s : State) (m : MethodId) (args : Array Value) (c : Code) (cc : ByteArray) (nL : Nat) (tys : List (ClassId × FieldType)) (Ts : List Cond) (own : String) : Prop :=
  p.tables.exec = Jvm.exec ∧ c.code = cc ∧ c.maxLocals = nL ∧ (∀ w ∈ Ts, w.before args s = true) ∧ s.vm.findClass own = some m.cls ∧ va_K D cl tys s ∧ zTy cy tys ∧ L.Nodup
section HWK
variable {kds : List zKD} {D : va_G} {cl : List vw_C} {cy : Nat → ClassId} {L : List Nat} {Θ : Nat → Option Nat} {h : Nat → Nat → Int} {H H0 : Heap} {locs : List Loc}
variable {p : Program} {l : Launch} {e : Env} {R : Room} {s : State} {m : MethodId} {args : Array Value} {below : List Frame} {meth : Method} {c : Code} {Q : State → Prop}
variable {cc : ByteArray} {pc nL : Nat} {tys : List (ClassId × FieldType)} {Ts : List Cond} {own : String} {ls : Array Slot} {rest : List Value}
theorem hw_get (X : hCx D cl cy L p s m args c cc nL tys Ts own) {idx ci k kk : Nat} {o : Option FieldType} {a : Nat} {K : zKD} (hF : zFok own Ts cl (idx, ci, k, o)) (hΘ : Θ a = some kk) (hK : kds[kk]? = some K) (hKf : K.1 = 0 ∧ K.2.1 = ci) (hk : k < K.2.2.1) (hH : zH η kds D cl cy L Θ h H) (hdg : decode cc pc = .ok (.getfield idx, 3))
    (w : W p l e R s m args below meth c H locs 0 0 Q (F0 m (pc + 3) ls (zdec η (zty K k).1 (h a k) :: rest))) : W p l e R s m args below meth c H locs 0 0 Q (F0 m pc ls (.ref (η.1 a) :: rest)) := by
  obtain ⟨hexec, hb, hml, hts, hown, hKa, hT, hnd⟩ := X
  obtain ⟨C, T, N, e1, e2, e3, e4, -⟩ := hF
  obtain ⟨q0, hq⟩ := zH_get hH hΘ hK (by omega)
  rw [zE_o hKf.1, hKf.2] at hq
  exact va_get (v := zdec η (zty K k).1 (h a k)) hexec hb hts e2 hown hKa hH.1 q0 hq e1 k e3 (hts _ e4) (fun _ x => x) (z_fs hk) hdg w
theorem hw_put (X : hCx D cl cy L p s m args c cc nL tys Ts own) {idx ci k kk : Nat} {ty : FieldType} {a : Nat} {K : zKD} {x : Int} (hF : zFok own Ts cl (idx, ci, k, some ty)) (hΘ : Θ a = some kk) (hK : kds[kk]? = some K) (hKf : K.1 = 0 ∧ K.2.1 = ci) (hk : k < K.2.2.1) (hft : zfty ty (zty K k) = true) (hx : zok Θ (zty K k).1 x ∧ (zty K k).2.1 ≤ x ∧ x ≤ (zty K k).2.2) (hH : zH η kds D cl cy L Θ h H) (hS : va_S (fun q => q ∈ L) H0 H locs) (hdg : decode cc pc = .ok (.putfield idx, 3))
    (w : ∀ (H1 : Heap) (locs1 : List Loc), zH η kds D cl cy L Θ (zup h a k x) H1 → va_S (fun q => q ∈ L) H0 H1 locs1 → W p l e R s m args below meth c H1 locs1 0 0 Q (F0 m (pc + 3) ls rest)) : W p l e R s m args below meth c H locs 0 0 Q (F0 m pc ls (zdec η (zty K k).1 x :: .ref (η.1 a) :: rest)) := by
  obtain ⟨hexec, hb, hml, hts, hown, hKa, hT, hnd⟩ := X
  obtain ⟨C, T, N, e1, e2, e3, e4, e5⟩ := hF
  obtain ⟨f1, ty0, f2, f3, f4⟩ := e5 ty rfl
  have hD : va_D (fun q => q ∈ L) ([] ++ va_pl L (zF η kds cy Θ h)) := z_D hnd (fun a ha => ha)
  obtain ⟨q0, hq⟩ := zH_get hH hΘ hK (by omega)
  have hq' := hq
  rw [zE_o hKf.1, hKf.2] at hq
  simp only at f4
  obtain ⟨c1, c2⟩ := z_fty hft hx.1 hx.2.1 hx.2.2
  rw [← f4] at c1 c2
  refine va_put hexec hb hts e2 ty0 f2 f3 hown hKa hH.1 hD hS q0 hq e1 k e3 (hts _ e4) (fun _ x => x) f1 (f2 k e3) c1 c2 (by simpa using hk) hdg (fun H1 locs1 hP1 hD1 hS1 => ?_)
  refine w H1 locs1 ?_ hS1
  refine zH_put hH hD hΘ hK (by omega) hk hx hq' ?_
  rw [zE_o hKf.1, hKf.2, ← z_fset]
  exact hP1
theorem hw_iald (X : hCx D cl cy L p s m args c cc nL tys Ts own) {kk : Nat} {a : Nat} {K : zKD} {i : Int32} (hΘ : Θ a = some kk) (hK : kds[kk]? = some K) (hKf : K.1 = 1 ∧ K.2.1 = 0) (hi : 0 ≤ i.toInt ∧ i.toInt < (K.2.2.1 : Int)) (hH : zH η kds D cl cy L Θ h H) (hdg : decode cc pc = .ok (.iaload, 1))
    (w : W p l e R s m args below meth c H locs 0 0 Q (F0 m (pc + 1) ls (.int (Int32.ofInt (h a i.toInt.toNat)) :: rest))) : W p l e R s m args below meth c H locs 0 0 Q (F0 m pc ls (.int i :: .ref (η.1 a) :: rest)) := by
  obtain ⟨hexec, hb, hml, hts, hown, hKa, hT, hnd⟩ := X
  obtain ⟨q0, hq⟩ := zH_get hH hΘ hK (by omega)
  rw [zE_i hKf.1, hKf.2] at hq
  obtain ⟨v1, v2⟩ := z_vin (i := i) (n := K.2.2.1) hi.1 hi.2
  refine va_iald hexec hb hKa hH.1 q0 0 hq hT.1 v1 hdg ?_
  rw [v2]
  exact w
theorem hw_bald (X : hCx D cl cy L p s m args c cc nL tys Ts own) {kk : Nat} {a : Nat} {K : zKD} {i : Int32} (hΘ : Θ a = some kk) (hK : kds[kk]? = some K) (hKf : K.1 = 1 ∧ (K.2.1 = 1 ∨ K.2.1 = 2)) (hi : 0 ≤ i.toInt ∧ i.toInt < (K.2.2.1 : Int)) (hH : zH η kds D cl cy L Θ h H) (hdg : decode cc pc = .ok (.baload, 1))
    (w : W p l e R s m args below meth c H locs 0 0 Q (F0 m (pc + 1) ls (.int (Int32.ofInt (h a i.toInt.toNat)) :: rest))) : W p l e R s m args below meth c H locs 0 0 Q (F0 m pc ls (.int i :: .ref (η.1 a) :: rest)) := by
  obtain ⟨hexec, hb, hml, hts, hown, hKa, hT, hnd⟩ := X
  obtain ⟨q0, hq⟩ := zH_get hH hΘ hK (by omega)
  rw [zE_i hKf.1] at hq
  obtain ⟨v1, v2⟩ := z_vin (i := i) (n := K.2.2.1) hi.1 hi.2
  rcases hKf.2 with e0 | e0
  · rw [e0] at hq
    refine va_bald hexec hb hKa hH.1 q0 1 hq hT.2.1 v1 hdg ?_
    rw [v2]
    exact w
  · rw [e0] at hq
    refine va_zald hexec hb hKa hH.1 q0 2 hq hT.2.2.1 v1 hdg ?_
    rw [v2]
    exact w
end HWK
/-! a method some of whose marked places are walked by hand -/
end
section
variable {η : zRn}
/-! walks over numbers: what a stretch of code does to locals, stack and cells, as a predicate of the numbers. A value is a tag and a number: 0 int, 1 long, k + 2 a cell of kind k or null (-1), k + 100002 a cell of kind k -/
abbrev yV : Type := Nat × Int
abbrev yL : Type := List (Nat × yV)
abbrev yH : Type := Nat → Nat → Int
abbrev yP : Type := yL → List yV → yH → Prop
abbrev yQt : Type := yV → yH → Prop
abbrev yB : Type := (Nat → Option Nat) → List Int → yH → yQt → Prop
def yvo (η : zRn) (a : yV) : Value := zdec η a.1 a.2
def yok (Θ : Nat → Option Nat) (a : yV) : Prop := @ite Prop (a.1 < 100002) (Classical.propDecidable _) (zok Θ a.1 a.2) (0 ≤ a.2 ∧ Θ a.2.toNat = some (a.1 - 100002))
def yfind : yL → Nat → Option yV
  | [], _ => none
  | (j, a) :: r, i => if j = i then some a else yfind r i
def ydel : yL → Nat → yL
  | [], _ => []
  | (j, a) :: r, i => if j = i then ydel r i else if j + 1 = i ∧ a.1 = 1 then ydel r i else (j, a) :: ydel r i
def yput (loc : yL) (i : Nat) (a : yV) : yL := (i, a) :: ydel loc i
/-- values as they come from a slot of a kind: the tag of a slot that is never null -/
def ytag (t : Nat × Int × Int) : Nat := if 2 ≤ t.1 ∧ 0 ≤ t.2.1 then t.1 + 100000 else t.1
def yG (η : zRn) (kds : List zKD) (D : va_G) (cl : List vw_C) (cy : Nat → ClassId) (L : List Nat) (Θ : Nat → Option Nat) (H0 : Heap) (nL : Nat) (loc : yL) (st : List yV) (h : yH) (H : Heap) (locs : List Loc) (ls : Array Slot) : Prop :=
  (∀ q ∈ loc, yok Θ q.2) ∧ lv_has ls nL (loc.map fun q => (q.1, yvo η q.2)) ∧ (∀ a ∈ st, yok Θ a) ∧ zH η kds D cl cy L Θ h H ∧ va_S (fun q => q ∈ L) H0 H locs
def yGo (η : zRn) (kds : List zKD) (D : va_G) (cl : List vw_C) (cy : Nat → ClassId) (L : List Nat) (Θ : Nat → Option Nat) (nL : Nat) (p : Program) (l : Launch) (e : Env) (R : Room) (s : State) (m : MethodId) (args : Array Value) (below : List Frame) (meth : Method) (c : Code) (Q : State → Prop) (pc : Nat) (P : yP) : Prop :=
  ∀ (loc : yL) (st : List yV) (h : yH) (H : Heap) (locs : List Loc) (ls : Array Slot), P loc st h → yG η kds D cl cy L Θ s.heap nL loc st h H locs ls → W p l e R s m args below meth c H locs 0 0 Q (F0 m pc ls (st.map (yvo η)))
/-! what instructions are -/
def yCst (t : Nat) (n : Int) (P : yP) : yP := fun loc st h => P loc ((t, n) :: st) h
def yLd (i t : Nat) (P : yP) : yP := fun loc st h => match yfind loc i with
  | some a => a.1 = t ∧ P loc (a :: st) h
  | none => False
def ySt (i t : Nat) (P : yP) : yP := fun loc st h => match st with
  | a :: st' => a.1 = t ∧ P (yput loc i a) st' h
  | [] => False
def ySt2 (i : Nat) (P : yP) : yP := fun loc st h => match st with
  | a :: st' => a.1 = 1 ∧ P (yput (ydel loc (i + 1)) i a) st' h
  | [] => False
def yInc (i : Nat) (n : Int) (P : yP) : yP := fun loc st h => match yfind loc i with
  | some a => a.1 = 0 ∧ (-2147483648 ≤ a.2 + n ∧ a.2 + n ≤ 2147483647) ∧ P (yput loc i (0, a.2 + n)) st h
  | none => False
def yAdd (P : yP) : yP := fun loc st h => match st with
  | b :: a :: st' => (a.1 = 0 ∧ b.1 = 0) ∧ (-2147483648 ≤ a.2 + b.2 ∧ a.2 + b.2 ≤ 2147483647) ∧ P loc ((0, a.2 + b.2) :: st') h
  | _ => False
def ySub (P : yP) : yP := fun loc st h => match st with
  | b :: a :: st' => (a.1 = 0 ∧ b.1 = 0) ∧ (-2147483648 ≤ a.2 - b.2 ∧ a.2 - b.2 ≤ 2147483647) ∧ P loc ((0, a.2 - b.2) :: st') h
  | _ => False
def yMul (P : yP) : yP := fun loc st h => match st with
  | b :: a :: st' => (a.1 = 0 ∧ b.1 = 0) ∧ (-2147483648 ≤ a.2 * b.2 ∧ a.2 * b.2 ≤ 2147483647) ∧ P loc ((0, a.2 * b.2) :: st') h
  | _ => False
/-- the other operations of two numbers, as the machine does them -/
def yari (op : Nat) (x y : Int) : Int := (zsem op (Int32.ofInt x) (Int32.ofInt y)).toInt
def yAri (op : Nat) (P : yP) : yP := fun loc st h => match st with
  | b :: a :: st' => (a.1 = 0 ∧ b.1 = 0) ∧ P loc ((0, yari op a.2 b.2) :: st') h
  | _ => False
def yushr (x y : Int) : Int := (((Int32.ofInt x).toUInt32 >>> ((Int32.ofInt y).toUInt32 &&& Int32.toUInt32 31)).toInt32).toInt
def yUshr (P : yP) : yP := fun loc st h => match st with
  | b :: a :: st' => (a.1 = 0 ∧ b.1 = 0) ∧ P loc ((0, yushr a.2 b.2) :: st') h
  | _ => False
def yi2b (x : Int) : Int := ((Int32.ofInt x).toInt8.toInt32).toInt
def yI2b (P : yP) : yP := fun loc st h => match st with
  | a :: st' => a.1 = 0 ∧ P loc ((0, yi2b a.2) :: st') h
  | _ => False
def yI2l (P : yP) : yP := fun loc st h => match st with
  | a :: st' => a.1 = 0 ∧ P loc ((1, a.2) :: st') h
  | _ => False
def ylor (x y : Int) : Int := (Int64.ofInt x ||| Int64.ofInt y).toInt
def yLor (P : yP) : yP := fun loc st h => match st with
  | b :: a :: st' => (a.1 = 1 ∧ b.1 = 1) ∧ P loc ((1, ylor a.2 b.2) :: st') h
  | _ => False
def ylshl (x y : Int) : Int := (Int64.ofInt x <<< ((Int32.ofInt y).toInt64 &&& 63)).toInt
def yLshl (P : yP) : yP := fun loc st h => match st with
  | b :: a :: st' => (a.1 = 1 ∧ b.1 = 0) ∧ P loc ((1, ylshl a.2 b.2) :: st') h
  | _ => False
def yDup (P : yP) : yP := fun loc st h => match st with
  | a :: st' => ¬ a.1 = 1 ∧ P loc (a :: a :: st') h
  | _ => False
def yDup2 (P : yP) : yP := fun loc st h => match st with
  | a :: b :: st' => (¬ a.1 = 1 ∧ ¬ b.1 = 1) ∧ P loc (a :: b :: a :: b :: st') h
  | _ => False
def yPop (P : yP) : yP := fun loc st h => match st with
  | a :: st' => ¬ a.1 = 1 ∧ P loc st' h
  | _ => False
/-- a value that may be null is none (no instruction) -/
def yNn (Θ : Nat → Option Nat) (P : yP) : yP := fun loc st h => match st with
  | a :: st' => (2 ≤ a.1 ∧ a.1 < 100002) ∧ 0 ≤ a.2 ∧ (Θ a.2.toNat = some (a.1 - 2) → P loc ((a.1 + 100000, a.2) :: st') h)
  | _ => False
def yGet (k j t : Nat) (lo hi : Int) (P : yP) : yP := fun loc st h => match st with
  | a :: st' => a.1 = k + 100002 ∧ (lo ≤ h a.2.toNat j → h a.2.toNat j ≤ hi → P loc ((t, h a.2.toNat j) :: st') h)
  | _ => False
/-- a field that holds a cell -/
def yGetP (Θ : Nat → Option Nat) (k j k2 : Nat) (P : yP) : yP := fun loc st h => match st with
  | a :: st' => a.1 = k + 100002 ∧ (0 ≤ h a.2.toNat j → Θ (h a.2.toNat j).toNat = some k2 → P loc ((k2 + 100002, h a.2.toNat j) :: st') h)
  | _ => False
def yPut (k j : Nat) (lo hi : Int) (P : yP) : yP := fun loc st h => match st with
  | v :: a :: st' => (a.1 = k + 100002 ∧ v.1 = 0) ∧ (lo ≤ v.2 ∧ v.2 ≤ hi) ∧ P loc st' (zup h a.2.toNat j v.2)
  | _ => False
def yPut0 (k j t : Nat) (P : yP) : yP := fun loc st h => match st with
  | v :: a :: st' => (a.1 = k + 100002 ∧ v.1 = t) ∧ P loc st' (zup h a.2.toNat j v.2)
  | _ => False
def yAld (k n : Nat) (lo hi : Nat → Int) (P : yP) : yP := fun loc st h => match st with
  | i :: a :: st' => (a.1 = k + 100002 ∧ i.1 = 0) ∧ (0 ≤ i.2 ∧ i.2 < (n : Int)) ∧ (lo i.2.toNat ≤ h a.2.toNat i.2.toNat → h a.2.toNat i.2.toNat ≤ hi i.2.toNat → P loc ((0, h a.2.toNat i.2.toNat) :: st') h)
  | _ => False
def yAldq (Θ : Nat → Option Nat) (k n k2 : Nat) (P : yP) : yP := fun loc st h => match st with
  | i :: a :: st' => (a.1 = k + 100002 ∧ i.1 = 0) ∧ (0 ≤ i.2 ∧ i.2 < (n : Int)) ∧ (0 ≤ h a.2.toNat i.2.toNat → Θ (h a.2.toNat i.2.toNat).toNat = some k2 → P loc ((k2 + 100002, h a.2.toNat i.2.toNat) :: st') h)
  | _ => False
def yAst (k n : Nat) (lo hi : Nat → Int) (P : yP) : yP := fun loc st h => match st with
  | v :: i :: a :: st' => (a.1 = k + 100002 ∧ i.1 = 0 ∧ v.1 = 0) ∧ (0 ≤ i.2 ∧ i.2 < (n : Int)) ∧ (lo i.2.toNat ≤ v.2 ∧ v.2 ≤ hi i.2.toNat) ∧ P loc st' (zup h a.2.toNat i.2.toNat v.2)
  | _ => False
def yLen (k : Nat) (n : Int) (P : yP) : yP := fun loc st h => match st with
  | a :: st' => a.1 = k + 100002 ∧ P loc ((0, n) :: st') h
  | _ => False
def yLt (P1 P2 : yP) : yP := fun loc st h => match st with
  | b :: a :: st' => (a.1 = 0 ∧ b.1 = 0) ∧ if a.2 < b.2 then P1 loc st' h else P2 loc st' h
  | _ => False
def yGt (P1 P2 : yP) : yP := fun loc st h => match st with
  | b :: a :: st' => (a.1 = 0 ∧ b.1 = 0) ∧ if b.2 < a.2 then P1 loc st' h else P2 loc st' h
  | _ => False
def yEq (P1 P2 : yP) : yP := fun loc st h => match st with
  | b :: a :: st' => (a.1 = 0 ∧ b.1 = 0) ∧ if a.2 = b.2 then P1 loc st' h else P2 loc st' h
  | _ => False
def yLt0 (P1 P2 : yP) : yP := fun loc st h => match st with
  | a :: st' => a.1 = 0 ∧ if a.2 < 0 then P1 loc st' h else P2 loc st' h
  | _ => False
def yGt0 (P1 P2 : yP) : yP := fun loc st h => match st with
  | a :: st' => a.1 = 0 ∧ if 0 < a.2 then P1 loc st' h else P2 loc st' h
  | _ => False
def yEq0 (P1 P2 : yP) : yP := fun loc st h => match st with
  | a :: st' => a.1 = 0 ∧ if a.2 = 0 then P1 loc st' h else P2 loc st' h
  | _ => False
/-- two longs: alike or not -/
def yLEq (P1 P2 : yP) : yP := fun loc st h => match st with
  | b :: a :: st' => (a.1 = 1 ∧ b.1 = 1) ∧ if a.2 = b.2 then P1 loc st' h else P2 loc st' h
  | _ => False
def yNull (P1 P2 : yP) : yP := fun loc st h => match st with
  | a :: st' => 2 ≤ a.1 ∧ if a.2 < 0 then P1 loc st' h else P2 loc st' h
  | _ => False
def ysw (x : Int) (Pd : yP) : List (Int × yP) → yP
  | [] => Pd
  | (k, P) :: r => fun loc st h => if x = k then P loc st h else ysw x Pd r loc st h
def ySw (l : List (Int × yP)) (Pd : yP) : yP := fun loc st h => match st with
  | a :: st' => a.1 = 0 ∧ ysw a.2 Pd l loc st' h
  | _ => False
def yRi (R : yQt) : yP := fun _ st h => match st with
  | [a] => a.1 = 0 ∧ R a h
  | _ => False
def yRz (R : yQt) : yP := fun _ st h => match st with
  | [a] => a.1 = 0 ∧ (0 ≤ a.2 ∧ a.2 ≤ 1) ∧ R a h
  | _ => False
/-- a reference goes back as one that may be null -/
def yRa (k : Nat) (R : yQt) : yP := fun _ st h => match st with
  | [a] => (a.1 = k + 100002 ∨ a.1 = k + 2 ∨ (2 ≤ a.1 ∧ a.2 = -1)) ∧ R (k + 2, a.2) h
  | _ => False
def yRv (R : yQt) : yP := fun _ st h => match st with
  | [] => R (0, 0) h
  | _ => False
/-- a call, of a method with an answer and of one without: tags of the values, and what the method does -/
def yCalR (Θ : Nat → Option Nat) (n : Nat) (tags : List Nat) (B : yB) (P : yP) : yP := fun loc st h => (n ≤ st.length ∧ (st.drop n).length ≤ 4) ∧ (st.take n).reverse.map Prod.fst = tags ∧ B Θ ((st.take n).reverse.map Prod.snd) h (fun v h' => yok Θ v → P loc (v :: st.drop n) h')
def yCalV (Θ : Nat → Option Nat) (n : Nat) (tags : List Nat) (B : yB) (P : yP) : yP := fun loc st h => (n ≤ st.length ∧ (st.drop n).length ≤ 4) ∧ (st.take n).reverse.map Prod.fst = tags ∧ B Θ ((st.take n).reverse.map Prod.snd) h (fun _ h' => P loc (st.drop n) h')
end
section
variable {η : zRn}
/-! the rows -/
theorem y_int {Θ : Nat → Option Nat} {a : yV} (h : yok Θ a) (ht : a.1 = 0) : ∃ x : Int32, yvo η a = .int x ∧ x.toInt = a.2 := by
  obtain ⟨t, n⟩ := a
  simp only at ht
  subst ht
  unfold yok at h
  rw [if_pos (by simp)] at h
  exact ⟨Int32.ofInt n, rfl, z_toi h.1 h.2⟩
theorem y_long {Θ : Nat → Option Nat} {a : yV} (h : yok Θ a) (ht : a.1 = 1) : ∃ x : Int64, yvo η a = .long x ∧ x.toInt = a.2 := by
  obtain ⟨t, n⟩ := a
  simp only at ht
  subst ht
  unfold yok at h
  rw [if_pos (by simp)] at h
  refine ⟨Int64.ofInt n, rfl, ?_⟩
  have h2 : -9223372036854775808 ≤ n ∧ n ≤ 9223372036854775807 := h
  rw [Int64.toInt_ofInt]
  exact Int.bmod_eq_of_le (by simp only [Int64.size]; omega) (by simp only [Int64.size]; omega)
theorem y_ref {Θ : Nat → Option Nat} {a : yV} {k : Nat} (h : yok Θ a) (ht : a.1 = k + 100002) : 0 ≤ a.2 ∧ Θ a.2.toNat = some k ∧ yvo η a = .ref (η.1 a.2.toNat) := by
  obtain ⟨t, n⟩ := a
  simp only at ht
  subst ht
  unfold yok at h
  rw [if_neg (by simp)] at h
  refine ⟨h.1, h.2.trans (congrArg some (by simp only; omega)), ?_⟩
  show zdec η (k + 100002) n = _
  show va_rf (zrf η n) = _
  unfold zrf
  rw [if_neg (by have := h.1; simp only at this; omega)]
  rfl
theorem y_zok {Θ : Nat → Option Nat} {t : Nat} {x : Int} (h : 2 ≤ t) (hz : zok Θ t x) : x = -1 ∨ (0 ≤ x ∧ Θ x.toNat = some (t - 2)) := by
  match t, h, hz with
  | t + 2, _, hz => exact hz
theorem y_okn {Θ : Nat → Option Nat} {t : Nat} {n : Int} (h1 : 2 ≤ t) (h3 : 0 ≤ n) (hΘ : Θ n.toNat = some (t - 2)) : yok Θ (t + 100000, n) := by
  unfold yok
  rw [if_neg (by simp only; omega)]
  exact ⟨h3, hΘ.trans (congrArg some (by simp only; omega))⟩
theorem y_nul {Θ : Nat → Option Nat} {a : yV} (h : yok Θ a) (ht : 2 ≤ a.1) : (a.2 < 0 ∧ yvo η a = .null) ∨ (0 ≤ a.2 ∧ yvo η a = .ref (η.1 a.2.toNat)) := by
  obtain ⟨t, n⟩ := a
  match t, ht with
  | t + 2, _ =>
    by_cases hn : n < 0
    · refine Or.inl ⟨hn, ?_⟩
      show va_rf (zrf η n) = _
      unfold zrf
      rw [if_pos hn]
      rfl
    · refine Or.inr ⟨by simp only; omega, ?_⟩
      show va_rf (zrf η n) = _
      unfold zrf
      rw [if_neg hn]
      rfl
theorem y_i0 (Θ : Nat → Option Nat) (x : Int32) : yok Θ (0, x.toInt) := by
  unfold yok
  rw [if_pos (by simp)]
  exact ⟨z_lo x, z_hi x⟩
theorem y_i {Θ : Nat → Option Nat} {n : Int} (h1 : -2147483648 ≤ n) (h2 : n ≤ 2147483647) : yok Θ (0, n) := by
  unfold yok
  rw [if_pos (by simp)]
  exact ⟨h1, h2⟩
theorem y_l0 (Θ : Nat → Option Nat) (x : Int64) : yok Θ (1, x.toInt) := by
  unfold yok
  rw [if_pos (by simp)]
  exact ⟨z_lo64 x, z_hi64 x⟩
theorem y_cat (a : yV) : ((yvo η a).category == 2) = (a.1 == 1) := z_cat a.1 a.2
theorem y_cat1 (a : yV) (h : ¬ a.1 = 1) : (yvo η a).category = 1 := z_cat1 a.2 h
theorem y_fm {loc : yL} {i : Nat} {a : yV} (h : yfind loc i = some a) : (i, a) ∈ loc := by
  induction loc with
  | nil => cases h
  | cons q r ih =>
    obtain ⟨j, b⟩ := q
    unfold yfind at h
    split at h
    · rename_i e
      cases h
      subst e
      exact List.mem_cons_self
    · exact List.mem_cons_of_mem _ (ih h)
theorem y_del (loc : yL) (i : Nat) : ydel loc i = loc.filter (fun q => !(q.1 == i) && !(q.1 + 1 == i && q.2.1 == 1)) := by
  induction loc with
  | nil => rfl
  | cons q r ih =>
    obtain ⟨j, a⟩ := q
    unfold ydel
    rw [List.filter_cons, ih]
    by_cases h1 : j = i
    · simp [h1]
    · by_cases h2 : j + 1 = i ∧ a.1 = 1
      · simp [h1, h2.1, h2.2]
      · rw [if_neg h1, if_neg h2]
        rw [if_pos]
        simp only [Bool.and_eq_true, Bool.not_eq_true', beq_eq_false_iff_ne, ne_eq, Bool.and_eq_false_iff]
        refine ⟨h1, ?_⟩
        by_cases h3 : j + 1 = i
        · exact Or.inr (fun h4 => h2 ⟨h3, h4⟩)
        · exact Or.inl h3
theorem y_dsub {loc : yL} {i : Nat} : ∀ q ∈ ydel loc i, q ∈ loc := by
  intro q hq
  rw [y_del] at hq
  exact (List.mem_filter.mp hq).1
theorem y_pmap {loc : yL} {i : Nat} {a : yV} : (i, yvo η a) :: (loc.map fun q => (q.1, yvo η q.2)).filter (fun q => !(q.1 == i) && !(q.1 + 1 == i && q.2.category == 2)) = (yput loc i a).map fun q => (q.1, yvo η q.2) := by
  unfold yput
  rw [List.map_cons, y_del, List.filter_map]
  congr 2
  apply List.filter_congr
  intro q _
  simp only [Function.comp]
  rw [y_cat]
theorem y_pm {Pr : yV → Prop} {loc : yL} {i : Nat} {a : yV} (h : ∀ q ∈ loc, Pr q.2) (ha : Pr a) : ∀ q ∈ yput loc i a, Pr q.2 := by
  intro q hq
  rcases List.mem_cons.mp hq with rfl | hq
  · exact ha
  · exact h q (y_dsub q hq)
section YRW
variable {kds : List zKD} {D : va_G} {cl : List vw_C} {cy : Nat → ClassId} {L : List Nat} {Θ : Nat → Option Nat} {nL : Nat}
variable {p : Program} {l : Launch} {e : Env} {R : Room} {s : State} {m : MethodId} {args : Array Value} {below : List Frame} {meth : Method} {c : Code} {Q : State → Prop}
variable {cc : ByteArray} {pc : Nat} {tys : List (ClassId × FieldType)} {Ts : List Cond} {own : String} {P P1 P2 : yP}
theorem yr_mono {P' : yP} (h : ∀ loc st h, P loc st h → P' loc st h) (k : yGo η kds D cl cy L Θ nL p l e R s m args below meth c Q (pc) (P')) : yGo η kds D cl cy L Θ nL p l e R s m args below meth c Q (pc) (P) := fun loc st h' H locs ls hp g => k loc st h' H locs ls (h loc st h' hp) g
theorem yg_st {loc : yL} {st st' : List yV} {h : yH} {H H0 : Heap} {locs : List Loc} {ls : Array Slot} (g : yG η kds D cl cy L Θ H0 nL loc st h H locs ls) (hs : ∀ a ∈ st', yok Θ a) : yG η kds D cl cy L Θ H0 nL loc st' h H locs ls := ⟨g.1, g.2.1, hs, g.2.2.2.1, g.2.2.2.2⟩
/-- a constant -/
theorem yr_cst {t : Nat} {n : Int} {len : Nat} (hn : yok Θ (t, n)) (hw : ∀ (H : Heap) (locs : List Loc) (ls : Array Slot) (rest : List Value), W p l e R s m args below meth c H locs 0 0 Q (F0 m (pc + len) ls (yvo η (t, n) :: rest)) → W p l e R s m args below meth c H locs 0 0 Q (F0 m pc ls rest)) (k : yGo η kds D cl cy L Θ nL p l e R s m args below meth c Q (pc + len) (P)) : yGo η kds D cl cy L Θ nL p l e R s m args below meth c Q (pc) (yCst t n P) := by
  intro loc st h H locs ls hp g
  refine hw H locs ls _ (k loc ((t, n) :: st) h H locs ls hp (yg_st g ?_))
  intro a ha
  rcases List.mem_cons.mp ha with rfl | ha
  · exact hn
  · exact g.2.2.1 a ha
theorem yr_iconst (X : hCx D cl cy L p s m args c cc nL tys Ts own) {n : Int} (hd : decode cc pc = .ok (.iconst n, 1)) (hn : -1 ≤ n ∧ n ≤ 5) (k : yGo η kds D cl cy L Θ nL p l e R s m args below meth c Q (pc + 1) (P)) : yGo η kds D cl cy L Θ nL p l e R s m args below meth c Q (pc) (yCst 0 n P) :=
  yr_cst (y_i (by omega) (by omega)) (fun _ _ _ _ w => lv_iconst X.1 X.2.1 hd rfl w) k
theorem yr_bipush (X : hCx D cl cy L p s m args c cc nL tys Ts own) {n : Int} (hd : decode cc pc = .ok (.bipush n, 2)) (hn : -128 ≤ n ∧ n ≤ 127) (k : yGo η kds D cl cy L Θ nL p l e R s m args below meth c Q (pc + 2) (P)) : yGo η kds D cl cy L Θ nL p l e R s m args below meth c Q (pc) (yCst 0 n P) :=
  yr_cst (y_i (by omega) (by omega)) (fun _ _ _ _ w => lv_bipush X.1 X.2.1 hd (z_b8 hn.1 hn.2) w) k
theorem yr_sipush (X : hCx D cl cy L p s m args c cc nL tys Ts own) {n : Int} (hd : decode cc pc = .ok (.sipush n, 3)) (hn : -32768 ≤ n ∧ n ≤ 32767) (k : yGo η kds D cl cy L Θ nL p l e R s m args below meth c Q (pc + 3) (P)) : yGo η kds D cl cy L Θ nL p l e R s m args below meth c Q (pc) (yCst 0 n P) :=
  yr_cst (y_i (by omega) (by omega)) (fun _ _ _ _ w => lv_sipush X.1 X.2.1 hd (z_b16 hn.1 hn.2) w) k
theorem yr_lconst (X : hCx D cl cy L p s m args c cc nL tys Ts own) {n : Fin 2} {v : Int} (hv : (n.val : Int) = v) (hd : decode cc pc = .ok (.lconst n, 1)) (k : yGo η kds D cl cy L Θ nL p l e R s m args below meth c Q (pc + 1) (P)) : yGo η kds D cl cy L Θ nL p l e R s m args below meth c Q (pc) (yCst 1 v P) := by
  subst hv
  exact yr_cst (by unfold yok; rw [if_pos (by simp)]; show _ ∧ _; have := n.isLt; omega) (fun _ _ _ _ w => lv_lconst X.1 X.2.1 hd Int64.ofInt_eq_ofNat.symm w) k
theorem yr_ldc2 (X : hCx D cl cy L p s m args c cc nL tys Ts own) {i : Nat} {n : Int} (hd : decode cc pc = .ok (.ldc2_w i, 3)) (hc : Cond.constantLong own i (Int64.ofInt n) ∈ Ts) (hn : -9223372036854775808 ≤ n ∧ n ≤ 9223372036854775807) (k : yGo η kds D cl cy L Θ nL p l e R s m args below meth c Q (pc + 3) (P)) : yGo η kds D cl cy L Θ nL p l e R s m args below meth c Q (pc) (yCst 1 n P) :=
  yr_cst (by unfold yok; rw [if_pos (by simp)]; exact hn) (fun _ _ _ _ w => lv_ldc2 X.1 X.2.1 X.2.2.2.2.1 (X.2.2.2.1 _ hc) hd w) k
theorem yr_null (X : hCx D cl cy L p s m args c cc nL tys Ts own) (hd : decode cc pc = .ok (.aconst_null, 1)) (k : yGo η kds D cl cy L Θ nL p l e R s m args below meth c Q (pc + 1) (P)) : yGo η kds D cl cy L Θ nL p l e R s m args below meth c Q (pc) (yCst 2 (-1) P) :=
  yr_cst (by unfold yok; rw [if_pos (by simp)]; exact Or.inl rfl) (fun _ _ _ _ w => lv_null X.1 X.2.1 hd w) k
/-- a local comes on the stack -/
theorem yr_ld0 {i t len : Nat} (hw : ∀ (a : yV) (H : Heap) (locs : List Loc) (ls : Array Slot) (rest : List Value), a.1 = t → yok Θ a → ls[i]? = some (.val (yvo η a)) → W p l e R s m args below meth c H locs 0 0 Q (F0 m (pc + len) ls (yvo η a :: rest)) → W p l e R s m args below meth c H locs 0 0 Q (F0 m pc ls rest)) (k : yGo η kds D cl cy L Θ nL p l e R s m args below meth c Q (pc + len) (P)) : yGo η kds D cl cy L Θ nL p l e R s m args below meth c Q (pc) (yLd i t P) := by
  intro loc st h H locs ls hp g
  unfold yLd at hp
  split at hp
  · rename_i a ha
    have hm := y_fm ha
    refine hw a H locs ls _ hp.1 (g.1 _ hm) (g.2.1.2.2 (i, yvo η a) (List.mem_map.mpr ⟨(i, a), hm, rfl⟩)) (k loc (a :: st) h H locs ls hp.2 (yg_st g ?_))
    intro b hb
    rcases List.mem_cons.mp hb with rfl | hb
    · exact g.1 _ hm
    · exact g.2.2.1 b hb
  · exact hp.elim
theorem yr_iload (X : hCx D cl cy L p s m args c cc nL tys Ts own) {i : Nat} (hd : decode cc pc = .ok (.iload i, 2)) (k : yGo η kds D cl cy L Θ nL p l e R s m args below meth c Q (pc + 2) (P)) : yGo η kds D cl cy L Θ nL p l e R s m args below meth c Q (pc) (yLd i 0 P) :=
  yr_ld0 (fun a H locs ls rest ht ha hl w => by
    obtain ⟨x, hx, -⟩ := y_int (η := η) ha ht
    rw [hx] at hl w
    exact lv_iload X.1 X.2.1 hd hl w) k
theorem yr_iload_n (X : hCx D cl cy L p s m args c cc nL tys Ts own) {kf : Fin 4} {i : Nat} (hkf : kf.val = i) (hd : decode cc pc = .ok (.iload_n kf, 1)) (k : yGo η kds D cl cy L Θ nL p l e R s m args below meth c Q (pc + 1) (P)) : yGo η kds D cl cy L Θ nL p l e R s m args below meth c Q (pc) (yLd i 0 P) :=
  yr_ld0 (fun a H locs ls rest ht ha hl w => by
    obtain ⟨x, hx, -⟩ := y_int (η := η) ha ht
    rw [hx] at hl w
    exact lv_iload_n X.1 X.2.1 hd hkf hl w) k
theorem yr_lload (X : hCx D cl cy L p s m args c cc nL tys Ts own) {i : Nat} (hd : decode cc pc = .ok (.lload i, 2)) (k : yGo η kds D cl cy L Θ nL p l e R s m args below meth c Q (pc + 2) (P)) : yGo η kds D cl cy L Θ nL p l e R s m args below meth c Q (pc) (yLd i 1 P) :=
  yr_ld0 (fun a H locs ls rest ht ha hl w => by
    obtain ⟨x, hx, -⟩ := y_long (η := η) ha ht
    rw [hx] at hl w
    exact lv_lload X.1 X.2.1 hd hl w) k
theorem yr_lload_n (X : hCx D cl cy L p s m args c cc nL tys Ts own) {kf : Fin 4} {i : Nat} (hkf : kf.val = i) (hd : decode cc pc = .ok (.lload_n kf, 1)) (k : yGo η kds D cl cy L Θ nL p l e R s m args below meth c Q (pc + 1) (P)) : yGo η kds D cl cy L Θ nL p l e R s m args below meth c Q (pc) (yLd i 1 P) :=
  yr_ld0 (fun a H locs ls rest ht ha hl w => by
    obtain ⟨x, hx, -⟩ := y_long (η := η) ha ht
    rw [hx] at hl w
    exact lv_lload_n X.1 X.2.1 hd hkf hl w) k
theorem yr_aload (X : hCx D cl cy L p s m args c cc nL tys Ts own) {i t : Nat} (ht2 : 2 ≤ t) (hd : decode cc pc = .ok (.aload i, 2)) (k : yGo η kds D cl cy L Θ nL p l e R s m args below meth c Q (pc + 2) (P)) : yGo η kds D cl cy L Θ nL p l e R s m args below meth c Q (pc) (yLd i t P) :=
  yr_ld0 (fun a H locs ls rest ht ha hl w => by
    rcases y_nul (η := η) ha (by omega) with ⟨-, hx⟩ | ⟨-, hx⟩
    · rw [hx] at hl w
      exact lv_aloadN X.1 X.2.1 hd hl w
    · rw [hx] at hl w
      exact lv_aload X.1 X.2.1 hd hl w) k
theorem yr_aload_n (X : hCx D cl cy L p s m args c cc nL tys Ts own) {kf : Fin 4} {i : Nat} (hkf : kf.val = i) {t : Nat} (ht2 : 2 ≤ t) (hd : decode cc pc = .ok (.aload_n kf, 1)) (k : yGo η kds D cl cy L Θ nL p l e R s m args below meth c Q (pc + 1) (P)) : yGo η kds D cl cy L Θ nL p l e R s m args below meth c Q (pc) (yLd i t P) :=
  yr_ld0 (fun a H locs ls rest ht ha hl w => by
    rcases y_nul (η := η) ha (by omega) with ⟨-, hx⟩ | ⟨-, hx⟩
    · rw [hx] at hl w
      exact lv_aload_nN X.1 X.2.1 hd hkf hl w
    · rw [hx] at hl w
      exact lv_aload_n X.1 X.2.1 hd hkf hl w) k
/-- the top goes into a local -/
theorem yr_st0 {i t len : Nat} (hw : ∀ (a : yV) (H : Heap) (locs : List Loc) (ls : Array Slot) (rest : List Value) (lv : List (Nat × Value)), a.1 = t → yok Θ a → lv_has ls nL lv → (∀ ls' : Array Slot, lv_has ls' nL ((i, yvo η a) :: lv.filter (fun q => !(q.1 == i) && !(q.1 + 1 == i && q.2.category == 2))) → W p l e R s m args below meth c H locs 0 0 Q (F0 m (pc + len) ls' rest)) → W p l e R s m args below meth c H locs 0 0 Q (F0 m pc ls (yvo η a :: rest))) (k : yGo η kds D cl cy L Θ nL p l e R s m args below meth c Q (pc + len) (P)) : yGo η kds D cl cy L Θ nL p l e R s m args below meth c Q (pc) (ySt i t P) := by
  intro loc st h H locs ls hp g
  unfold ySt at hp
  split at hp
  · rename_i a st'
    have ha := g.2.2.1 a List.mem_cons_self
    rw [List.map_cons]
    refine hw a H locs ls _ _ hp.1 ha g.2.1 (fun ls' hl' => ?_)
    rw [y_pmap] at hl'
    exact k _ st' h H locs ls' hp.2 ⟨y_pm (Pr := yok Θ) g.1 ha, hl', fun b hb => g.2.2.1 b (List.mem_cons_of_mem _ hb), g.2.2.2.1, g.2.2.2.2⟩
  · exact hp.elim
theorem yr_istore (X : hCx D cl cy L p s m args c cc nL tys Ts own) {i : Nat} (hi : i < nL) (hd : decode cc pc = .ok (.istore i, 2)) (k : yGo η kds D cl cy L Θ nL p l e R s m args below meth c Q (pc + 2) (P)) : yGo η kds D cl cy L Θ nL p l e R s m args below meth c Q (pc) (ySt i 0 P) :=
  yr_st0 (fun a H locs ls rest lv ht ha hl w => by
    obtain ⟨x, hx, -⟩ := y_int (η := η) ha ht
    rw [hx] at w ⊢
    exact lv_istore X.1 X.2.1 hd hl hi rfl w) k
theorem yr_istore_n (X : hCx D cl cy L p s m args c cc nL tys Ts own) {kf : Fin 4} {i : Nat} (hkf : kf.val = i) (hi : i < nL) (hd : decode cc pc = .ok (.istore_n kf, 1)) (k : yGo η kds D cl cy L Θ nL p l e R s m args below meth c Q (pc + 1) (P)) : yGo η kds D cl cy L Θ nL p l e R s m args below meth c Q (pc) (ySt i 0 P) :=
  yr_st0 (fun a H locs ls rest lv ht ha hl w => by
    obtain ⟨x, hx, -⟩ := y_int (η := η) ha ht
    rw [hx] at w ⊢
    exact lv_istore_n X.1 X.2.1 hd hkf hl hi rfl w) k
theorem yr_astore (X : hCx D cl cy L p s m args c cc nL tys Ts own) {i t : Nat} (ht2 : 2 ≤ t) (hi : i < nL) (hd : decode cc pc = .ok (.astore i, 2)) (k : yGo η kds D cl cy L Θ nL p l e R s m args below meth c Q (pc + 2) (P)) : yGo η kds D cl cy L Θ nL p l e R s m args below meth c Q (pc) (ySt i t P) :=
  yr_st0 (fun a H locs ls rest lv ht ha hl w => by
    rcases y_nul (η := η) ha (by omega) with ⟨-, hx⟩ | ⟨-, hx⟩
    · rw [hx] at w ⊢
      exact lv_astoreN X.1 X.2.1 hd hl hi rfl w
    · rw [hx] at w ⊢
      exact lv_astore X.1 X.2.1 hd hl hi rfl w) k
theorem yr_astore_n (X : hCx D cl cy L p s m args c cc nL tys Ts own) {kf : Fin 4} {i : Nat} (hkf : kf.val = i) {t : Nat} (ht2 : 2 ≤ t) (hi : i < nL) (hd : decode cc pc = .ok (.astore_n kf, 1)) (k : yGo η kds D cl cy L Θ nL p l e R s m args below meth c Q (pc + 1) (P)) : yGo η kds D cl cy L Θ nL p l e R s m args below meth c Q (pc) (ySt i t P) :=
  yr_st0 (fun a H locs ls rest lv ht ha hl w => by
    rcases y_nul (η := η) ha (by omega) with ⟨-, hx⟩ | ⟨-, hx⟩
    · rw [hx] at w ⊢
      exact lv_astore_nN X.1 X.2.1 hd hkf hl hi rfl w
    · rw [hx] at w ⊢
      exact lv_astore_n X.1 X.2.1 hd hkf hl hi rfl w) k
theorem yr_inc (X : hCx D cl cy L p s m args c cc nL tys Ts own) {i : Nat} {n : Int} (hi : i < nL) (hn : -32768 ≤ n ∧ n ≤ 32767) (hd : decode cc pc = .ok (.iinc i n, 3)) (k : yGo η kds D cl cy L Θ nL p l e R s m args below meth c Q (pc + 3) (P)) : yGo η kds D cl cy L Θ nL p l e R s m args below meth c Q (pc) (yInc i n P) := by
  intro loc st h H locs ls hp g
  unfold yInc at hp
  split at hp
  · rename_i a ha
    obtain ⟨h1, h2, h3⟩ := hp
    have hm := y_fm ha
    obtain ⟨x, ex, hx⟩ := y_int (η := η) (g.1 _ hm) h1
    have hx : x.toInt = a.2 := hx
    obtain ⟨j, hj⟩ := List.getElem?_of_mem (List.mem_map.mpr ⟨(i, a), hm, rfl⟩ : (i, yvo η a) ∈ loc.map fun q => (q.1, yvo η q.2))
    rw [ex] at hj
    have hy : (Int32.ofInt n).toInt = n := z_toi (by omega) (by omega)
    have es : (x + Int32.ofInt n).toInt = a.2 + n := by rw [z_add (by rw [hx, hy]; omega) (by rw [hx, hy]; omega), hx, hy]
    have ev : yvo η (0, a.2 + n) = .int (x + Int32.ofInt n) := by
      show Value.int (Int32.ofInt (a.2 + n)) = _
      rw [← es, z_ofi]
    refine lv_iinc (v := x + Int32.ofInt n) X.1 X.2.1 hd g.2.1 hj rfl hi rfl (fun ls' hl' => ?_)
    rw [← ev, y_pmap] at hl'
    exact k _ st h H locs ls' h3 ⟨y_pm (Pr := yok Θ) g.1 (y_i (by omega) (by omega)), hl', g.2.2.1, g.2.2.2.1, g.2.2.2.2⟩
  · exact hp.elim
/-- two numbers give one -/
theorem yr_bin {st' : List yV} {loc : yL} {h : yH} {H : Heap} {locs : List Loc} {ls : Array Slot} {a b : yV} {v : Int} {pc' : Nat} (ga : yG η kds D cl cy L Θ s.heap nL loc (b :: a :: st') h H locs ls) (hv : yok Θ (0, v)) (hp : P loc ((0, v) :: st') h) (k : yGo η kds D cl cy L Θ nL p l e R s m args below meth c Q (pc') (P)) : W p l e R s m args below meth c H locs 0 0 Q (F0 m pc' ls (yvo η (0, v) :: st'.map (yvo η))) := by
  refine k loc ((0, v) :: st') h H locs ls hp (yg_st ga ?_)
  intro q hq
  rcases List.mem_cons.mp hq with rfl | hq
  · exact hv
  · exact ga.2.2.1 q (List.mem_cons_of_mem _ (List.mem_cons_of_mem _ hq))
theorem y_vi {v : Int} {x : Int32} (h : x.toInt = v) : yvo η (0, v) = .int x := by
  show Value.int (Int32.ofInt v) = _
  rw [← h, z_ofi]
theorem y_vl {v : Int} {x : Int64} (h : x.toInt = v) : yvo η (1, v) = .long x := by
  show Value.long (Int64.ofInt v) = _
  rw [← h, z_ofi64]
theorem yr_add (X : hCx D cl cy L p s m args c cc nL tys Ts own) (hd : decode cc pc = .ok (.iadd, 1)) (k : yGo η kds D cl cy L Θ nL p l e R s m args below meth c Q (pc + 1) (P)) : yGo η kds D cl cy L Θ nL p l e R s m args below meth c Q (pc) (yAdd P) := by
  intro loc st h H locs ls hp g
  unfold yAdd at hp
  split at hp
  · rename_i b a st'
    obtain ⟨⟨h1, h2⟩, h3, h4⟩ := hp
    obtain ⟨x, ex, hx⟩ := y_int (η := η) (g.2.2.1 a (List.mem_cons_of_mem _ List.mem_cons_self)) h1
    obtain ⟨y, ey, hy⟩ := y_int (η := η) (g.2.2.1 b List.mem_cons_self) h2
    have es : (x + y).toInt = a.2 + b.2 := by rw [z_add (by rw [hx, hy]; omega) (by rw [hx, hy]; omega), hx, hy]
    have w := yr_bin g (y_i (Θ := Θ) (by omega) (by omega)) h4 k
    rw [y_vi es] at w
    rw [List.map_cons, List.map_cons, ex, ey]
    exact lv_iadd X.1 X.2.1 hd w
  · exact hp.elim
theorem yr_sub (X : hCx D cl cy L p s m args c cc nL tys Ts own) (hd : decode cc pc = .ok (.isub, 1)) (k : yGo η kds D cl cy L Θ nL p l e R s m args below meth c Q (pc + 1) (P)) : yGo η kds D cl cy L Θ nL p l e R s m args below meth c Q (pc) (ySub P) := by
  intro loc st h H locs ls hp g
  unfold ySub at hp
  split at hp
  · rename_i b a st'
    obtain ⟨⟨h1, h2⟩, h3, h4⟩ := hp
    obtain ⟨x, ex, hx⟩ := y_int (η := η) (g.2.2.1 a (List.mem_cons_of_mem _ List.mem_cons_self)) h1
    obtain ⟨y, ey, hy⟩ := y_int (η := η) (g.2.2.1 b List.mem_cons_self) h2
    have es : (x - y).toInt = a.2 - b.2 := by rw [z_sub (by rw [hx, hy]; omega) (by rw [hx, hy]; omega), hx, hy]
    have w := yr_bin g (y_i (Θ := Θ) (by omega) (by omega)) h4 k
    rw [y_vi es] at w
    rw [List.map_cons, List.map_cons, ex, ey]
    exact lv_isub X.1 X.2.1 hd w
  · exact hp.elim
theorem yr_mul (X : hCx D cl cy L p s m args c cc nL tys Ts own) (hd : decode cc pc = .ok (.imul, 1)) (k : yGo η kds D cl cy L Θ nL p l e R s m args below meth c Q (pc + 1) (P)) : yGo η kds D cl cy L Θ nL p l e R s m args below meth c Q (pc) (yMul P) := by
  intro loc st h H locs ls hp g
  unfold yMul at hp
  split at hp
  · rename_i b a st'
    obtain ⟨⟨h1, h2⟩, h3, h4⟩ := hp
    obtain ⟨x, ex, hx⟩ := y_int (η := η) (g.2.2.1 a (List.mem_cons_of_mem _ List.mem_cons_self)) h1
    obtain ⟨y, ey, hy⟩ := y_int (η := η) (g.2.2.1 b List.mem_cons_self) h2
    have es : (x * y).toInt = a.2 * b.2 := by rw [z_mul (by rw [hx, hy]; exact h3.1) (by rw [hx, hy]; exact h3.2), hx, hy]
    have w := yr_bin g (y_i (Θ := Θ) h3.1 h3.2) h4 k
    rw [y_vi es] at w
    rw [List.map_cons, List.map_cons, ex, ey]
    exact lv_imul X.1 X.2.1 hd w
  · exact hp.elim
theorem yr_ari {op : Nat} (hw : ∀ (x y : Int32) (H : Heap) (locs : List Loc) (ls : Array Slot) (rest : List Value), W p l e R s m args below meth c H locs 0 0 Q (F0 m (pc + 1) ls (.int (zsem op x y) :: rest)) → W p l e R s m args below meth c H locs 0 0 Q (F0 m pc ls (.int y :: .int x :: rest))) (k : yGo η kds D cl cy L Θ nL p l e R s m args below meth c Q (pc + 1) (P)) : yGo η kds D cl cy L Θ nL p l e R s m args below meth c Q (pc) (yAri op P) := by
  intro loc st h H locs ls hp g
  unfold yAri at hp
  split at hp
  · rename_i b a st'
    obtain ⟨⟨h1, h2⟩, h4⟩ := hp
    obtain ⟨x, ex, hx⟩ := y_int (η := η) (g.2.2.1 a (List.mem_cons_of_mem _ List.mem_cons_self)) h1
    obtain ⟨y, ey, hy⟩ := y_int (η := η) (g.2.2.1 b List.mem_cons_self) h2
    have es : (zsem op x y).toInt = yari op a.2 b.2 := by
      unfold yari
      rw [← hx, ← hy, z_ofi, z_ofi]
    have w := yr_bin g (y_i0 Θ (zsem op (Int32.ofInt a.2) (Int32.ofInt b.2))) h4 k
    rw [show (0, (zsem op (Int32.ofInt a.2) (Int32.ofInt b.2)).toInt) = ((0, yari op a.2 b.2) : yV) from rfl, y_vi es] at w
    rw [List.map_cons, List.map_cons, ex, ey]
    exact hw x y H locs ls _ w
  · exact hp.elim
theorem yr_shl (X : hCx D cl cy L p s m args c cc nL tys Ts own) (hd : decode cc pc = .ok (.ishl, 1)) (k : yGo η kds D cl cy L Θ nL p l e R s m args below meth c Q (pc + 1) (P)) : yGo η kds D cl cy L Θ nL p l e R s m args below meth c Q (pc) (yAri 5 P) := yr_ari (fun _ _ _ _ _ _ w => lv_ishl X.1 X.2.1 hd w) k
theorem yr_shr (X : hCx D cl cy L p s m args c cc nL tys Ts own) (hd : decode cc pc = .ok (.ishr, 1)) (k : yGo η kds D cl cy L Θ nL p l e R s m args below meth c Q (pc + 1) (P)) : yGo η kds D cl cy L Θ nL p l e R s m args below meth c Q (pc) (yAri 6 P) := yr_ari (fun _ _ _ _ _ _ w => lv_ishr X.1 X.2.1 hd w) k
theorem yr_and (X : hCx D cl cy L p s m args c cc nL tys Ts own) (hd : decode cc pc = .ok (.iand, 1)) (k : yGo η kds D cl cy L Θ nL p l e R s m args below meth c Q (pc + 1) (P)) : yGo η kds D cl cy L Θ nL p l e R s m args below meth c Q (pc) (yAri 7 P) := yr_ari (fun _ _ _ _ _ _ w => lv_iand X.1 X.2.1 hd w) k
theorem yr_or (X : hCx D cl cy L p s m args c cc nL tys Ts own) (hd : decode cc pc = .ok (.ior, 1)) (k : yGo η kds D cl cy L Θ nL p l e R s m args below meth c Q (pc + 1) (P)) : yGo η kds D cl cy L Θ nL p l e R s m args below meth c Q (pc) (yAri 8 P) := yr_ari (fun _ _ _ _ _ _ w => lv_ior X.1 X.2.1 hd w) k
theorem yr_ushr (X : hCx D cl cy L p s m args c cc nL tys Ts own) (hd : decode cc pc = .ok (.iushr, 1)) (k : yGo η kds D cl cy L Θ nL p l e R s m args below meth c Q (pc + 1) (P)) : yGo η kds D cl cy L Θ nL p l e R s m args below meth c Q (pc) (yUshr P) := by
  intro loc st h H locs ls hp g
  unfold yUshr at hp
  split at hp
  · rename_i b a st'
    obtain ⟨⟨h1, h2⟩, h4⟩ := hp
    obtain ⟨x, ex, hx⟩ := y_int (η := η) (g.2.2.1 a (List.mem_cons_of_mem _ List.mem_cons_self)) h1
    obtain ⟨y, ey, hy⟩ := y_int (η := η) (g.2.2.1 b List.mem_cons_self) h2
    have es : ((x.toUInt32 >>> (y.toUInt32 &&& Int32.toUInt32 31)).toInt32).toInt = yushr a.2 b.2 := by
      unfold yushr
      rw [← hx, ← hy, z_ofi, z_ofi]
    have w := yr_bin g (by rw [← es]; exact y_i0 Θ _) h4 k
    rw [y_vi es] at w
    rw [List.map_cons, List.map_cons, ex, ey]
    exact lv_iushr X.1 X.2.1 hd rfl w
  · exact hp.elim
theorem yr_un {t : Nat} {st' : List yV} {loc : yL} {h : yH} {H : Heap} {locs : List Loc} {ls : Array Slot} {a : yV} {v : Int} {pc' : Nat} (ga : yG η kds D cl cy L Θ s.heap nL loc (a :: st') h H locs ls) (hv : yok Θ (t, v)) (hp : P loc ((t, v) :: st') h) (k : yGo η kds D cl cy L Θ nL p l e R s m args below meth c Q (pc') (P)) : W p l e R s m args below meth c H locs 0 0 Q (F0 m pc' ls (yvo η (t, v) :: st'.map (yvo η))) := by
  refine k loc ((t, v) :: st') h H locs ls hp (yg_st ga ?_)
  intro q hq
  rcases List.mem_cons.mp hq with rfl | hq
  · exact hv
  · exact ga.2.2.1 q (List.mem_cons_of_mem _ hq)
theorem yr_i2b (X : hCx D cl cy L p s m args c cc nL tys Ts own) (hd : decode cc pc = .ok (.i2b, 1)) (k : yGo η kds D cl cy L Θ nL p l e R s m args below meth c Q (pc + 1) (P)) : yGo η kds D cl cy L Θ nL p l e R s m args below meth c Q (pc) (yI2b P) := by
  intro loc st h H locs ls hp g
  unfold yI2b at hp
  split at hp
  · rename_i a st'
    obtain ⟨h1, h4⟩ := hp
    obtain ⟨x, ex, hx⟩ := y_int (η := η) (g.2.2.1 a List.mem_cons_self) h1
    have es : (x.toInt8.toInt32).toInt = yi2b a.2 := by
      unfold yi2b
      rw [← hx, z_ofi]
    have w := yr_un g (by rw [← es]; exact y_i0 Θ _) h4 k
    rw [y_vi es] at w
    rw [List.map_cons, ex]
    exact lv_i2b X.1 X.2.1 hd rfl w
  · exact hp.elim
theorem yr_i2l (X : hCx D cl cy L p s m args c cc nL tys Ts own) (hd : decode cc pc = .ok (.i2l, 1)) (k : yGo η kds D cl cy L Θ nL p l e R s m args below meth c Q (pc + 1) (P)) : yGo η kds D cl cy L Θ nL p l e R s m args below meth c Q (pc) (yI2l P) := by
  intro loc st h H locs ls hp g
  unfold yI2l at hp
  split at hp
  · rename_i a st'
    obtain ⟨h1, h4⟩ := hp
    obtain ⟨x, ex, hx⟩ := y_int (η := η) (g.2.2.1 a List.mem_cons_self) h1
    have b1 := z_lo x
    have b2 := z_hi x
    have w := yr_un g (t := 1) (by unfold yok; rw [if_pos (by simp)]; show _ ∧ _; omega) h4 k
    have ev : yvo η (1, a.2) = .long x.toInt64 := by
      show Value.long (Int64.ofInt a.2) = _
      rw [← hx]
      congr 1
    rw [ev] at w
    rw [List.map_cons, ex]
    exact lv_i2l X.1 X.2.1 hd rfl w
  · exact hp.elim
theorem yr_lor (X : hCx D cl cy L p s m args c cc nL tys Ts own) (hd : decode cc pc = .ok (.lor, 1)) (k : yGo η kds D cl cy L Θ nL p l e R s m args below meth c Q (pc + 1) (P)) : yGo η kds D cl cy L Θ nL p l e R s m args below meth c Q (pc) (yLor P) := by
  intro loc st h H locs ls hp g
  unfold yLor at hp
  split at hp
  · rename_i b a st'
    obtain ⟨⟨h1, h2⟩, h4⟩ := hp
    obtain ⟨x, ex, hx⟩ := y_long (η := η) (g.2.2.1 a (List.mem_cons_of_mem _ List.mem_cons_self)) h1
    obtain ⟨y, ey, hy⟩ := y_long (η := η) (g.2.2.1 b List.mem_cons_self) h2
    have es : (x ||| y).toInt = ylor a.2 b.2 := by
      unfold ylor
      rw [← hx, ← hy, z_ofi64, z_ofi64]
    have w := k loc ((1, ylor a.2 b.2) :: st') h H locs ls h4 (yg_st g (fun q hq => by
      rcases List.mem_cons.mp hq with rfl | hq
      · rw [← es]; exact y_l0 Θ _
      · exact g.2.2.1 q (List.mem_cons_of_mem _ (List.mem_cons_of_mem _ hq))))
    rw [List.map_cons, y_vl es] at w
    rw [List.map_cons, List.map_cons, ex, ey]
    exact lv_lor X.1 X.2.1 hd w
  · exact hp.elim
theorem yr_lshl (X : hCx D cl cy L p s m args c cc nL tys Ts own) (hd : decode cc pc = .ok (.lshl, 1)) (k : yGo η kds D cl cy L Θ nL p l e R s m args below meth c Q (pc + 1) (P)) : yGo η kds D cl cy L Θ nL p l e R s m args below meth c Q (pc) (yLshl P) := by
  intro loc st h H locs ls hp g
  unfold yLshl at hp
  split at hp
  · rename_i b a st'
    obtain ⟨⟨h1, h2⟩, h4⟩ := hp
    obtain ⟨x, ex, hx⟩ := y_long (η := η) (g.2.2.1 a (List.mem_cons_of_mem _ List.mem_cons_self)) h1
    obtain ⟨y, ey, hy⟩ := y_int (η := η) (g.2.2.1 b List.mem_cons_self) h2
    have es : (x <<< (y.toInt64 &&& 63)).toInt = ylshl a.2 b.2 := by
      unfold ylshl
      rw [← hx, ← hy, z_ofi64, z_ofi]
    have w := k loc ((1, ylshl a.2 b.2) :: st') h H locs ls h4 (yg_st g (fun q hq => by
      rcases List.mem_cons.mp hq with rfl | hq
      · rw [← es]; exact y_l0 Θ _
      · exact g.2.2.1 q (List.mem_cons_of_mem _ (List.mem_cons_of_mem _ hq))))
    rw [List.map_cons, y_vl es] at w
    rw [List.map_cons, List.map_cons, ex, ey]
    exact lv_lshl X.1 X.2.1 hd rfl w
  · exact hp.elim
theorem yr_dup (X : hCx D cl cy L p s m args c cc nL tys Ts own) (hd : decode cc pc = .ok (.dup, 1)) (k : yGo η kds D cl cy L Θ nL p l e R s m args below meth c Q (pc + 1) (P)) : yGo η kds D cl cy L Θ nL p l e R s m args below meth c Q (pc) (yDup P) := by
  intro loc st h H locs ls hp g
  unfold yDup at hp
  split at hp
  · rename_i a st'
    have w := k loc (a :: a :: st') h H locs ls hp.2 (yg_st g (fun q hq => by
      rcases List.mem_cons.mp hq with rfl | hq
      · exact g.2.2.1 _ List.mem_cons_self
      · exact g.2.2.1 q hq))
    rw [List.map_cons]
    exact lv_dup X.1 X.2.1 hd (y_cat1 a hp.1) w
  · exact hp.elim
theorem yr_dup2 (X : hCx D cl cy L p s m args c cc nL tys Ts own) (hd : decode cc pc = .ok (.dup2, 1)) (k : yGo η kds D cl cy L Θ nL p l e R s m args below meth c Q (pc + 1) (P)) : yGo η kds D cl cy L Θ nL p l e R s m args below meth c Q (pc) (yDup2 P) := by
  intro loc st h H locs ls hp g
  unfold yDup2 at hp
  split at hp
  · rename_i a b st'
    have w := k loc (a :: b :: a :: b :: st') h H locs ls hp.2 (yg_st g (fun q hq => by
      rcases List.mem_cons.mp hq with rfl | hq
      · exact g.2.2.1 _ List.mem_cons_self
      · rcases List.mem_cons.mp hq with rfl | hq
        · exact g.2.2.1 _ (List.mem_cons_of_mem _ List.mem_cons_self)
        · exact g.2.2.1 q hq))
    rw [List.map_cons, List.map_cons]
    exact lv_dup2_11 X.1 X.2.1 hd (y_cat1 a hp.1.1) (y_cat1 b hp.1.2) w
  · exact hp.elim
theorem yr_pop (X : hCx D cl cy L p s m args c cc nL tys Ts own) (hd : decode cc pc = .ok (.pop, 1)) (k : yGo η kds D cl cy L Θ nL p l e R s m args below meth c Q (pc + 1) (P)) : yGo η kds D cl cy L Θ nL p l e R s m args below meth c Q (pc) (yPop P) := by
  intro loc st h H locs ls hp g
  unfold yPop at hp
  split at hp
  · rename_i a st'
    have w := k loc st' h H locs ls hp.2 (yg_st g (fun q hq => g.2.2.1 q (List.mem_cons_of_mem _ hq)))
    rw [List.map_cons]
    exact lv_pop X.1 X.2.1 hd (y_cat1 a hp.1) w
  · exact hp.elim
theorem y_ev {t : Nat} {n : Int} (h1 : 2 ≤ t) : yvo η (t, n) = yvo η (t + 100000, n) := by
  obtain ⟨k, rfl⟩ : ∃ k, t = k + 2 := ⟨t - 2, by omega⟩
  rfl
theorem yr_nn (k : yGo η kds D cl cy L Θ nL p l e R s m args below meth c Q (pc) (P)) : yGo η kds D cl cy L Θ nL p l e R s m args below meth c Q (pc) (yNn Θ P) := by
  intro loc st h H locs ls hp g
  unfold yNn at hp
  split at hp
  · rename_i a st'
    obtain ⟨⟨h1, h2⟩, h3, h4⟩ := hp
    have ha := g.2.2.1 a List.mem_cons_self
    obtain ⟨t, n⟩ := a
    simp only at h1 h2 h3 h4
    have hz : zok Θ t n := by
      unfold yok at ha
      rw [if_pos h2] at ha
      exact ha
    have hΘ : Θ n.toNat = some (t - 2) := by
      rcases y_zok h1 hz with e | e
      · omega
      · exact e.2
    have ev := y_ev (η := η) (n := n) h1
    have ok := y_okn h1 h3 hΘ
    generalize t + 100000 = T at h4 ev ok
    have w := k loc ((T, n) :: st') h H locs ls (h4 hΘ) (yg_st g (fun q hq => by
      rcases List.mem_cons.mp hq with rfl | hq
      · exact ok
      · exact g.2.2.1 q (List.mem_cons_of_mem _ hq)))
    have e : ((t, n) :: st').map (yvo η) = ((T, n) :: st').map (yvo η) := congrArg (fun v => v :: st'.map (yvo η)) ev
    rw [e]
    exact w
  · exact hp.elim
theorem y_slot {K : zKD} {kk a j : Nat} {h : yH} {H : Heap} (hH : zH η kds D cl cy L Θ h H) (hΘ : Θ a = some kk) (hK : kds[kk]? = some K) (hj : j < K.2.2.1) (h9 : (zty K j).1 < 100002) : yok Θ (ytag (zty K j), h a j) := by
  obtain ⟨b1, b2, b3⟩ := zH_in hH hΘ hK hj
  generalize zty K j = tt at b1 b2 b3 h9
  obtain ⟨t, lo, hi⟩ := tt
  unfold ytag yok
  simp only at b1 b2 b3 h9 ⊢
  by_cases hc : 2 ≤ t ∧ 0 ≤ lo
  · rw [if_pos hc]
    rw [if_neg (by omega)]
    rcases y_zok hc.1 b1 with b1 | b1
    · omega
    · exact ⟨b1.1, b1.2.trans (congrArg some (by omega))⟩
  · rw [if_neg hc, if_pos h9]
    exact b1
theorem y_svo {K : zKD} {j : Nat} {x : Int} : yvo η (ytag (zty K j), x) = zdec η (zty K j).1 x := by
  generalize zty K j = tt
  obtain ⟨t, lo, hi⟩ := tt
  unfold ytag yvo
  simp only
  split
  · rename_i hc
    match t, hc.1 with
    | t + 2, _ => rfl
  · rfl
end YRW
end
