theorem z_of {x : Int32} (h1 : ¬ x < 0) (h2 : x ≤ 0) : x = 0 := Int32.le_antisymm h2 (Int32.not_lt.mp h1)
theorem nz_lt {x : Int32} (h : x < 0) : ¬ x = 0 := fun e => by rw [e] at h; exact absurd h (by decide)
theorem nz_gt {x : Int32} (h : ¬ x ≤ 0) : ¬ x = 0 := fun e => by rw [e] at h; exact absurd (by decide) h
theorem vi_s {i M : Int32} {n : Nat} (hM : M.toInt = n) (h1 : ¬ i < 0) (h2 : i < M) : vp_in i n := by
  obtain ⟨j, hj, rfl⟩ := nI_of h1
  have hjn : j < n := by
    have := Int32.lt_iff_toInt_lt.mp h2
    rw [nI_toInt hj, hM] at this
    omega
  intro q
  rcases q with q | q
  · exact h1 q
  · rw [nI_clamp hj] at q
    omega
/-- the number for a further text of a sort, where nothing is told yet -/
def nf (s a : Int32) : Int32 := if s < 0 then -2 else if s < 3 then (if a = -1 then 0 else -2) else -2
/-- whether there may be an image k -/
def i3 (k : Int32) : Int32 := if k < 0 then 0 else if k < 3 then 1 else 0
theorem dX11_count_0 : decode cX11_count 0 = .ok (.iload_n 1, 1) := by decide +kernel
theorem dX11_count_1 : decode cX11_count 1 = .ok (.ifCond .lt 8, 3) := by decide +kernel
theorem dX11_count_9 : decode cX11_count 9 = .ok (.bipush (-2), 2) := by decide +kernel
theorem dX11_count_11 : decode cX11_count 11 = .ok (.goto 12, 3) := by decide +kernel
theorem dX11_count_23 : decode cX11_count 23 = .ok (.ireturn, 1) := by decide +kernel
theorem dX11_count_4 : decode cX11_count 4 = .ok (.iload_n 1, 1) := by decide +kernel
theorem dX11_count_5 : decode cX11_count 5 = .ok (.iconst 3, 1) := by decide +kernel
theorem dX11_count_6 : decode cX11_count 6 = .ok (.if_icmp .lt 8, 3) := by decide +kernel
theorem dX11_count_14 : decode cX11_count 14 = .ok (.aload_n 0, 1) := by decide +kernel
theorem dX11_count_15 : decode cX11_count 15 = .ok (.getfield 10, 3) := by decide +kernel
theorem dX11_count_18 : decode cX11_count 18 = .ok (.getfield 379, 3) := by decide +kernel
theorem dX11_count_21 : decode cX11_count 21 = .ok (.iload_n 1, 1) := by decide +kernel
theorem dX11_count_22 : decode cX11_count 22 = .ok (.iaload, 1) := by decide +kernel
theorem dX11_again_0 : decode cX11_again 0 = .ok (.iload_n 1, 1) := by decide +kernel
theorem dX11_again_1 : decode cX11_again 1 = .ok (.ifCond .lt 17, 3) := by decide +kernel
theorem dX11_again_18 : decode cX11_again 18 = .ok (.iconst 0, 1) := by decide +kernel
theorem dX11_again_19 : decode cX11_again 19 = .ok (.ireturn, 1) := by decide +kernel
theorem dX11_again_4 : decode cX11_again 4 = .ok (.iload_n 1, 1) := by decide +kernel
theorem dX11_again_5 : decode cX11_again 5 = .ok (.iconst 3, 1) := by decide +kernel
theorem dX11_again_6 : decode cX11_again 6 = .ok (.if_icmp .ge 12, 3) := by decide +kernel
theorem dX11_again_9 : decode cX11_again 9 = .ok (.aload_n 0, 1) := by decide +kernel
theorem dX11_again_10 : decode cX11_again 10 = .ok (.getfield 16, 3) := by decide +kernel
theorem dX11_again_13 : decode cX11_again 13 = .ok (.iload_n 1, 1) := by decide +kernel
theorem dX11_again_14 : decode cX11_again 14 = .ok (.aaload, 1) := by decide +kernel
theorem dX11_again_15 : decode cX11_again 15 = .ok (.ifnonnull 5, 3) := by decide +kernel
theorem dX8_put_0 : decode cX8_put 0 = .ok (.bipush 24, 2) := by decide +kernel
theorem dX8_put_2 : decode cX8_put 2 = .ok (.istore_n 2, 1) := by decide +kernel
theorem dX8_put_3 : decode cX8_put 3 = .ok (.iload_n 2, 1) := by decide +kernel
theorem dX8_put_4 : decode cX8_put 4 = .ok (.ifCond .lt 42, 3) := by decide +kernel
theorem dX8_put_7 : decode cX8_put 7 = .ok (.aload_n 0, 1) := by decide +kernel
theorem dX8_put_8 : decode cX8_put 8 = .ok (.getfield 15, 3) := by decide +kernel
theorem dX8_put_11 : decode cX8_put 11 = .ok (.sipush 600, 3) := by decide +kernel
theorem dX8_put_14 : decode cX8_put 14 = .ok (.if_icmp .ge 26, 3) := by decide +kernel
theorem dX8_put_17 : decode cX8_put 17 = .ok (.aload_n 0, 1) := by decide +kernel
theorem dX8_put_18 : decode cX8_put 18 = .ok (.getfield 9, 3) := by decide +kernel
theorem dX8_put_21 : decode cX8_put 21 = .ok (.aload_n 0, 1) := by decide +kernel
theorem dX8_put_22 : decode cX8_put 22 = .ok (.getfield 15, 3) := by decide +kernel
theorem dX8_put_25 : decode cX8_put 25 = .ok (.iload_n 1, 1) := by decide +kernel
theorem dX8_put_26 : decode cX8_put 26 = .ok (.iload_n 2, 1) := by decide +kernel
theorem dX8_put_27 : decode cX8_put 27 = .ok (.iushr, 1) := by decide +kernel
theorem dX8_put_28 : decode cX8_put 28 = .ok (.i2b, 1) := by decide +kernel
theorem dX8_put_29 : decode cX8_put 29 = .ok (.bastore, 1) := by decide +kernel
theorem dX8_put_30 : decode cX8_put 30 = .ok (.aload_n 0, 1) := by decide +kernel
theorem dX8_put_31 : decode cX8_put 31 = .ok (.dup, 1) := by decide +kernel
theorem dX8_put_32 : decode cX8_put 32 = .ok (.getfield 15, 3) := by decide +kernel
theorem dX8_put_35 : decode cX8_put 35 = .ok (.iconst 1, 1) := by decide +kernel
theorem dX8_put_36 : decode cX8_put 36 = .ok (.iadd, 1) := by decide +kernel
theorem dX8_put_37 : decode cX8_put 37 = .ok (.putfield 15, 3) := by decide +kernel
theorem dX8_put_40 : decode cX8_put 40 = .ok (.iinc 2 (-8), 3) := by decide +kernel
theorem dX8_put_43 : decode cX8_put 43 = .ok (.goto (-40), 3) := by decide +kernel
theorem dX8_put_46 : decode cX8_put 46 = .ok (.return_, 1) := by decide +kernel
theorem dX11_feed_0 : decode cX11_feed 0 = .ok (.aload_n 0, 1) := by decide +kernel
theorem dX11_feed_1 : decode cX11_feed 1 = .ok (.getfield 10, 3) := by decide +kernel
theorem dX11_feed_4 : decode cX11_feed 4 = .ok (.getfield 55, 3) := by decide +kernel
theorem dX11_feed_7 : decode cX11_feed 7 = .ok (.astore 6, 2) := by decide +kernel
theorem dX11_feed_9 : decode cX11_feed 9 = .ok (.aload 6, 2) := by decide +kernel
theorem dX11_feed_11 : decode cX11_feed 11 = .ok (.getfield 59, 3) := by decide +kernel
theorem dX11_feed_14 : decode cX11_feed 14 = .ok (.bipush 20, 2) := by decide +kernel
theorem dX11_feed_16 : decode cX11_feed 16 = .ok (.iadd, 1) := by decide +kernel
theorem dX11_feed_17 : decode cX11_feed 17 = .ok (.sipush 600, 3) := by decide +kernel
theorem dX11_feed_20 : decode cX11_feed 20 = .ok (.if_icmp .le 5, 3) := by decide +kernel
theorem dX11_feed_25 : decode cX11_feed 25 = .ok (.aload 6, 2) := by decide +kernel
theorem dX11_feed_27 : decode cX11_feed 27 = .ok (.iload_n 1, 1) := by decide +kernel
theorem dX11_feed_28 : decode cX11_feed 28 = .ok (.invokevirtual 65, 3) := by decide +kernel
set_option maxRecDepth 20000 in
theorem ggX11_feed_X8_put : GoodIn wsX11_feed wsX8_put := goodIn_r _ [8, 9, 10, 25, 26] (by decide +kernel) (by decide +kernel)
set_option maxRecDepth 20000 in
theorem gX11_feed_X8_put : GoodIn wsX11_feed (wsV RX11 65 RX8 yX8_put wsX8_put) := goodIn_app (goodIn_of _ (by decide +kernel)) ggX11_feed_X8_put
theorem dX11_feed_31 : decode cX11_feed 31 = .ok (.aload 6, 2) := by decide +kernel
theorem dX11_feed_33 : decode cX11_feed 33 = .ok (.iload_n 2, 1) := by decide +kernel
theorem dX11_feed_34 : decode cX11_feed 34 = .ok (.invokevirtual 65, 3) := by decide +kernel
theorem dX11_feed_37 : decode cX11_feed 37 = .ok (.aload 6, 2) := by decide +kernel
theorem dX11_feed_39 : decode cX11_feed 39 = .ok (.iload_n 3, 1) := by decide +kernel
theorem dX11_feed_40 : decode cX11_feed 40 = .ok (.invokevirtual 65, 3) := by decide +kernel
theorem dX11_feed_43 : decode cX11_feed 43 = .ok (.aload 6, 2) := by decide +kernel
theorem dX11_feed_45 : decode cX11_feed 45 = .ok (.iload 4, 2) := by decide +kernel
theorem dX11_feed_47 : decode cX11_feed 47 = .ok (.invokevirtual 65, 3) := by decide +kernel
theorem dX11_feed_50 : decode cX11_feed 50 = .ok (.aload 6, 2) := by decide +kernel
theorem dX11_feed_52 : decode cX11_feed 52 = .ok (.iload 5, 2) := by decide +kernel
theorem dX11_feed_54 : decode cX11_feed 54 = .ok (.invokevirtual 65, 3) := by decide +kernel
theorem dX11_feed_57 : decode cX11_feed 57 = .ok (.aload 6, 2) := by decide +kernel
theorem dX11_feed_59 : decode cX11_feed 59 = .ok (.getfield 59, 3) := by decide +kernel
theorem dX11_feed_62 : decode cX11_feed 62 = .ok (.ireturn, 1) := by decide +kernel
theorem dX11_end_0 : decode cX11_end 0 = .ok (.iload_n 1, 1) := by decide +kernel
theorem dX11_end_1 : decode cX11_end 1 = .ok (.ifCond .lt 17, 3) := by decide +kernel
theorem dX11_end_18 : decode cX11_end 18 = .ok (.iconst (-1), 1) := by decide +kernel
theorem dX11_end_19 : decode cX11_end 19 = .ok (.ireturn, 1) := by decide +kernel
theorem dX11_end_4 : decode cX11_end 4 = .ok (.iload_n 1, 1) := by decide +kernel
theorem dX11_end_5 : decode cX11_end 5 = .ok (.aload_n 0, 1) := by decide +kernel
theorem dX11_end_6 : decode cX11_end 6 = .ok (.getfield 10, 3) := by decide +kernel
theorem dX11_end_9 : decode cX11_end 9 = .ok (.getfield 55, 3) := by decide +kernel
theorem dX11_end_12 : decode cX11_end 12 = .ok (.getfield 59, 3) := by decide +kernel
theorem dX11_end_15 : decode cX11_end 15 = .ok (.if_icmp .le 5, 3) := by decide +kernel
theorem dX11_end_20 : decode cX11_end 20 = .ok (.aload_n 0, 1) := by decide +kernel
theorem dX11_end_21 : decode cX11_end 21 = .ok (.getfield 10, 3) := by decide +kernel
theorem dX11_end_24 : decode cX11_end 24 = .ok (.getfield 55, 3) := by decide +kernel
theorem dX11_end_27 : decode cX11_end 27 = .ok (.iload_n 1, 1) := by decide +kernel
theorem dX11_end_28 : decode cX11_end 28 = .ok (.putfield 59, 3) := by decide +kernel
theorem dX11_end_31 : decode cX11_end 31 = .ok (.iload_n 1, 1) := by decide +kernel
theorem dX11_end_32 : decode cX11_end 32 = .ok (.ireturn, 1) := by decide +kernel
set_option maxHeartbeats 4000000 in
set_option maxRecDepth 100000 in
theorem c_X11_count (l : Launch) (D : va_G) (cy : Nat → ClassId) (h0 : Nat) (i0 : Nat) (r0 : Nat) (u0 : Nat) (w0 : Nat) (c0 : Nat) (o0 : Nat) (t0 : Nat) (tp : Nat) (nu : Nat) (se : Nat) (da : Nat) (di : Nat) (p0 : Int32)  : Met l yX11_count wsX11_count ({ frames := 0, cells := 0, slots := 0, locals := 0 } : Room) (va_Pc [.ref h0, .int p0] (PR D cy [(h0, .inr (11, [.ref t0, .ref i0, .ref r0, .ref u0, .ref w0, .ref c0, .ref o0])), (t0, .inr (9, [.ref tp, .ref nu, .ref se, .ref da, .ref di, .int 0, .int (-1)])), (nu, .inl (cy 0, 3, .inl (fun _ => 0)))])) (vp_Si (fun r : Int32 => r = if p0 < 0 then -2 else if p0 < 3 then 0 else -2)) 0 0 (fun _ => False) := by
  refine Met.ofW (cc := cX11_count) (maxL := 2) (ret := (some .int)) (by decide) rfl ?_
  intro p e s m args below meth c s₁ B hml hv
  obtain ⟨rfl, hP, hKW⟩ := hv
  have hK := hKW.1
  have hx := B.exec
  have hb := B.bytes
  have hr := B.returns
  have hts := atoms_spec (ws := wsX11_count) B.pre
  have hown : s.vm.findClass RX11 = some m.cls := findClass_of_methodNamed B.named
  have hlocks := B.notSynchronized
  have in_9 : ∀ w ∈ u_ws RX9 TX9 7, w ∈ wsX11_count := by decide +kernel
  have in_11 : ∀ w ∈ u_ws RX11 TX11 7, w ∈ wsX11_count := by decide +kernel
  have fl_10 := hts (.fieldLink RX11 10 "ShoalClaims" "told" "LShoalClaims$Told;") (by decide +kernel)
  have fl_379 := hts (.fieldLink RX11 379 "ShoalClaims$Told" "numbers" "[I") (by decide +kernel)
  have hP : va_P D vwCl [(h0, .inr (11, [.ref t0, .ref i0, .ref r0, .ref u0, .ref w0, .ref c0, .ref o0])), (t0, .inr (9, [.ref tp, .ref nu, .ref se, .ref da, .ref di, .int 0, .int (-1)])), (nu, .inl (cy 0, 3, .inl (fun _ => 0)))] s.heap := hP
  have hl := lv_entry ([.ref h0, .int p0]) (n := 2) (Nat.le_of_ble_eq_true rfl)
  rw [lg_entry_eq]
  generalize (lg_sl ([.ref h0, .int p0]) ++ List.replicate (2 - (lg_sl ([.ref h0, .int p0])).length) Slot.unset).toArray = ls at hl ⊢
  have hl : lv_has ls 2 [(0, .ref h0), (1, .int p0)] := hl
  refine lv_iload_n hx hb dX11_count_0 rfl (lv_at hl 1 rfl) ?_
  refine lv_if_lt (tgt := 9) hx hb dX11_count_1 (by decide) (fun c_1 => ?_) (fun c_1 => ?_)
  · refine lv_bipush (v := (-2)) hx hb dX11_count_9 (by decide +kernel) ?_
    refine lv_goto (tgt := 23) hx hb dX11_count_11 (by decide) ?_
    exact W.iret (v := (-2)) hx hb hr (fun t ht hW => ⟨(-2), rfl, (by simp [c_1]), ht⟩) (fun _ h => absurd h List.not_mem_nil) dX11_count_23
  · refine lv_iload_n hx hb dX11_count_4 rfl (lv_at hl 1 rfl) ?_
    refine lv_iconst (v := 3) hx hb dX11_count_5 (by decide +kernel) ?_
    refine lv_icmp_lt (tgt := 14) hx hb dX11_count_6 (by decide) (fun c_2 => ?_) (fun c_2 => ?_)
    · refine lv_aload_n hx hb dX11_count_14 rfl (lv_at hl 0 rfl) ?_
      refine va_get (D := D) (ci := 11) (v := .ref t0) (C := RX11) (T := TX11) (N := 7) hx hb hts in_11 hown hK hP 0 rfl rfl 0 (by decide) fl_10 (fun _ h9 => h9) rfl dX11_count_15 ?_
      refine va_get (D := D) (ci := 9) (v := .ref nu) (C := RX9) (T := TX9) (N := 7) hx hb hts in_9 hown hK hP 1 rfl rfl 1 (by decide) fl_379 (fun _ h9 => h9) rfl dX11_count_18 ?_
      refine lv_iload_n hx hb dX11_count_21 rfl (lv_at hl 1 rfl) ?_
      refine va_iald hx hb hK hP 2 0 rfl rfl (vi_s (M := 3) (by decide) c_1 c_2) dX11_count_22 ?_
      refine tp_i 0 rfl ?_
      exact W.iret (v := 0) hx hb hr (fun t ht hW => ⟨0, rfl, (by simp [c_1, c_2]), ht⟩) (fun _ h => absurd h List.not_mem_nil) dX11_count_23
    · refine lv_bipush (v := (-2)) hx hb dX11_count_9 (by decide +kernel) ?_
      refine lv_goto (tgt := 23) hx hb dX11_count_11 (by decide) ?_
      exact W.iret (v := (-2)) hx hb hr (fun t ht hW => ⟨(-2), rfl, (by simp [c_1, c_2]), ht⟩) (fun _ h => absurd h List.not_mem_nil) dX11_count_23
set_option maxHeartbeats 4000000 in
set_option maxRecDepth 100000 in
theorem c_X11_again (l : Launch) (D : va_G) (cy : Nat → ClassId) (h0 : Nat) (i0 : Nat) (r0 : Nat) (u0 : Nat) (w0 : Nat) (c0 : Nat) (o0 : Nat) (t0 : Nat) (tp : Nat) (nu : Nat) (se : Nat) (da : Nat) (di : Nat) (p0 : Int32)  : Met l yX11_again wsX11_again ({ frames := 0, cells := 0, slots := 0, locals := 0 } : Room) (va_Pc [.ref h0, .int p0] (PR D cy [(h0, .inr (11, [.ref t0, .ref i0, .ref r0, .ref u0, .ref w0, .ref c0, .ref o0])), (t0, .inr (9, [.ref tp, .ref nu, .ref se, .ref da, .ref di, .int 0, .int (-1)])), (nu, .inl (cy 0, 3, .inl (fun _ => 0))), (i0, .inl (cy 6, 3, .inr (.inr (.inr (.inr (fun _ => none))))))])) (vp_Si (fun r : Int32 => r = 0)) 0 0 (fun _ => False) := by
  refine Met.ofW (cc := cX11_again) (maxL := 2) (ret := (some .boolean)) (by decide) rfl ?_
  intro p e s m args below meth c s₁ B hml hv
  obtain ⟨rfl, hP, hKW⟩ := hv
  have hK := hKW.1
  have hx := B.exec
  have hb := B.bytes
  have hr := B.returns
  have hts := atoms_spec (ws := wsX11_again) B.pre
  have hown : s.vm.findClass RX11 = some m.cls := findClass_of_methodNamed B.named
  have hlocks := B.notSynchronized
  have in_11 : ∀ w ∈ u_ws RX11 TX11 7, w ∈ wsX11_again := by decide +kernel
  have fl_16 := hts (.fieldLink RX11 16 "ShoalClaims" "images" "[LShoalClaims$Told;") (by decide +kernel)
  have hP : va_P D vwCl [(h0, .inr (11, [.ref t0, .ref i0, .ref r0, .ref u0, .ref w0, .ref c0, .ref o0])), (t0, .inr (9, [.ref tp, .ref nu, .ref se, .ref da, .ref di, .int 0, .int (-1)])), (nu, .inl (cy 0, 3, .inl (fun _ => 0))), (i0, .inl (cy 6, 3, .inr (.inr (.inr (.inr (fun _ => none))))))] s.heap := hP
  have hl := lv_entry ([.ref h0, .int p0]) (n := 2) (Nat.le_of_ble_eq_true rfl)
  rw [lg_entry_eq]
  generalize (lg_sl ([.ref h0, .int p0]) ++ List.replicate (2 - (lg_sl ([.ref h0, .int p0])).length) Slot.unset).toArray = ls at hl ⊢
  have hl : lv_has ls 2 [(0, .ref h0), (1, .int p0)] := hl
  refine lv_iload_n hx hb dX11_again_0 rfl (lv_at hl 1 rfl) ?_
  refine lv_if_lt (tgt := 18) hx hb dX11_again_1 (by decide) (fun c_1 => ?_) (fun c_1 => ?_)
  · refine lv_iconst (v := 0) hx hb dX11_again_18 (by decide +kernel) ?_
    exact W.zret (v := 0) hx hb hr (rfl) (fun t ht hW => ⟨0, rfl, rfl, ht⟩) (fun _ h => absurd h List.not_mem_nil) dX11_again_19
  · refine lv_iload_n hx hb dX11_again_4 rfl (lv_at hl 1 rfl) ?_
    refine lv_iconst (v := 3) hx hb dX11_again_5 (by decide +kernel) ?_
    refine lv_icmp_ge (tgt := 18) hx hb dX11_again_6 (by decide) (fun c_2 => ?_) (fun c_2 => ?_)
    · refine lv_iconst (v := 0) hx hb dX11_again_18 (by decide +kernel) ?_
      exact W.zret (v := 0) hx hb hr (rfl) (fun t ht hW => ⟨0, rfl, rfl, ht⟩) (fun _ h => absurd h List.not_mem_nil) dX11_again_19
    · refine lv_aload_n hx hb dX11_again_9 rfl (lv_at hl 0 rfl) ?_
      refine va_get (D := D) (ci := 11) (v := .ref i0) (C := RX11) (T := TX11) (N := 7) hx hb hts in_11 hown hK hP 0 rfl rfl 1 (by decide) fl_16 (fun _ h9 => h9) rfl dX11_again_10 ?_
      refine lv_iload_n hx hb dX11_again_13 rfl (lv_at hl 1 rfl) ?_
      refine va_aldq hx hb hK hP 3 6 rfl rfl (vi_s (M := 3) (by decide) c_1 (Int32.not_le.mp c_2)) dX11_again_14 ?_
      refine tp_v (.null) (rfl) ?_
      refine lv_ifnonnullN hx hb dX11_again_15 ?_
      refine lv_iconst (v := 0) hx hb dX11_again_18 (by decide +kernel) ?_
      exact W.zret (v := 0) hx hb hr (rfl) (fun t ht hW => ⟨0, rfl, rfl, ht⟩) (fun _ h => absurd h List.not_mem_nil) dX11_again_19
set_option maxHeartbeats 4000000 in
set_option maxRecDepth 100000 in
theorem c_X8_put_0 (l : Launch) (D : va_G) (cy : Nat → ClassId) (tp : Nat) (bt : Nat) (bf : Nat → Int32) (p0 : Int32) (sz : Nat)  : Met l yX8_put wsX8_put ({ frames := 0, cells := 0, slots := 0, locals := 0 } : Room) (va_Pc [.ref tp, .int p0] (PW D cy [(tp, .inr (8, [.ref bt, .int 0])), (bt, .inl (cy 1, 600, .inl bf))] sz)) (va_Qv (fun _ : Unit => True) (fun _ t => ∃ (f_20 : Nat → Int32), va_P D vwCl [(tp, .inr (8, [.ref bt, .int 4])), (bt, .inl (cy 1, 600, .inl f_20))] t.heap ∧ va_D (va_A [(tp, .inr (8, [.ref bt, .int 0])), (bt, .inl (cy 1, 600, .inl bf))] sz) [(tp, .inr (8, [.ref bt, .int 4])), (bt, .inl (cy 1, 600, .inl f_20))]) (va_A [(tp, .inr (8, [.ref bt, .int 0])), (bt, .inl (cy 1, 600, .inl bf))] sz)) 0 0 (va_A [(tp, .inr (8, [.ref bt, .int 0])), (bt, .inl (cy 1, 600, .inl bf))] sz) := by
  refine Met.ofW (cc := cX8_put) (maxL := 3) (ret := none) (by decide) rfl ?_
  intro p e s m args below meth c s₁ B hml hv
  obtain ⟨rfl, hsz, hP, hKW, hD0⟩ := hv
  have hK := hKW.1
  have hx := B.exec
  have hb := B.bytes
  have hr := B.returns
  have hts := atoms_spec (ws := wsX8_put) B.pre
  have hown : s.vm.findClass RX8 = some m.cls := findClass_of_methodNamed B.named
  have hlocks := B.notSynchronized
  have in_8 : ∀ w ∈ u_ws RX8 TX8 2, w ∈ wsX8_put := by decide +kernel
  have fl_15 := hts (.fieldLink RX8 15 "ShoalClaims$Tape" "length" "I") (by decide +kernel)
  have fl_9 := hts (.fieldLink RX8 9 "ShoalClaims$Tape" "bytes" "[B") (by decide +kernel)
  subst hsz
  have hD := hD0.self (sz := s.heap.size)
  generalize hAe : va_A [(tp, .inr (8, [.ref bt, .int 0])), (bt, .inl (cy 1, 600, .inl bf))] s.heap.size = A at hD ⊢
  have hA : ∀ q : Nat, s.heap.size ≤ q → A q := fun q h => by rw [← hAe]; exact Or.inr h
  have hS : va_S A s.heap s.heap [] := va_S.rf
  have hP : va_P D vwCl [(tp, .inr (8, [.ref bt, .int 0])), (bt, .inl (cy 1, 600, .inl bf))] s.heap := hP
  have hl := lv_entry ([.ref tp, .int p0]) (n := 3) (Nat.le_of_ble_eq_true rfl)
  rw [lg_entry_eq]
  generalize (lg_sl ([.ref tp, .int p0]) ++ List.replicate (3 - (lg_sl ([.ref tp, .int p0])).length) Slot.unset).toArray = ls at hl ⊢
  have hl : lv_has ls 3 [(0, .ref tp), (1, .int p0)] := hl
  refine lv_bipush (v := 24) hx hb dX8_put_0 (by decide +kernel) ?_
  refine lv_istore_n (lv' := [(2, .int 24), (0, .ref tp), (1, .int p0)]) hx hb dX8_put_2 rfl hl (by decide) rfl (fun ls hl => ?_)
  refine lv_iload_n hx hb dX8_put_3 rfl (lv_at hl 0 rfl) ?_
  refine lv_if_lt (tgt := 46) hx hb dX8_put_4 (by decide) (fun c_1 => absurd c_1 (by decide +kernel)) (fun _ => ?_)
  refine lv_aload_n hx hb dX8_put_7 rfl (lv_at hl 1 rfl) ?_
  refine va_get (D := D) (ci := 8) (v := .int 0) (C := RX8) (T := TX8) (N := 2) hx hb hts in_8 hown hK hP 0 rfl rfl 1 (by decide) fl_15 (fun _ h9 => h9) rfl dX8_put_8 ?_
  refine lv_sipush (v := 600) hx hb dX8_put_11 (by decide +kernel) ?_
  refine lv_icmp_ge (tgt := 40) hx hb dX8_put_14 (by decide) (fun c_2 => absurd c_2 (by decide +kernel)) (fun _ => ?_)
  refine lv_aload_n hx hb dX8_put_17 rfl (lv_at hl 1 rfl) ?_
  refine va_get (D := D) (ci := 8) (v := .ref bt) (C := RX8) (T := TX8) (N := 2) hx hb hts in_8 hown hK hP 0 rfl rfl 0 (by decide) fl_9 (fun _ h9 => h9) rfl dX8_put_18 ?_
  refine lv_aload_n hx hb dX8_put_21 rfl (lv_at hl 1 rfl) ?_
  refine va_get (D := D) (ci := 8) (v := .int 0) (C := RX8) (T := TX8) (N := 2) hx hb hts in_8 hown hK hP 0 rfl rfl 1 (by decide) fl_15 (fun _ h9 => h9) rfl dX8_put_22 ?_
  refine lv_iload_n hx hb dX8_put_25 rfl (lv_at hl 2 rfl) ?_
  refine lv_iload_n hx hb dX8_put_26 rfl (lv_at hl 0 rfl) ?_
  obtain ⟨x_3, ex_3⟩ : ∃ y : Int32, y = (p0.toUInt32 >>> (Int32.toUInt32 24 &&& Int32.toUInt32 31)).toInt32 := ⟨_, rfl⟩
  refine lv_iushr (v := x_3) hx hb dX8_put_27 ex_3.symm ?_
  obtain ⟨x_4, ex_4⟩ : ∃ y : Int32, y = x_3.toInt8.toInt32 := ⟨_, rfl⟩
  refine lv_i2b (v := x_4) hx hb dX8_put_28 ex_4.symm ?_
  refine va_bast hx hb hK hP hD hS 1 1 rfl rfl (vi_c (by decide +kernel)) dX8_put_29 (fun H locs hP hD hS => ?_)
  have hP : va_P D vwCl [(tp, .inr (8, [.ref bt, .int 0])), (bt, .inl (cy 1, 600, .inl (upd bf 0 (vp_nar .byte x_4))))] H := hP
  have hD : va_D A [(tp, .inr (8, [.ref bt, .int 0])), (bt, .inl (cy 1, 600, .inl (upd bf 0 (vp_nar .byte x_4))))] := hD
  generalize upd bf 0 (vp_nar .byte x_4) = f_5 at hP hD
  have hP : va_P D vwCl [(tp, .inr (8, [.ref bt, .int 0])), (bt, .inl (cy 1, 600, .inl f_5))] H := hP
  have hD : va_D A [(tp, .inr (8, [.ref bt, .int 0])), (bt, .inl (cy 1, 600, .inl f_5))] := hD
  refine lv_aload_n hx hb dX8_put_30 rfl (lv_at hl 1 rfl) ?_
  refine lv_dup hx hb dX8_put_31 rfl ?_
  refine va_get (D := D) (ci := 8) (v := .int 0) (C := RX8) (T := TX8) (N := 2) hx hb hts in_8 hown hK hP 0 rfl rfl 1 (by decide) fl_15 (fun _ h9 => h9) rfl dX8_put_32 ?_
  refine lv_iconst (v := 1) hx hb dX8_put_35 (by decide +kernel) ?_
  refine lv_iadd hx hb dX8_put_36 ?_
  refine tp_i 1 (by decide +kernel) ?_
  refine va_put (D := D) (ci := 8) (v := .int 1) (ty := .int) (C := RX8) (T := TX8) (N := 2) hx hb hts in_8 tyX8 tyX8_ok nmX8 hown hK hP hD hS 0 rfl rfl 1 (by decide) fl_15 (fun _ h9 => h9) rfl (by decide +kernel) rfl rfl (Nat.le_of_ble_eq_true rfl) dX8_put_37 (fun H locs hP hD hS => ?_)
  have hP : va_P D vwCl [(tp, .inr (8, [.ref bt, .int 1])), (bt, .inl (cy 1, 600, .inl f_5))] H := hP
  have hD : va_D A [(tp, .inr (8, [.ref bt, .int 1])), (bt, .inl (cy 1, 600, .inl f_5))] := hD
  refine lv_iinc (v := 16) (lv' := [(2, .int 16), (0, .ref tp), (1, .int p0)]) hx hb dX8_put_40 hl (k := 0) rfl (by decide) (by decide) rfl (fun ls hl => ?_)
  refine lv_goto (tgt := 3) hx hb dX8_put_43 (by decide) ?_
  refine lv_iload_n hx hb dX8_put_3 rfl (lv_at hl 0 rfl) ?_
  refine lv_if_lt (tgt := 46) hx hb dX8_put_4 (by decide) (fun c_6 => absurd c_6 (by decide +kernel)) (fun _ => ?_)
  refine lv_aload_n hx hb dX8_put_7 rfl (lv_at hl 1 rfl) ?_
  refine va_get (D := D) (ci := 8) (v := .int 1) (C := RX8) (T := TX8) (N := 2) hx hb hts in_8 hown hK hP 0 rfl rfl 1 (by decide) fl_15 (fun _ h9 => h9) rfl dX8_put_8 ?_
  refine lv_sipush (v := 600) hx hb dX8_put_11 (by decide +kernel) ?_
  refine lv_icmp_ge (tgt := 40) hx hb dX8_put_14 (by decide) (fun c_7 => absurd c_7 (by decide +kernel)) (fun _ => ?_)
  refine lv_aload_n hx hb dX8_put_17 rfl (lv_at hl 1 rfl) ?_
  refine va_get (D := D) (ci := 8) (v := .ref bt) (C := RX8) (T := TX8) (N := 2) hx hb hts in_8 hown hK hP 0 rfl rfl 0 (by decide) fl_9 (fun _ h9 => h9) rfl dX8_put_18 ?_
  refine lv_aload_n hx hb dX8_put_21 rfl (lv_at hl 1 rfl) ?_
  refine va_get (D := D) (ci := 8) (v := .int 1) (C := RX8) (T := TX8) (N := 2) hx hb hts in_8 hown hK hP 0 rfl rfl 1 (by decide) fl_15 (fun _ h9 => h9) rfl dX8_put_22 ?_
  refine lv_iload_n hx hb dX8_put_25 rfl (lv_at hl 2 rfl) ?_
  refine lv_iload_n hx hb dX8_put_26 rfl (lv_at hl 0 rfl) ?_
  obtain ⟨x_8, ex_8⟩ : ∃ y : Int32, y = (p0.toUInt32 >>> (Int32.toUInt32 16 &&& Int32.toUInt32 31)).toInt32 := ⟨_, rfl⟩
  refine lv_iushr (v := x_8) hx hb dX8_put_27 ex_8.symm ?_
  obtain ⟨x_9, ex_9⟩ : ∃ y : Int32, y = x_8.toInt8.toInt32 := ⟨_, rfl⟩
  refine lv_i2b (v := x_9) hx hb dX8_put_28 ex_9.symm ?_
  refine va_bast hx hb hK hP hD hS 1 1 rfl rfl (vi_c (by decide +kernel)) dX8_put_29 (fun H locs hP hD hS => ?_)
  have hP : va_P D vwCl [(tp, .inr (8, [.ref bt, .int 1])), (bt, .inl (cy 1, 600, .inl (upd f_5 1 (vp_nar .byte x_9))))] H := hP
  have hD : va_D A [(tp, .inr (8, [.ref bt, .int 1])), (bt, .inl (cy 1, 600, .inl (upd f_5 1 (vp_nar .byte x_9))))] := hD
  generalize upd f_5 1 (vp_nar .byte x_9) = f_10 at hP hD
  have hP : va_P D vwCl [(tp, .inr (8, [.ref bt, .int 1])), (bt, .inl (cy 1, 600, .inl f_10))] H := hP
  have hD : va_D A [(tp, .inr (8, [.ref bt, .int 1])), (bt, .inl (cy 1, 600, .inl f_10))] := hD
  refine lv_aload_n hx hb dX8_put_30 rfl (lv_at hl 1 rfl) ?_
  refine lv_dup hx hb dX8_put_31 rfl ?_
  refine va_get (D := D) (ci := 8) (v := .int 1) (C := RX8) (T := TX8) (N := 2) hx hb hts in_8 hown hK hP 0 rfl rfl 1 (by decide) fl_15 (fun _ h9 => h9) rfl dX8_put_32 ?_
  refine lv_iconst (v := 1) hx hb dX8_put_35 (by decide +kernel) ?_
  refine lv_iadd hx hb dX8_put_36 ?_
  refine tp_i 2 (by decide +kernel) ?_
  refine va_put (D := D) (ci := 8) (v := .int 2) (ty := .int) (C := RX8) (T := TX8) (N := 2) hx hb hts in_8 tyX8 tyX8_ok nmX8 hown hK hP hD hS 0 rfl rfl 1 (by decide) fl_15 (fun _ h9 => h9) rfl (by decide +kernel) rfl rfl (Nat.le_of_ble_eq_true rfl) dX8_put_37 (fun H locs hP hD hS => ?_)
  have hP : va_P D vwCl [(tp, .inr (8, [.ref bt, .int 2])), (bt, .inl (cy 1, 600, .inl f_10))] H := hP
  have hD : va_D A [(tp, .inr (8, [.ref bt, .int 2])), (bt, .inl (cy 1, 600, .inl f_10))] := hD
  refine lv_iinc (v := 8) (lv' := [(2, .int 8), (0, .ref tp), (1, .int p0)]) hx hb dX8_put_40 hl (k := 0) rfl (by decide) (by decide) rfl (fun ls hl => ?_)
  refine lv_goto (tgt := 3) hx hb dX8_put_43 (by decide) ?_
  refine lv_iload_n hx hb dX8_put_3 rfl (lv_at hl 0 rfl) ?_
  refine lv_if_lt (tgt := 46) hx hb dX8_put_4 (by decide) (fun c_11 => absurd c_11 (by decide +kernel)) (fun _ => ?_)
  refine lv_aload_n hx hb dX8_put_7 rfl (lv_at hl 1 rfl) ?_
  refine va_get (D := D) (ci := 8) (v := .int 2) (C := RX8) (T := TX8) (N := 2) hx hb hts in_8 hown hK hP 0 rfl rfl 1 (by decide) fl_15 (fun _ h9 => h9) rfl dX8_put_8 ?_
  refine lv_sipush (v := 600) hx hb dX8_put_11 (by decide +kernel) ?_
  refine lv_icmp_ge (tgt := 40) hx hb dX8_put_14 (by decide) (fun c_12 => absurd c_12 (by decide +kernel)) (fun _ => ?_)
  refine lv_aload_n hx hb dX8_put_17 rfl (lv_at hl 1 rfl) ?_
  refine va_get (D := D) (ci := 8) (v := .ref bt) (C := RX8) (T := TX8) (N := 2) hx hb hts in_8 hown hK hP 0 rfl rfl 0 (by decide) fl_9 (fun _ h9 => h9) rfl dX8_put_18 ?_
  refine lv_aload_n hx hb dX8_put_21 rfl (lv_at hl 1 rfl) ?_
  refine va_get (D := D) (ci := 8) (v := .int 2) (C := RX8) (T := TX8) (N := 2) hx hb hts in_8 hown hK hP 0 rfl rfl 1 (by decide) fl_15 (fun _ h9 => h9) rfl dX8_put_22 ?_
  refine lv_iload_n hx hb dX8_put_25 rfl (lv_at hl 2 rfl) ?_
  refine lv_iload_n hx hb dX8_put_26 rfl (lv_at hl 0 rfl) ?_
  obtain ⟨x_13, ex_13⟩ : ∃ y : Int32, y = (p0.toUInt32 >>> (Int32.toUInt32 8 &&& Int32.toUInt32 31)).toInt32 := ⟨_, rfl⟩
  refine lv_iushr (v := x_13) hx hb dX8_put_27 ex_13.symm ?_
  obtain ⟨x_14, ex_14⟩ : ∃ y : Int32, y = x_13.toInt8.toInt32 := ⟨_, rfl⟩
  refine lv_i2b (v := x_14) hx hb dX8_put_28 ex_14.symm ?_
  refine va_bast hx hb hK hP hD hS 1 1 rfl rfl (vi_c (by decide +kernel)) dX8_put_29 (fun H locs hP hD hS => ?_)
  have hP : va_P D vwCl [(tp, .inr (8, [.ref bt, .int 2])), (bt, .inl (cy 1, 600, .inl (upd f_10 2 (vp_nar .byte x_14))))] H := hP
  have hD : va_D A [(tp, .inr (8, [.ref bt, .int 2])), (bt, .inl (cy 1, 600, .inl (upd f_10 2 (vp_nar .byte x_14))))] := hD
  generalize upd f_10 2 (vp_nar .byte x_14) = f_15 at hP hD
  have hP : va_P D vwCl [(tp, .inr (8, [.ref bt, .int 2])), (bt, .inl (cy 1, 600, .inl f_15))] H := hP
  have hD : va_D A [(tp, .inr (8, [.ref bt, .int 2])), (bt, .inl (cy 1, 600, .inl f_15))] := hD
  refine lv_aload_n hx hb dX8_put_30 rfl (lv_at hl 1 rfl) ?_
  refine lv_dup hx hb dX8_put_31 rfl ?_
  refine va_get (D := D) (ci := 8) (v := .int 2) (C := RX8) (T := TX8) (N := 2) hx hb hts in_8 hown hK hP 0 rfl rfl 1 (by decide) fl_15 (fun _ h9 => h9) rfl dX8_put_32 ?_
  refine lv_iconst (v := 1) hx hb dX8_put_35 (by decide +kernel) ?_
  refine lv_iadd hx hb dX8_put_36 ?_
  refine tp_i 3 (by decide +kernel) ?_
  refine va_put (D := D) (ci := 8) (v := .int 3) (ty := .int) (C := RX8) (T := TX8) (N := 2) hx hb hts in_8 tyX8 tyX8_ok nmX8 hown hK hP hD hS 0 rfl rfl 1 (by decide) fl_15 (fun _ h9 => h9) rfl (by decide +kernel) rfl rfl (Nat.le_of_ble_eq_true rfl) dX8_put_37 (fun H locs hP hD hS => ?_)
  have hP : va_P D vwCl [(tp, .inr (8, [.ref bt, .int 3])), (bt, .inl (cy 1, 600, .inl f_15))] H := hP
  have hD : va_D A [(tp, .inr (8, [.ref bt, .int 3])), (bt, .inl (cy 1, 600, .inl f_15))] := hD
  refine lv_iinc (v := 0) (lv' := [(2, .int 0), (0, .ref tp), (1, .int p0)]) hx hb dX8_put_40 hl (k := 0) rfl (by decide) (by decide) rfl (fun ls hl => ?_)
  refine lv_goto (tgt := 3) hx hb dX8_put_43 (by decide) ?_
  refine lv_iload_n hx hb dX8_put_3 rfl (lv_at hl 0 rfl) ?_
  refine lv_if_lt (tgt := 46) hx hb dX8_put_4 (by decide) (fun c_16 => absurd c_16 (by decide +kernel)) (fun _ => ?_)
  refine lv_aload_n hx hb dX8_put_7 rfl (lv_at hl 1 rfl) ?_
  refine va_get (D := D) (ci := 8) (v := .int 3) (C := RX8) (T := TX8) (N := 2) hx hb hts in_8 hown hK hP 0 rfl rfl 1 (by decide) fl_15 (fun _ h9 => h9) rfl dX8_put_8 ?_
  refine lv_sipush (v := 600) hx hb dX8_put_11 (by decide +kernel) ?_
  refine lv_icmp_ge (tgt := 40) hx hb dX8_put_14 (by decide) (fun c_17 => absurd c_17 (by decide +kernel)) (fun _ => ?_)
  refine lv_aload_n hx hb dX8_put_17 rfl (lv_at hl 1 rfl) ?_
  refine va_get (D := D) (ci := 8) (v := .ref bt) (C := RX8) (T := TX8) (N := 2) hx hb hts in_8 hown hK hP 0 rfl rfl 0 (by decide) fl_9 (fun _ h9 => h9) rfl dX8_put_18 ?_
  refine lv_aload_n hx hb dX8_put_21 rfl (lv_at hl 1 rfl) ?_
  refine va_get (D := D) (ci := 8) (v := .int 3) (C := RX8) (T := TX8) (N := 2) hx hb hts in_8 hown hK hP 0 rfl rfl 1 (by decide) fl_15 (fun _ h9 => h9) rfl dX8_put_22 ?_
  refine lv_iload_n hx hb dX8_put_25 rfl (lv_at hl 2 rfl) ?_
  refine lv_iload_n hx hb dX8_put_26 rfl (lv_at hl 0 rfl) ?_
  obtain ⟨x_18, ex_18⟩ : ∃ y : Int32, y = (p0.toUInt32 >>> (Int32.toUInt32 0 &&& Int32.toUInt32 31)).toInt32 := ⟨_, rfl⟩
  refine lv_iushr (v := x_18) hx hb dX8_put_27 ex_18.symm ?_
  obtain ⟨x_19, ex_19⟩ : ∃ y : Int32, y = x_18.toInt8.toInt32 := ⟨_, rfl⟩
  refine lv_i2b (v := x_19) hx hb dX8_put_28 ex_19.symm ?_
  refine va_bast hx hb hK hP hD hS 1 1 rfl rfl (vi_c (by decide +kernel)) dX8_put_29 (fun H locs hP hD hS => ?_)
  have hP : va_P D vwCl [(tp, .inr (8, [.ref bt, .int 3])), (bt, .inl (cy 1, 600, .inl (upd f_15 3 (vp_nar .byte x_19))))] H := hP
  have hD : va_D A [(tp, .inr (8, [.ref bt, .int 3])), (bt, .inl (cy 1, 600, .inl (upd f_15 3 (vp_nar .byte x_19))))] := hD
  generalize upd f_15 3 (vp_nar .byte x_19) = f_20 at hP hD
  have hP : va_P D vwCl [(tp, .inr (8, [.ref bt, .int 3])), (bt, .inl (cy 1, 600, .inl f_20))] H := hP
  have hD : va_D A [(tp, .inr (8, [.ref bt, .int 3])), (bt, .inl (cy 1, 600, .inl f_20))] := hD
  refine lv_aload_n hx hb dX8_put_30 rfl (lv_at hl 1 rfl) ?_
  refine lv_dup hx hb dX8_put_31 rfl ?_
  refine va_get (D := D) (ci := 8) (v := .int 3) (C := RX8) (T := TX8) (N := 2) hx hb hts in_8 hown hK hP 0 rfl rfl 1 (by decide) fl_15 (fun _ h9 => h9) rfl dX8_put_32 ?_
  refine lv_iconst (v := 1) hx hb dX8_put_35 (by decide +kernel) ?_
  refine lv_iadd hx hb dX8_put_36 ?_
  refine tp_i 4 (by decide +kernel) ?_
  refine va_put (D := D) (ci := 8) (v := .int 4) (ty := .int) (C := RX8) (T := TX8) (N := 2) hx hb hts in_8 tyX8 tyX8_ok nmX8 hown hK hP hD hS 0 rfl rfl 1 (by decide) fl_15 (fun _ h9 => h9) rfl (by decide +kernel) rfl rfl (Nat.le_of_ble_eq_true rfl) dX8_put_37 (fun H locs hP hD hS => ?_)
  have hP : va_P D vwCl [(tp, .inr (8, [.ref bt, .int 4])), (bt, .inl (cy 1, 600, .inl f_20))] H := hP
  have hD : va_D A [(tp, .inr (8, [.ref bt, .int 4])), (bt, .inl (cy 1, 600, .inl f_20))] := hD
  refine lv_iinc (v := (-8)) (lv' := [(2, .int (-8)), (0, .ref tp), (1, .int p0)]) hx hb dX8_put_40 hl (k := 0) rfl (by decide) (by decide) rfl (fun ls hl => ?_)
  refine lv_goto (tgt := 3) hx hb dX8_put_43 (by decide) ?_
  refine lv_iload_n hx hb dX8_put_3 rfl (lv_at hl 0 rfl) ?_
  refine lv_if_lt (tgt := 46) hx hb dX8_put_4 (by decide) (fun _ => ?_) (fun c_21 => absurd (by decide +kernel) c_21)
  have hP9 := hP.sub (ws' := [(tp, .inr (8, [.ref bt, .int 4])), (bt, .inl (cy 1, 600, .inl f_20))]) [0, 1] rfl
  have hD9 := hD.sub (ws' := [(tp, .inr (8, [.ref bt, .int 4])), (bt, .inl (cy 1, 600, .inl f_20))]) [0, 1] (by decide) rfl
  exact W.vret hx hb hr (fun t ht hW => ⟨⟨(), rfl, trivial, f_20, by rw [ht]; exact hP9, hD9⟩, hS.F ht⟩) hS.2.2 dX8_put_46
set_option maxHeartbeats 4000000 in
set_option maxRecDepth 100000 in
theorem c_X8_put_4 (l : Launch) (D : va_G) (cy : Nat → ClassId) (tp : Nat) (bt : Nat) (bf : Nat → Int32) (p0 : Int32) (sz : Nat)  : Met l yX8_put wsX8_put ({ frames := 0, cells := 0, slots := 0, locals := 0 } : Room) (va_Pc [.ref tp, .int p0] (PW D cy [(tp, .inr (8, [.ref bt, .int 4])), (bt, .inl (cy 1, 600, .inl bf))] sz)) (va_Qv (fun _ : Unit => True) (fun _ t => ∃ (f_20 : Nat → Int32), va_P D vwCl [(tp, .inr (8, [.ref bt, .int 8])), (bt, .inl (cy 1, 600, .inl f_20))] t.heap ∧ va_D (va_A [(tp, .inr (8, [.ref bt, .int 4])), (bt, .inl (cy 1, 600, .inl bf))] sz) [(tp, .inr (8, [.ref bt, .int 8])), (bt, .inl (cy 1, 600, .inl f_20))]) (va_A [(tp, .inr (8, [.ref bt, .int 4])), (bt, .inl (cy 1, 600, .inl bf))] sz)) 0 0 (va_A [(tp, .inr (8, [.ref bt, .int 4])), (bt, .inl (cy 1, 600, .inl bf))] sz) := by
  refine Met.ofW (cc := cX8_put) (maxL := 3) (ret := none) (by decide) rfl ?_
  intro p e s m args below meth c s₁ B hml hv
  obtain ⟨rfl, hsz, hP, hKW, hD0⟩ := hv
  have hK := hKW.1
  have hx := B.exec
  have hb := B.bytes
  have hr := B.returns
  have hts := atoms_spec (ws := wsX8_put) B.pre
  have hown : s.vm.findClass RX8 = some m.cls := findClass_of_methodNamed B.named
  have hlocks := B.notSynchronized
  have in_8 : ∀ w ∈ u_ws RX8 TX8 2, w ∈ wsX8_put := by decide +kernel
  have fl_15 := hts (.fieldLink RX8 15 "ShoalClaims$Tape" "length" "I") (by decide +kernel)
  have fl_9 := hts (.fieldLink RX8 9 "ShoalClaims$Tape" "bytes" "[B") (by decide +kernel)
  subst hsz
  have hD := hD0.self (sz := s.heap.size)
  generalize hAe : va_A [(tp, .inr (8, [.ref bt, .int 4])), (bt, .inl (cy 1, 600, .inl bf))] s.heap.size = A at hD ⊢
  have hA : ∀ q : Nat, s.heap.size ≤ q → A q := fun q h => by rw [← hAe]; exact Or.inr h
  have hS : va_S A s.heap s.heap [] := va_S.rf
  have hP : va_P D vwCl [(tp, .inr (8, [.ref bt, .int 4])), (bt, .inl (cy 1, 600, .inl bf))] s.heap := hP
  have hl := lv_entry ([.ref tp, .int p0]) (n := 3) (Nat.le_of_ble_eq_true rfl)
  rw [lg_entry_eq]
  generalize (lg_sl ([.ref tp, .int p0]) ++ List.replicate (3 - (lg_sl ([.ref tp, .int p0])).length) Slot.unset).toArray = ls at hl ⊢
  have hl : lv_has ls 3 [(0, .ref tp), (1, .int p0)] := hl
  refine lv_bipush (v := 24) hx hb dX8_put_0 (by decide +kernel) ?_
  refine lv_istore_n (lv' := [(2, .int 24), (0, .ref tp), (1, .int p0)]) hx hb dX8_put_2 rfl hl (by decide) rfl (fun ls hl => ?_)
  refine lv_iload_n hx hb dX8_put_3 rfl (lv_at hl 0 rfl) ?_
  refine lv_if_lt (tgt := 46) hx hb dX8_put_4 (by decide) (fun c_1 => absurd c_1 (by decide +kernel)) (fun _ => ?_)
  refine lv_aload_n hx hb dX8_put_7 rfl (lv_at hl 1 rfl) ?_
  refine va_get (D := D) (ci := 8) (v := .int 4) (C := RX8) (T := TX8) (N := 2) hx hb hts in_8 hown hK hP 0 rfl rfl 1 (by decide) fl_15 (fun _ h9 => h9) rfl dX8_put_8 ?_
  refine lv_sipush (v := 600) hx hb dX8_put_11 (by decide +kernel) ?_
  refine lv_icmp_ge (tgt := 40) hx hb dX8_put_14 (by decide) (fun c_2 => absurd c_2 (by decide +kernel)) (fun _ => ?_)
  refine lv_aload_n hx hb dX8_put_17 rfl (lv_at hl 1 rfl) ?_
  refine va_get (D := D) (ci := 8) (v := .ref bt) (C := RX8) (T := TX8) (N := 2) hx hb hts in_8 hown hK hP 0 rfl rfl 0 (by decide) fl_9 (fun _ h9 => h9) rfl dX8_put_18 ?_
  refine lv_aload_n hx hb dX8_put_21 rfl (lv_at hl 1 rfl) ?_
  refine va_get (D := D) (ci := 8) (v := .int 4) (C := RX8) (T := TX8) (N := 2) hx hb hts in_8 hown hK hP 0 rfl rfl 1 (by decide) fl_15 (fun _ h9 => h9) rfl dX8_put_22 ?_
  refine lv_iload_n hx hb dX8_put_25 rfl (lv_at hl 2 rfl) ?_
  refine lv_iload_n hx hb dX8_put_26 rfl (lv_at hl 0 rfl) ?_
  obtain ⟨x_3, ex_3⟩ : ∃ y : Int32, y = (p0.toUInt32 >>> (Int32.toUInt32 24 &&& Int32.toUInt32 31)).toInt32 := ⟨_, rfl⟩
  refine lv_iushr (v := x_3) hx hb dX8_put_27 ex_3.symm ?_
  obtain ⟨x_4, ex_4⟩ : ∃ y : Int32, y = x_3.toInt8.toInt32 := ⟨_, rfl⟩
  refine lv_i2b (v := x_4) hx hb dX8_put_28 ex_4.symm ?_
  refine va_bast hx hb hK hP hD hS 1 1 rfl rfl (vi_c (by decide +kernel)) dX8_put_29 (fun H locs hP hD hS => ?_)
  have hP : va_P D vwCl [(tp, .inr (8, [.ref bt, .int 4])), (bt, .inl (cy 1, 600, .inl (upd bf 4 (vp_nar .byte x_4))))] H := hP
  have hD : va_D A [(tp, .inr (8, [.ref bt, .int 4])), (bt, .inl (cy 1, 600, .inl (upd bf 4 (vp_nar .byte x_4))))] := hD
  generalize upd bf 4 (vp_nar .byte x_4) = f_5 at hP hD
  have hP : va_P D vwCl [(tp, .inr (8, [.ref bt, .int 4])), (bt, .inl (cy 1, 600, .inl f_5))] H := hP
  have hD : va_D A [(tp, .inr (8, [.ref bt, .int 4])), (bt, .inl (cy 1, 600, .inl f_5))] := hD
  refine lv_aload_n hx hb dX8_put_30 rfl (lv_at hl 1 rfl) ?_
  refine lv_dup hx hb dX8_put_31 rfl ?_
  refine va_get (D := D) (ci := 8) (v := .int 4) (C := RX8) (T := TX8) (N := 2) hx hb hts in_8 hown hK hP 0 rfl rfl 1 (by decide) fl_15 (fun _ h9 => h9) rfl dX8_put_32 ?_
  refine lv_iconst (v := 1) hx hb dX8_put_35 (by decide +kernel) ?_
  refine lv_iadd hx hb dX8_put_36 ?_
  refine tp_i 5 (by decide +kernel) ?_
  refine va_put (D := D) (ci := 8) (v := .int 5) (ty := .int) (C := RX8) (T := TX8) (N := 2) hx hb hts in_8 tyX8 tyX8_ok nmX8 hown hK hP hD hS 0 rfl rfl 1 (by decide) fl_15 (fun _ h9 => h9) rfl (by decide +kernel) rfl rfl (Nat.le_of_ble_eq_true rfl) dX8_put_37 (fun H locs hP hD hS => ?_)
  have hP : va_P D vwCl [(tp, .inr (8, [.ref bt, .int 5])), (bt, .inl (cy 1, 600, .inl f_5))] H := hP
  have hD : va_D A [(tp, .inr (8, [.ref bt, .int 5])), (bt, .inl (cy 1, 600, .inl f_5))] := hD
  refine lv_iinc (v := 16) (lv' := [(2, .int 16), (0, .ref tp), (1, .int p0)]) hx hb dX8_put_40 hl (k := 0) rfl (by decide) (by decide) rfl (fun ls hl => ?_)
  refine lv_goto (tgt := 3) hx hb dX8_put_43 (by decide) ?_
  refine lv_iload_n hx hb dX8_put_3 rfl (lv_at hl 0 rfl) ?_
  refine lv_if_lt (tgt := 46) hx hb dX8_put_4 (by decide) (fun c_6 => absurd c_6 (by decide +kernel)) (fun _ => ?_)
  refine lv_aload_n hx hb dX8_put_7 rfl (lv_at hl 1 rfl) ?_
  refine va_get (D := D) (ci := 8) (v := .int 5) (C := RX8) (T := TX8) (N := 2) hx hb hts in_8 hown hK hP 0 rfl rfl 1 (by decide) fl_15 (fun _ h9 => h9) rfl dX8_put_8 ?_
  refine lv_sipush (v := 600) hx hb dX8_put_11 (by decide +kernel) ?_
  refine lv_icmp_ge (tgt := 40) hx hb dX8_put_14 (by decide) (fun c_7 => absurd c_7 (by decide +kernel)) (fun _ => ?_)
  refine lv_aload_n hx hb dX8_put_17 rfl (lv_at hl 1 rfl) ?_
  refine va_get (D := D) (ci := 8) (v := .ref bt) (C := RX8) (T := TX8) (N := 2) hx hb hts in_8 hown hK hP 0 rfl rfl 0 (by decide) fl_9 (fun _ h9 => h9) rfl dX8_put_18 ?_
  refine lv_aload_n hx hb dX8_put_21 rfl (lv_at hl 1 rfl) ?_
  refine va_get (D := D) (ci := 8) (v := .int 5) (C := RX8) (T := TX8) (N := 2) hx hb hts in_8 hown hK hP 0 rfl rfl 1 (by decide) fl_15 (fun _ h9 => h9) rfl dX8_put_22 ?_
  refine lv_iload_n hx hb dX8_put_25 rfl (lv_at hl 2 rfl) ?_
  refine lv_iload_n hx hb dX8_put_26 rfl (lv_at hl 0 rfl) ?_
  obtain ⟨x_8, ex_8⟩ : ∃ y : Int32, y = (p0.toUInt32 >>> (Int32.toUInt32 16 &&& Int32.toUInt32 31)).toInt32 := ⟨_, rfl⟩
  refine lv_iushr (v := x_8) hx hb dX8_put_27 ex_8.symm ?_
  obtain ⟨x_9, ex_9⟩ : ∃ y : Int32, y = x_8.toInt8.toInt32 := ⟨_, rfl⟩
  refine lv_i2b (v := x_9) hx hb dX8_put_28 ex_9.symm ?_
  refine va_bast hx hb hK hP hD hS 1 1 rfl rfl (vi_c (by decide +kernel)) dX8_put_29 (fun H locs hP hD hS => ?_)
  have hP : va_P D vwCl [(tp, .inr (8, [.ref bt, .int 5])), (bt, .inl (cy 1, 600, .inl (upd f_5 5 (vp_nar .byte x_9))))] H := hP
  have hD : va_D A [(tp, .inr (8, [.ref bt, .int 5])), (bt, .inl (cy 1, 600, .inl (upd f_5 5 (vp_nar .byte x_9))))] := hD
  generalize upd f_5 5 (vp_nar .byte x_9) = f_10 at hP hD
  have hP : va_P D vwCl [(tp, .inr (8, [.ref bt, .int 5])), (bt, .inl (cy 1, 600, .inl f_10))] H := hP
  have hD : va_D A [(tp, .inr (8, [.ref bt, .int 5])), (bt, .inl (cy 1, 600, .inl f_10))] := hD
  refine lv_aload_n hx hb dX8_put_30 rfl (lv_at hl 1 rfl) ?_
  refine lv_dup hx hb dX8_put_31 rfl ?_
  refine va_get (D := D) (ci := 8) (v := .int 5) (C := RX8) (T := TX8) (N := 2) hx hb hts in_8 hown hK hP 0 rfl rfl 1 (by decide) fl_15 (fun _ h9 => h9) rfl dX8_put_32 ?_
  refine lv_iconst (v := 1) hx hb dX8_put_35 (by decide +kernel) ?_
  refine lv_iadd hx hb dX8_put_36 ?_
  refine tp_i 6 (by decide +kernel) ?_
  refine va_put (D := D) (ci := 8) (v := .int 6) (ty := .int) (C := RX8) (T := TX8) (N := 2) hx hb hts in_8 tyX8 tyX8_ok nmX8 hown hK hP hD hS 0 rfl rfl 1 (by decide) fl_15 (fun _ h9 => h9) rfl (by decide +kernel) rfl rfl (Nat.le_of_ble_eq_true rfl) dX8_put_37 (fun H locs hP hD hS => ?_)
  have hP : va_P D vwCl [(tp, .inr (8, [.ref bt, .int 6])), (bt, .inl (cy 1, 600, .inl f_10))] H := hP
  have hD : va_D A [(tp, .inr (8, [.ref bt, .int 6])), (bt, .inl (cy 1, 600, .inl f_10))] := hD
  refine lv_iinc (v := 8) (lv' := [(2, .int 8), (0, .ref tp), (1, .int p0)]) hx hb dX8_put_40 hl (k := 0) rfl (by decide) (by decide) rfl (fun ls hl => ?_)
  refine lv_goto (tgt := 3) hx hb dX8_put_43 (by decide) ?_
  refine lv_iload_n hx hb dX8_put_3 rfl (lv_at hl 0 rfl) ?_
  refine lv_if_lt (tgt := 46) hx hb dX8_put_4 (by decide) (fun c_11 => absurd c_11 (by decide +kernel)) (fun _ => ?_)
  refine lv_aload_n hx hb dX8_put_7 rfl (lv_at hl 1 rfl) ?_
  refine va_get (D := D) (ci := 8) (v := .int 6) (C := RX8) (T := TX8) (N := 2) hx hb hts in_8 hown hK hP 0 rfl rfl 1 (by decide) fl_15 (fun _ h9 => h9) rfl dX8_put_8 ?_
  refine lv_sipush (v := 600) hx hb dX8_put_11 (by decide +kernel) ?_
  refine lv_icmp_ge (tgt := 40) hx hb dX8_put_14 (by decide) (fun c_12 => absurd c_12 (by decide +kernel)) (fun _ => ?_)
  refine lv_aload_n hx hb dX8_put_17 rfl (lv_at hl 1 rfl) ?_
  refine va_get (D := D) (ci := 8) (v := .ref bt) (C := RX8) (T := TX8) (N := 2) hx hb hts in_8 hown hK hP 0 rfl rfl 0 (by decide) fl_9 (fun _ h9 => h9) rfl dX8_put_18 ?_
  refine lv_aload_n hx hb dX8_put_21 rfl (lv_at hl 1 rfl) ?_
  refine va_get (D := D) (ci := 8) (v := .int 6) (C := RX8) (T := TX8) (N := 2) hx hb hts in_8 hown hK hP 0 rfl rfl 1 (by decide) fl_15 (fun _ h9 => h9) rfl dX8_put_22 ?_
  refine lv_iload_n hx hb dX8_put_25 rfl (lv_at hl 2 rfl) ?_
  refine lv_iload_n hx hb dX8_put_26 rfl (lv_at hl 0 rfl) ?_
  obtain ⟨x_13, ex_13⟩ : ∃ y : Int32, y = (p0.toUInt32 >>> (Int32.toUInt32 8 &&& Int32.toUInt32 31)).toInt32 := ⟨_, rfl⟩
  refine lv_iushr (v := x_13) hx hb dX8_put_27 ex_13.symm ?_
  obtain ⟨x_14, ex_14⟩ : ∃ y : Int32, y = x_13.toInt8.toInt32 := ⟨_, rfl⟩
  refine lv_i2b (v := x_14) hx hb dX8_put_28 ex_14.symm ?_
  refine va_bast hx hb hK hP hD hS 1 1 rfl rfl (vi_c (by decide +kernel)) dX8_put_29 (fun H locs hP hD hS => ?_)
  have hP : va_P D vwCl [(tp, .inr (8, [.ref bt, .int 6])), (bt, .inl (cy 1, 600, .inl (upd f_10 6 (vp_nar .byte x_14))))] H := hP
  have hD : va_D A [(tp, .inr (8, [.ref bt, .int 6])), (bt, .inl (cy 1, 600, .inl (upd f_10 6 (vp_nar .byte x_14))))] := hD
  generalize upd f_10 6 (vp_nar .byte x_14) = f_15 at hP hD
  have hP : va_P D vwCl [(tp, .inr (8, [.ref bt, .int 6])), (bt, .inl (cy 1, 600, .inl f_15))] H := hP
  have hD : va_D A [(tp, .inr (8, [.ref bt, .int 6])), (bt, .inl (cy 1, 600, .inl f_15))] := hD
  refine lv_aload_n hx hb dX8_put_30 rfl (lv_at hl 1 rfl) ?_
  refine lv_dup hx hb dX8_put_31 rfl ?_
  refine va_get (D := D) (ci := 8) (v := .int 6) (C := RX8) (T := TX8) (N := 2) hx hb hts in_8 hown hK hP 0 rfl rfl 1 (by decide) fl_15 (fun _ h9 => h9) rfl dX8_put_32 ?_
  refine lv_iconst (v := 1) hx hb dX8_put_35 (by decide +kernel) ?_
  refine lv_iadd hx hb dX8_put_36 ?_
  refine tp_i 7 (by decide +kernel) ?_
  refine va_put (D := D) (ci := 8) (v := .int 7) (ty := .int) (C := RX8) (T := TX8) (N := 2) hx hb hts in_8 tyX8 tyX8_ok nmX8 hown hK hP hD hS 0 rfl rfl 1 (by decide) fl_15 (fun _ h9 => h9) rfl (by decide +kernel) rfl rfl (Nat.le_of_ble_eq_true rfl) dX8_put_37 (fun H locs hP hD hS => ?_)
  have hP : va_P D vwCl [(tp, .inr (8, [.ref bt, .int 7])), (bt, .inl (cy 1, 600, .inl f_15))] H := hP
  have hD : va_D A [(tp, .inr (8, [.ref bt, .int 7])), (bt, .inl (cy 1, 600, .inl f_15))] := hD
  refine lv_iinc (v := 0) (lv' := [(2, .int 0), (0, .ref tp), (1, .int p0)]) hx hb dX8_put_40 hl (k := 0) rfl (by decide) (by decide) rfl (fun ls hl => ?_)
  refine lv_goto (tgt := 3) hx hb dX8_put_43 (by decide) ?_
  refine lv_iload_n hx hb dX8_put_3 rfl (lv_at hl 0 rfl) ?_
  refine lv_if_lt (tgt := 46) hx hb dX8_put_4 (by decide) (fun c_16 => absurd c_16 (by decide +kernel)) (fun _ => ?_)
  refine lv_aload_n hx hb dX8_put_7 rfl (lv_at hl 1 rfl) ?_
  refine va_get (D := D) (ci := 8) (v := .int 7) (C := RX8) (T := TX8) (N := 2) hx hb hts in_8 hown hK hP 0 rfl rfl 1 (by decide) fl_15 (fun _ h9 => h9) rfl dX8_put_8 ?_
  refine lv_sipush (v := 600) hx hb dX8_put_11 (by decide +kernel) ?_
  refine lv_icmp_ge (tgt := 40) hx hb dX8_put_14 (by decide) (fun c_17 => absurd c_17 (by decide +kernel)) (fun _ => ?_)
  refine lv_aload_n hx hb dX8_put_17 rfl (lv_at hl 1 rfl) ?_
  refine va_get (D := D) (ci := 8) (v := .ref bt) (C := RX8) (T := TX8) (N := 2) hx hb hts in_8 hown hK hP 0 rfl rfl 0 (by decide) fl_9 (fun _ h9 => h9) rfl dX8_put_18 ?_
  refine lv_aload_n hx hb dX8_put_21 rfl (lv_at hl 1 rfl) ?_
  refine va_get (D := D) (ci := 8) (v := .int 7) (C := RX8) (T := TX8) (N := 2) hx hb hts in_8 hown hK hP 0 rfl rfl 1 (by decide) fl_15 (fun _ h9 => h9) rfl dX8_put_22 ?_
  refine lv_iload_n hx hb dX8_put_25 rfl (lv_at hl 2 rfl) ?_
  refine lv_iload_n hx hb dX8_put_26 rfl (lv_at hl 0 rfl) ?_
  obtain ⟨x_18, ex_18⟩ : ∃ y : Int32, y = (p0.toUInt32 >>> (Int32.toUInt32 0 &&& Int32.toUInt32 31)).toInt32 := ⟨_, rfl⟩
  refine lv_iushr (v := x_18) hx hb dX8_put_27 ex_18.symm ?_
  obtain ⟨x_19, ex_19⟩ : ∃ y : Int32, y = x_18.toInt8.toInt32 := ⟨_, rfl⟩
  refine lv_i2b (v := x_19) hx hb dX8_put_28 ex_19.symm ?_
  refine va_bast hx hb hK hP hD hS 1 1 rfl rfl (vi_c (by decide +kernel)) dX8_put_29 (fun H locs hP hD hS => ?_)
  have hP : va_P D vwCl [(tp, .inr (8, [.ref bt, .int 7])), (bt, .inl (cy 1, 600, .inl (upd f_15 7 (vp_nar .byte x_19))))] H := hP
  have hD : va_D A [(tp, .inr (8, [.ref bt, .int 7])), (bt, .inl (cy 1, 600, .inl (upd f_15 7 (vp_nar .byte x_19))))] := hD
  generalize upd f_15 7 (vp_nar .byte x_19) = f_20 at hP hD
  have hP : va_P D vwCl [(tp, .inr (8, [.ref bt, .int 7])), (bt, .inl (cy 1, 600, .inl f_20))] H := hP
  have hD : va_D A [(tp, .inr (8, [.ref bt, .int 7])), (bt, .inl (cy 1, 600, .inl f_20))] := hD
  refine lv_aload_n hx hb dX8_put_30 rfl (lv_at hl 1 rfl) ?_
  refine lv_dup hx hb dX8_put_31 rfl ?_
  refine va_get (D := D) (ci := 8) (v := .int 7) (C := RX8) (T := TX8) (N := 2) hx hb hts in_8 hown hK hP 0 rfl rfl 1 (by decide) fl_15 (fun _ h9 => h9) rfl dX8_put_32 ?_
  refine lv_iconst (v := 1) hx hb dX8_put_35 (by decide +kernel) ?_
  refine lv_iadd hx hb dX8_put_36 ?_
  refine tp_i 8 (by decide +kernel) ?_
  refine va_put (D := D) (ci := 8) (v := .int 8) (ty := .int) (C := RX8) (T := TX8) (N := 2) hx hb hts in_8 tyX8 tyX8_ok nmX8 hown hK hP hD hS 0 rfl rfl 1 (by decide) fl_15 (fun _ h9 => h9) rfl (by decide +kernel) rfl rfl (Nat.le_of_ble_eq_true rfl) dX8_put_37 (fun H locs hP hD hS => ?_)
  have hP : va_P D vwCl [(tp, .inr (8, [.ref bt, .int 8])), (bt, .inl (cy 1, 600, .inl f_20))] H := hP
  have hD : va_D A [(tp, .inr (8, [.ref bt, .int 8])), (bt, .inl (cy 1, 600, .inl f_20))] := hD
  refine lv_iinc (v := (-8)) (lv' := [(2, .int (-8)), (0, .ref tp), (1, .int p0)]) hx hb dX8_put_40 hl (k := 0) rfl (by decide) (by decide) rfl (fun ls hl => ?_)
  refine lv_goto (tgt := 3) hx hb dX8_put_43 (by decide) ?_
  refine lv_iload_n hx hb dX8_put_3 rfl (lv_at hl 0 rfl) ?_
  refine lv_if_lt (tgt := 46) hx hb dX8_put_4 (by decide) (fun _ => ?_) (fun c_21 => absurd (by decide +kernel) c_21)
  have hP9 := hP.sub (ws' := [(tp, .inr (8, [.ref bt, .int 8])), (bt, .inl (cy 1, 600, .inl f_20))]) [0, 1] rfl
  have hD9 := hD.sub (ws' := [(tp, .inr (8, [.ref bt, .int 8])), (bt, .inl (cy 1, 600, .inl f_20))]) [0, 1] (by decide) rfl
  exact W.vret hx hb hr (fun t ht hW => ⟨⟨(), rfl, trivial, f_20, by rw [ht]; exact hP9, hD9⟩, hS.F ht⟩) hS.2.2 dX8_put_46
set_option maxHeartbeats 4000000 in
set_option maxRecDepth 100000 in
theorem c_X8_put_8 (l : Launch) (D : va_G) (cy : Nat → ClassId) (tp : Nat) (bt : Nat) (bf : Nat → Int32) (p0 : Int32) (sz : Nat)  : Met l yX8_put wsX8_put ({ frames := 0, cells := 0, slots := 0, locals := 0 } : Room) (va_Pc [.ref tp, .int p0] (PW D cy [(tp, .inr (8, [.ref bt, .int 8])), (bt, .inl (cy 1, 600, .inl bf))] sz)) (va_Qv (fun _ : Unit => True) (fun _ t => ∃ (f_20 : Nat → Int32), va_P D vwCl [(tp, .inr (8, [.ref bt, .int 12])), (bt, .inl (cy 1, 600, .inl f_20))] t.heap ∧ va_D (va_A [(tp, .inr (8, [.ref bt, .int 8])), (bt, .inl (cy 1, 600, .inl bf))] sz) [(tp, .inr (8, [.ref bt, .int 12])), (bt, .inl (cy 1, 600, .inl f_20))]) (va_A [(tp, .inr (8, [.ref bt, .int 8])), (bt, .inl (cy 1, 600, .inl bf))] sz)) 0 0 (va_A [(tp, .inr (8, [.ref bt, .int 8])), (bt, .inl (cy 1, 600, .inl bf))] sz) := by
  refine Met.ofW (cc := cX8_put) (maxL := 3) (ret := none) (by decide) rfl ?_
  intro p e s m args below meth c s₁ B hml hv
  obtain ⟨rfl, hsz, hP, hKW, hD0⟩ := hv
  have hK := hKW.1
  have hx := B.exec
  have hb := B.bytes
  have hr := B.returns
  have hts := atoms_spec (ws := wsX8_put) B.pre
  have hown : s.vm.findClass RX8 = some m.cls := findClass_of_methodNamed B.named
  have hlocks := B.notSynchronized
  have in_8 : ∀ w ∈ u_ws RX8 TX8 2, w ∈ wsX8_put := by decide +kernel
  have fl_15 := hts (.fieldLink RX8 15 "ShoalClaims$Tape" "length" "I") (by decide +kernel)
  have fl_9 := hts (.fieldLink RX8 9 "ShoalClaims$Tape" "bytes" "[B") (by decide +kernel)
  subst hsz
  have hD := hD0.self (sz := s.heap.size)
  generalize hAe : va_A [(tp, .inr (8, [.ref bt, .int 8])), (bt, .inl (cy 1, 600, .inl bf))] s.heap.size = A at hD ⊢
  have hA : ∀ q : Nat, s.heap.size ≤ q → A q := fun q h => by rw [← hAe]; exact Or.inr h
  have hS : va_S A s.heap s.heap [] := va_S.rf
  have hP : va_P D vwCl [(tp, .inr (8, [.ref bt, .int 8])), (bt, .inl (cy 1, 600, .inl bf))] s.heap := hP
  have hl := lv_entry ([.ref tp, .int p0]) (n := 3) (Nat.le_of_ble_eq_true rfl)
  rw [lg_entry_eq]
  generalize (lg_sl ([.ref tp, .int p0]) ++ List.replicate (3 - (lg_sl ([.ref tp, .int p0])).length) Slot.unset).toArray = ls at hl ⊢
  have hl : lv_has ls 3 [(0, .ref tp), (1, .int p0)] := hl
  refine lv_bipush (v := 24) hx hb dX8_put_0 (by decide +kernel) ?_
  refine lv_istore_n (lv' := [(2, .int 24), (0, .ref tp), (1, .int p0)]) hx hb dX8_put_2 rfl hl (by decide) rfl (fun ls hl => ?_)
  refine lv_iload_n hx hb dX8_put_3 rfl (lv_at hl 0 rfl) ?_
  refine lv_if_lt (tgt := 46) hx hb dX8_put_4 (by decide) (fun c_1 => absurd c_1 (by decide +kernel)) (fun _ => ?_)
  refine lv_aload_n hx hb dX8_put_7 rfl (lv_at hl 1 rfl) ?_
  refine va_get (D := D) (ci := 8) (v := .int 8) (C := RX8) (T := TX8) (N := 2) hx hb hts in_8 hown hK hP 0 rfl rfl 1 (by decide) fl_15 (fun _ h9 => h9) rfl dX8_put_8 ?_
  refine lv_sipush (v := 600) hx hb dX8_put_11 (by decide +kernel) ?_
  refine lv_icmp_ge (tgt := 40) hx hb dX8_put_14 (by decide) (fun c_2 => absurd c_2 (by decide +kernel)) (fun _ => ?_)
  refine lv_aload_n hx hb dX8_put_17 rfl (lv_at hl 1 rfl) ?_
  refine va_get (D := D) (ci := 8) (v := .ref bt) (C := RX8) (T := TX8) (N := 2) hx hb hts in_8 hown hK hP 0 rfl rfl 0 (by decide) fl_9 (fun _ h9 => h9) rfl dX8_put_18 ?_
  refine lv_aload_n hx hb dX8_put_21 rfl (lv_at hl 1 rfl) ?_
  refine va_get (D := D) (ci := 8) (v := .int 8) (C := RX8) (T := TX8) (N := 2) hx hb hts in_8 hown hK hP 0 rfl rfl 1 (by decide) fl_15 (fun _ h9 => h9) rfl dX8_put_22 ?_
  refine lv_iload_n hx hb dX8_put_25 rfl (lv_at hl 2 rfl) ?_
  refine lv_iload_n hx hb dX8_put_26 rfl (lv_at hl 0 rfl) ?_
  obtain ⟨x_3, ex_3⟩ : ∃ y : Int32, y = (p0.toUInt32 >>> (Int32.toUInt32 24 &&& Int32.toUInt32 31)).toInt32 := ⟨_, rfl⟩
  refine lv_iushr (v := x_3) hx hb dX8_put_27 ex_3.symm ?_
  obtain ⟨x_4, ex_4⟩ : ∃ y : Int32, y = x_3.toInt8.toInt32 := ⟨_, rfl⟩
  refine lv_i2b (v := x_4) hx hb dX8_put_28 ex_4.symm ?_
  refine va_bast hx hb hK hP hD hS 1 1 rfl rfl (vi_c (by decide +kernel)) dX8_put_29 (fun H locs hP hD hS => ?_)
  have hP : va_P D vwCl [(tp, .inr (8, [.ref bt, .int 8])), (bt, .inl (cy 1, 600, .inl (upd bf 8 (vp_nar .byte x_4))))] H := hP
  have hD : va_D A [(tp, .inr (8, [.ref bt, .int 8])), (bt, .inl (cy 1, 600, .inl (upd bf 8 (vp_nar .byte x_4))))] := hD
  generalize upd bf 8 (vp_nar .byte x_4) = f_5 at hP hD
  have hP : va_P D vwCl [(tp, .inr (8, [.ref bt, .int 8])), (bt, .inl (cy 1, 600, .inl f_5))] H := hP
  have hD : va_D A [(tp, .inr (8, [.ref bt, .int 8])), (bt, .inl (cy 1, 600, .inl f_5))] := hD
  refine lv_aload_n hx hb dX8_put_30 rfl (lv_at hl 1 rfl) ?_
  refine lv_dup hx hb dX8_put_31 rfl ?_
  refine va_get (D := D) (ci := 8) (v := .int 8) (C := RX8) (T := TX8) (N := 2) hx hb hts in_8 hown hK hP 0 rfl rfl 1 (by decide) fl_15 (fun _ h9 => h9) rfl dX8_put_32 ?_
  refine lv_iconst (v := 1) hx hb dX8_put_35 (by decide +kernel) ?_
  refine lv_iadd hx hb dX8_put_36 ?_
  refine tp_i 9 (by decide +kernel) ?_
  refine va_put (D := D) (ci := 8) (v := .int 9) (ty := .int) (C := RX8) (T := TX8) (N := 2) hx hb hts in_8 tyX8 tyX8_ok nmX8 hown hK hP hD hS 0 rfl rfl 1 (by decide) fl_15 (fun _ h9 => h9) rfl (by decide +kernel) rfl rfl (Nat.le_of_ble_eq_true rfl) dX8_put_37 (fun H locs hP hD hS => ?_)
  have hP : va_P D vwCl [(tp, .inr (8, [.ref bt, .int 9])), (bt, .inl (cy 1, 600, .inl f_5))] H := hP
  have hD : va_D A [(tp, .inr (8, [.ref bt, .int 9])), (bt, .inl (cy 1, 600, .inl f_5))] := hD
  refine lv_iinc (v := 16) (lv' := [(2, .int 16), (0, .ref tp), (1, .int p0)]) hx hb dX8_put_40 hl (k := 0) rfl (by decide) (by decide) rfl (fun ls hl => ?_)
  refine lv_goto (tgt := 3) hx hb dX8_put_43 (by decide) ?_
  refine lv_iload_n hx hb dX8_put_3 rfl (lv_at hl 0 rfl) ?_
  refine lv_if_lt (tgt := 46) hx hb dX8_put_4 (by decide) (fun c_6 => absurd c_6 (by decide +kernel)) (fun _ => ?_)
  refine lv_aload_n hx hb dX8_put_7 rfl (lv_at hl 1 rfl) ?_
  refine va_get (D := D) (ci := 8) (v := .int 9) (C := RX8) (T := TX8) (N := 2) hx hb hts in_8 hown hK hP 0 rfl rfl 1 (by decide) fl_15 (fun _ h9 => h9) rfl dX8_put_8 ?_
  refine lv_sipush (v := 600) hx hb dX8_put_11 (by decide +kernel) ?_
  refine lv_icmp_ge (tgt := 40) hx hb dX8_put_14 (by decide) (fun c_7 => absurd c_7 (by decide +kernel)) (fun _ => ?_)
  refine lv_aload_n hx hb dX8_put_17 rfl (lv_at hl 1 rfl) ?_
  refine va_get (D := D) (ci := 8) (v := .ref bt) (C := RX8) (T := TX8) (N := 2) hx hb hts in_8 hown hK hP 0 rfl rfl 0 (by decide) fl_9 (fun _ h9 => h9) rfl dX8_put_18 ?_
  refine lv_aload_n hx hb dX8_put_21 rfl (lv_at hl 1 rfl) ?_
  refine va_get (D := D) (ci := 8) (v := .int 9) (C := RX8) (T := TX8) (N := 2) hx hb hts in_8 hown hK hP 0 rfl rfl 1 (by decide) fl_15 (fun _ h9 => h9) rfl dX8_put_22 ?_
  refine lv_iload_n hx hb dX8_put_25 rfl (lv_at hl 2 rfl) ?_
  refine lv_iload_n hx hb dX8_put_26 rfl (lv_at hl 0 rfl) ?_
  obtain ⟨x_8, ex_8⟩ : ∃ y : Int32, y = (p0.toUInt32 >>> (Int32.toUInt32 16 &&& Int32.toUInt32 31)).toInt32 := ⟨_, rfl⟩
  refine lv_iushr (v := x_8) hx hb dX8_put_27 ex_8.symm ?_
  obtain ⟨x_9, ex_9⟩ : ∃ y : Int32, y = x_8.toInt8.toInt32 := ⟨_, rfl⟩
  refine lv_i2b (v := x_9) hx hb dX8_put_28 ex_9.symm ?_
  refine va_bast hx hb hK hP hD hS 1 1 rfl rfl (vi_c (by decide +kernel)) dX8_put_29 (fun H locs hP hD hS => ?_)
  have hP : va_P D vwCl [(tp, .inr (8, [.ref bt, .int 9])), (bt, .inl (cy 1, 600, .inl (upd f_5 9 (vp_nar .byte x_9))))] H := hP
  have hD : va_D A [(tp, .inr (8, [.ref bt, .int 9])), (bt, .inl (cy 1, 600, .inl (upd f_5 9 (vp_nar .byte x_9))))] := hD
  generalize upd f_5 9 (vp_nar .byte x_9) = f_10 at hP hD
  have hP : va_P D vwCl [(tp, .inr (8, [.ref bt, .int 9])), (bt, .inl (cy 1, 600, .inl f_10))] H := hP
  have hD : va_D A [(tp, .inr (8, [.ref bt, .int 9])), (bt, .inl (cy 1, 600, .inl f_10))] := hD
  refine lv_aload_n hx hb dX8_put_30 rfl (lv_at hl 1 rfl) ?_
  refine lv_dup hx hb dX8_put_31 rfl ?_
  refine va_get (D := D) (ci := 8) (v := .int 9) (C := RX8) (T := TX8) (N := 2) hx hb hts in_8 hown hK hP 0 rfl rfl 1 (by decide) fl_15 (fun _ h9 => h9) rfl dX8_put_32 ?_
  refine lv_iconst (v := 1) hx hb dX8_put_35 (by decide +kernel) ?_
  refine lv_iadd hx hb dX8_put_36 ?_
  refine tp_i 10 (by decide +kernel) ?_
  refine va_put (D := D) (ci := 8) (v := .int 10) (ty := .int) (C := RX8) (T := TX8) (N := 2) hx hb hts in_8 tyX8 tyX8_ok nmX8 hown hK hP hD hS 0 rfl rfl 1 (by decide) fl_15 (fun _ h9 => h9) rfl (by decide +kernel) rfl rfl (Nat.le_of_ble_eq_true rfl) dX8_put_37 (fun H locs hP hD hS => ?_)
  have hP : va_P D vwCl [(tp, .inr (8, [.ref bt, .int 10])), (bt, .inl (cy 1, 600, .inl f_10))] H := hP
  have hD : va_D A [(tp, .inr (8, [.ref bt, .int 10])), (bt, .inl (cy 1, 600, .inl f_10))] := hD
  refine lv_iinc (v := 8) (lv' := [(2, .int 8), (0, .ref tp), (1, .int p0)]) hx hb dX8_put_40 hl (k := 0) rfl (by decide) (by decide) rfl (fun ls hl => ?_)
  refine lv_goto (tgt := 3) hx hb dX8_put_43 (by decide) ?_
  refine lv_iload_n hx hb dX8_put_3 rfl (lv_at hl 0 rfl) ?_
  refine lv_if_lt (tgt := 46) hx hb dX8_put_4 (by decide) (fun c_11 => absurd c_11 (by decide +kernel)) (fun _ => ?_)
  refine lv_aload_n hx hb dX8_put_7 rfl (lv_at hl 1 rfl) ?_
  refine va_get (D := D) (ci := 8) (v := .int 10) (C := RX8) (T := TX8) (N := 2) hx hb hts in_8 hown hK hP 0 rfl rfl 1 (by decide) fl_15 (fun _ h9 => h9) rfl dX8_put_8 ?_
  refine lv_sipush (v := 600) hx hb dX8_put_11 (by decide +kernel) ?_
  refine lv_icmp_ge (tgt := 40) hx hb dX8_put_14 (by decide) (fun c_12 => absurd c_12 (by decide +kernel)) (fun _ => ?_)
  refine lv_aload_n hx hb dX8_put_17 rfl (lv_at hl 1 rfl) ?_
  refine va_get (D := D) (ci := 8) (v := .ref bt) (C := RX8) (T := TX8) (N := 2) hx hb hts in_8 hown hK hP 0 rfl rfl 0 (by decide) fl_9 (fun _ h9 => h9) rfl dX8_put_18 ?_
  refine lv_aload_n hx hb dX8_put_21 rfl (lv_at hl 1 rfl) ?_
  refine va_get (D := D) (ci := 8) (v := .int 10) (C := RX8) (T := TX8) (N := 2) hx hb hts in_8 hown hK hP 0 rfl rfl 1 (by decide) fl_15 (fun _ h9 => h9) rfl dX8_put_22 ?_
  refine lv_iload_n hx hb dX8_put_25 rfl (lv_at hl 2 rfl) ?_
  refine lv_iload_n hx hb dX8_put_26 rfl (lv_at hl 0 rfl) ?_
  obtain ⟨x_13, ex_13⟩ : ∃ y : Int32, y = (p0.toUInt32 >>> (Int32.toUInt32 8 &&& Int32.toUInt32 31)).toInt32 := ⟨_, rfl⟩
  refine lv_iushr (v := x_13) hx hb dX8_put_27 ex_13.symm ?_
  obtain ⟨x_14, ex_14⟩ : ∃ y : Int32, y = x_13.toInt8.toInt32 := ⟨_, rfl⟩
  refine lv_i2b (v := x_14) hx hb dX8_put_28 ex_14.symm ?_
  refine va_bast hx hb hK hP hD hS 1 1 rfl rfl (vi_c (by decide +kernel)) dX8_put_29 (fun H locs hP hD hS => ?_)
  have hP : va_P D vwCl [(tp, .inr (8, [.ref bt, .int 10])), (bt, .inl (cy 1, 600, .inl (upd f_10 10 (vp_nar .byte x_14))))] H := hP
  have hD : va_D A [(tp, .inr (8, [.ref bt, .int 10])), (bt, .inl (cy 1, 600, .inl (upd f_10 10 (vp_nar .byte x_14))))] := hD
  generalize upd f_10 10 (vp_nar .byte x_14) = f_15 at hP hD
  have hP : va_P D vwCl [(tp, .inr (8, [.ref bt, .int 10])), (bt, .inl (cy 1, 600, .inl f_15))] H := hP
  have hD : va_D A [(tp, .inr (8, [.ref bt, .int 10])), (bt, .inl (cy 1, 600, .inl f_15))] := hD
  refine lv_aload_n hx hb dX8_put_30 rfl (lv_at hl 1 rfl) ?_
  refine lv_dup hx hb dX8_put_31 rfl ?_
  refine va_get (D := D) (ci := 8) (v := .int 10) (C := RX8) (T := TX8) (N := 2) hx hb hts in_8 hown hK hP 0 rfl rfl 1 (by decide) fl_15 (fun _ h9 => h9) rfl dX8_put_32 ?_
  refine lv_iconst (v := 1) hx hb dX8_put_35 (by decide +kernel) ?_
  refine lv_iadd hx hb dX8_put_36 ?_
  refine tp_i 11 (by decide +kernel) ?_
  refine va_put (D := D) (ci := 8) (v := .int 11) (ty := .int) (C := RX8) (T := TX8) (N := 2) hx hb hts in_8 tyX8 tyX8_ok nmX8 hown hK hP hD hS 0 rfl rfl 1 (by decide) fl_15 (fun _ h9 => h9) rfl (by decide +kernel) rfl rfl (Nat.le_of_ble_eq_true rfl) dX8_put_37 (fun H locs hP hD hS => ?_)
  have hP : va_P D vwCl [(tp, .inr (8, [.ref bt, .int 11])), (bt, .inl (cy 1, 600, .inl f_15))] H := hP
  have hD : va_D A [(tp, .inr (8, [.ref bt, .int 11])), (bt, .inl (cy 1, 600, .inl f_15))] := hD
  refine lv_iinc (v := 0) (lv' := [(2, .int 0), (0, .ref tp), (1, .int p0)]) hx hb dX8_put_40 hl (k := 0) rfl (by decide) (by decide) rfl (fun ls hl => ?_)
  refine lv_goto (tgt := 3) hx hb dX8_put_43 (by decide) ?_
  refine lv_iload_n hx hb dX8_put_3 rfl (lv_at hl 0 rfl) ?_
  refine lv_if_lt (tgt := 46) hx hb dX8_put_4 (by decide) (fun c_16 => absurd c_16 (by decide +kernel)) (fun _ => ?_)
  refine lv_aload_n hx hb dX8_put_7 rfl (lv_at hl 1 rfl) ?_
  refine va_get (D := D) (ci := 8) (v := .int 11) (C := RX8) (T := TX8) (N := 2) hx hb hts in_8 hown hK hP 0 rfl rfl 1 (by decide) fl_15 (fun _ h9 => h9) rfl dX8_put_8 ?_
  refine lv_sipush (v := 600) hx hb dX8_put_11 (by decide +kernel) ?_
  refine lv_icmp_ge (tgt := 40) hx hb dX8_put_14 (by decide) (fun c_17 => absurd c_17 (by decide +kernel)) (fun _ => ?_)
  refine lv_aload_n hx hb dX8_put_17 rfl (lv_at hl 1 rfl) ?_
  refine va_get (D := D) (ci := 8) (v := .ref bt) (C := RX8) (T := TX8) (N := 2) hx hb hts in_8 hown hK hP 0 rfl rfl 0 (by decide) fl_9 (fun _ h9 => h9) rfl dX8_put_18 ?_
  refine lv_aload_n hx hb dX8_put_21 rfl (lv_at hl 1 rfl) ?_
  refine va_get (D := D) (ci := 8) (v := .int 11) (C := RX8) (T := TX8) (N := 2) hx hb hts in_8 hown hK hP 0 rfl rfl 1 (by decide) fl_15 (fun _ h9 => h9) rfl dX8_put_22 ?_
  refine lv_iload_n hx hb dX8_put_25 rfl (lv_at hl 2 rfl) ?_
  refine lv_iload_n hx hb dX8_put_26 rfl (lv_at hl 0 rfl) ?_
  obtain ⟨x_18, ex_18⟩ : ∃ y : Int32, y = (p0.toUInt32 >>> (Int32.toUInt32 0 &&& Int32.toUInt32 31)).toInt32 := ⟨_, rfl⟩
  refine lv_iushr (v := x_18) hx hb dX8_put_27 ex_18.symm ?_
  obtain ⟨x_19, ex_19⟩ : ∃ y : Int32, y = x_18.toInt8.toInt32 := ⟨_, rfl⟩
  refine lv_i2b (v := x_19) hx hb dX8_put_28 ex_19.symm ?_
  refine va_bast hx hb hK hP hD hS 1 1 rfl rfl (vi_c (by decide +kernel)) dX8_put_29 (fun H locs hP hD hS => ?_)
  have hP : va_P D vwCl [(tp, .inr (8, [.ref bt, .int 11])), (bt, .inl (cy 1, 600, .inl (upd f_15 11 (vp_nar .byte x_19))))] H := hP
  have hD : va_D A [(tp, .inr (8, [.ref bt, .int 11])), (bt, .inl (cy 1, 600, .inl (upd f_15 11 (vp_nar .byte x_19))))] := hD
  generalize upd f_15 11 (vp_nar .byte x_19) = f_20 at hP hD
  have hP : va_P D vwCl [(tp, .inr (8, [.ref bt, .int 11])), (bt, .inl (cy 1, 600, .inl f_20))] H := hP
  have hD : va_D A [(tp, .inr (8, [.ref bt, .int 11])), (bt, .inl (cy 1, 600, .inl f_20))] := hD
  refine lv_aload_n hx hb dX8_put_30 rfl (lv_at hl 1 rfl) ?_
  refine lv_dup hx hb dX8_put_31 rfl ?_
  refine va_get (D := D) (ci := 8) (v := .int 11) (C := RX8) (T := TX8) (N := 2) hx hb hts in_8 hown hK hP 0 rfl rfl 1 (by decide) fl_15 (fun _ h9 => h9) rfl dX8_put_32 ?_
  refine lv_iconst (v := 1) hx hb dX8_put_35 (by decide +kernel) ?_
  refine lv_iadd hx hb dX8_put_36 ?_
  refine tp_i 12 (by decide +kernel) ?_
  refine va_put (D := D) (ci := 8) (v := .int 12) (ty := .int) (C := RX8) (T := TX8) (N := 2) hx hb hts in_8 tyX8 tyX8_ok nmX8 hown hK hP hD hS 0 rfl rfl 1 (by decide) fl_15 (fun _ h9 => h9) rfl (by decide +kernel) rfl rfl (Nat.le_of_ble_eq_true rfl) dX8_put_37 (fun H locs hP hD hS => ?_)
  have hP : va_P D vwCl [(tp, .inr (8, [.ref bt, .int 12])), (bt, .inl (cy 1, 600, .inl f_20))] H := hP
  have hD : va_D A [(tp, .inr (8, [.ref bt, .int 12])), (bt, .inl (cy 1, 600, .inl f_20))] := hD
  refine lv_iinc (v := (-8)) (lv' := [(2, .int (-8)), (0, .ref tp), (1, .int p0)]) hx hb dX8_put_40 hl (k := 0) rfl (by decide) (by decide) rfl (fun ls hl => ?_)
  refine lv_goto (tgt := 3) hx hb dX8_put_43 (by decide) ?_
  refine lv_iload_n hx hb dX8_put_3 rfl (lv_at hl 0 rfl) ?_
  refine lv_if_lt (tgt := 46) hx hb dX8_put_4 (by decide) (fun _ => ?_) (fun c_21 => absurd (by decide +kernel) c_21)
  have hP9 := hP.sub (ws' := [(tp, .inr (8, [.ref bt, .int 12])), (bt, .inl (cy 1, 600, .inl f_20))]) [0, 1] rfl
  have hD9 := hD.sub (ws' := [(tp, .inr (8, [.ref bt, .int 12])), (bt, .inl (cy 1, 600, .inl f_20))]) [0, 1] (by decide) rfl
  exact W.vret hx hb hr (fun t ht hW => ⟨⟨(), rfl, trivial, f_20, by rw [ht]; exact hP9, hD9⟩, hS.F ht⟩) hS.2.2 dX8_put_46
set_option maxHeartbeats 4000000 in
set_option maxRecDepth 100000 in
theorem c_X8_put_12 (l : Launch) (D : va_G) (cy : Nat → ClassId) (tp : Nat) (bt : Nat) (bf : Nat → Int32) (p0 : Int32) (sz : Nat)  : Met l yX8_put wsX8_put ({ frames := 0, cells := 0, slots := 0, locals := 0 } : Room) (va_Pc [.ref tp, .int p0] (PW D cy [(tp, .inr (8, [.ref bt, .int 12])), (bt, .inl (cy 1, 600, .inl bf))] sz)) (va_Qv (fun _ : Unit => True) (fun _ t => ∃ (f_20 : Nat → Int32), va_P D vwCl [(tp, .inr (8, [.ref bt, .int 16])), (bt, .inl (cy 1, 600, .inl f_20))] t.heap ∧ va_D (va_A [(tp, .inr (8, [.ref bt, .int 12])), (bt, .inl (cy 1, 600, .inl bf))] sz) [(tp, .inr (8, [.ref bt, .int 16])), (bt, .inl (cy 1, 600, .inl f_20))]) (va_A [(tp, .inr (8, [.ref bt, .int 12])), (bt, .inl (cy 1, 600, .inl bf))] sz)) 0 0 (va_A [(tp, .inr (8, [.ref bt, .int 12])), (bt, .inl (cy 1, 600, .inl bf))] sz) := by
  refine Met.ofW (cc := cX8_put) (maxL := 3) (ret := none) (by decide) rfl ?_
  intro p e s m args below meth c s₁ B hml hv
  obtain ⟨rfl, hsz, hP, hKW, hD0⟩ := hv
  have hK := hKW.1
  have hx := B.exec
  have hb := B.bytes
  have hr := B.returns
  have hts := atoms_spec (ws := wsX8_put) B.pre
  have hown : s.vm.findClass RX8 = some m.cls := findClass_of_methodNamed B.named
  have hlocks := B.notSynchronized
  have in_8 : ∀ w ∈ u_ws RX8 TX8 2, w ∈ wsX8_put := by decide +kernel
  have fl_15 := hts (.fieldLink RX8 15 "ShoalClaims$Tape" "length" "I") (by decide +kernel)
  have fl_9 := hts (.fieldLink RX8 9 "ShoalClaims$Tape" "bytes" "[B") (by decide +kernel)
  subst hsz
  have hD := hD0.self (sz := s.heap.size)
  generalize hAe : va_A [(tp, .inr (8, [.ref bt, .int 12])), (bt, .inl (cy 1, 600, .inl bf))] s.heap.size = A at hD ⊢
  have hA : ∀ q : Nat, s.heap.size ≤ q → A q := fun q h => by rw [← hAe]; exact Or.inr h
  have hS : va_S A s.heap s.heap [] := va_S.rf
  have hP : va_P D vwCl [(tp, .inr (8, [.ref bt, .int 12])), (bt, .inl (cy 1, 600, .inl bf))] s.heap := hP
  have hl := lv_entry ([.ref tp, .int p0]) (n := 3) (Nat.le_of_ble_eq_true rfl)
  rw [lg_entry_eq]
  generalize (lg_sl ([.ref tp, .int p0]) ++ List.replicate (3 - (lg_sl ([.ref tp, .int p0])).length) Slot.unset).toArray = ls at hl ⊢
  have hl : lv_has ls 3 [(0, .ref tp), (1, .int p0)] := hl
  refine lv_bipush (v := 24) hx hb dX8_put_0 (by decide +kernel) ?_
  refine lv_istore_n (lv' := [(2, .int 24), (0, .ref tp), (1, .int p0)]) hx hb dX8_put_2 rfl hl (by decide) rfl (fun ls hl => ?_)
  refine lv_iload_n hx hb dX8_put_3 rfl (lv_at hl 0 rfl) ?_
  refine lv_if_lt (tgt := 46) hx hb dX8_put_4 (by decide) (fun c_1 => absurd c_1 (by decide +kernel)) (fun _ => ?_)
  refine lv_aload_n hx hb dX8_put_7 rfl (lv_at hl 1 rfl) ?_
  refine va_get (D := D) (ci := 8) (v := .int 12) (C := RX8) (T := TX8) (N := 2) hx hb hts in_8 hown hK hP 0 rfl rfl 1 (by decide) fl_15 (fun _ h9 => h9) rfl dX8_put_8 ?_
  refine lv_sipush (v := 600) hx hb dX8_put_11 (by decide +kernel) ?_
  refine lv_icmp_ge (tgt := 40) hx hb dX8_put_14 (by decide) (fun c_2 => absurd c_2 (by decide +kernel)) (fun _ => ?_)
  refine lv_aload_n hx hb dX8_put_17 rfl (lv_at hl 1 rfl) ?_
  refine va_get (D := D) (ci := 8) (v := .ref bt) (C := RX8) (T := TX8) (N := 2) hx hb hts in_8 hown hK hP 0 rfl rfl 0 (by decide) fl_9 (fun _ h9 => h9) rfl dX8_put_18 ?_
  refine lv_aload_n hx hb dX8_put_21 rfl (lv_at hl 1 rfl) ?_
  refine va_get (D := D) (ci := 8) (v := .int 12) (C := RX8) (T := TX8) (N := 2) hx hb hts in_8 hown hK hP 0 rfl rfl 1 (by decide) fl_15 (fun _ h9 => h9) rfl dX8_put_22 ?_
  refine lv_iload_n hx hb dX8_put_25 rfl (lv_at hl 2 rfl) ?_
  refine lv_iload_n hx hb dX8_put_26 rfl (lv_at hl 0 rfl) ?_
  obtain ⟨x_3, ex_3⟩ : ∃ y : Int32, y = (p0.toUInt32 >>> (Int32.toUInt32 24 &&& Int32.toUInt32 31)).toInt32 := ⟨_, rfl⟩
  refine lv_iushr (v := x_3) hx hb dX8_put_27 ex_3.symm ?_
  obtain ⟨x_4, ex_4⟩ : ∃ y : Int32, y = x_3.toInt8.toInt32 := ⟨_, rfl⟩
  refine lv_i2b (v := x_4) hx hb dX8_put_28 ex_4.symm ?_
  refine va_bast hx hb hK hP hD hS 1 1 rfl rfl (vi_c (by decide +kernel)) dX8_put_29 (fun H locs hP hD hS => ?_)
  have hP : va_P D vwCl [(tp, .inr (8, [.ref bt, .int 12])), (bt, .inl (cy 1, 600, .inl (upd bf 12 (vp_nar .byte x_4))))] H := hP
  have hD : va_D A [(tp, .inr (8, [.ref bt, .int 12])), (bt, .inl (cy 1, 600, .inl (upd bf 12 (vp_nar .byte x_4))))] := hD
  generalize upd bf 12 (vp_nar .byte x_4) = f_5 at hP hD
  have hP : va_P D vwCl [(tp, .inr (8, [.ref bt, .int 12])), (bt, .inl (cy 1, 600, .inl f_5))] H := hP
  have hD : va_D A [(tp, .inr (8, [.ref bt, .int 12])), (bt, .inl (cy 1, 600, .inl f_5))] := hD
  refine lv_aload_n hx hb dX8_put_30 rfl (lv_at hl 1 rfl) ?_
  refine lv_dup hx hb dX8_put_31 rfl ?_
  refine va_get (D := D) (ci := 8) (v := .int 12) (C := RX8) (T := TX8) (N := 2) hx hb hts in_8 hown hK hP 0 rfl rfl 1 (by decide) fl_15 (fun _ h9 => h9) rfl dX8_put_32 ?_
  refine lv_iconst (v := 1) hx hb dX8_put_35 (by decide +kernel) ?_
  refine lv_iadd hx hb dX8_put_36 ?_
  refine tp_i 13 (by decide +kernel) ?_
  refine va_put (D := D) (ci := 8) (v := .int 13) (ty := .int) (C := RX8) (T := TX8) (N := 2) hx hb hts in_8 tyX8 tyX8_ok nmX8 hown hK hP hD hS 0 rfl rfl 1 (by decide) fl_15 (fun _ h9 => h9) rfl (by decide +kernel) rfl rfl (Nat.le_of_ble_eq_true rfl) dX8_put_37 (fun H locs hP hD hS => ?_)
  have hP : va_P D vwCl [(tp, .inr (8, [.ref bt, .int 13])), (bt, .inl (cy 1, 600, .inl f_5))] H := hP
  have hD : va_D A [(tp, .inr (8, [.ref bt, .int 13])), (bt, .inl (cy 1, 600, .inl f_5))] := hD
  refine lv_iinc (v := 16) (lv' := [(2, .int 16), (0, .ref tp), (1, .int p0)]) hx hb dX8_put_40 hl (k := 0) rfl (by decide) (by decide) rfl (fun ls hl => ?_)
  refine lv_goto (tgt := 3) hx hb dX8_put_43 (by decide) ?_
  refine lv_iload_n hx hb dX8_put_3 rfl (lv_at hl 0 rfl) ?_
  refine lv_if_lt (tgt := 46) hx hb dX8_put_4 (by decide) (fun c_6 => absurd c_6 (by decide +kernel)) (fun _ => ?_)
  refine lv_aload_n hx hb dX8_put_7 rfl (lv_at hl 1 rfl) ?_
  refine va_get (D := D) (ci := 8) (v := .int 13) (C := RX8) (T := TX8) (N := 2) hx hb hts in_8 hown hK hP 0 rfl rfl 1 (by decide) fl_15 (fun _ h9 => h9) rfl dX8_put_8 ?_
  refine lv_sipush (v := 600) hx hb dX8_put_11 (by decide +kernel) ?_
  refine lv_icmp_ge (tgt := 40) hx hb dX8_put_14 (by decide) (fun c_7 => absurd c_7 (by decide +kernel)) (fun _ => ?_)
  refine lv_aload_n hx hb dX8_put_17 rfl (lv_at hl 1 rfl) ?_
  refine va_get (D := D) (ci := 8) (v := .ref bt) (C := RX8) (T := TX8) (N := 2) hx hb hts in_8 hown hK hP 0 rfl rfl 0 (by decide) fl_9 (fun _ h9 => h9) rfl dX8_put_18 ?_
  refine lv_aload_n hx hb dX8_put_21 rfl (lv_at hl 1 rfl) ?_
  refine va_get (D := D) (ci := 8) (v := .int 13) (C := RX8) (T := TX8) (N := 2) hx hb hts in_8 hown hK hP 0 rfl rfl 1 (by decide) fl_15 (fun _ h9 => h9) rfl dX8_put_22 ?_
  refine lv_iload_n hx hb dX8_put_25 rfl (lv_at hl 2 rfl) ?_
  refine lv_iload_n hx hb dX8_put_26 rfl (lv_at hl 0 rfl) ?_
  obtain ⟨x_8, ex_8⟩ : ∃ y : Int32, y = (p0.toUInt32 >>> (Int32.toUInt32 16 &&& Int32.toUInt32 31)).toInt32 := ⟨_, rfl⟩
  refine lv_iushr (v := x_8) hx hb dX8_put_27 ex_8.symm ?_
  obtain ⟨x_9, ex_9⟩ : ∃ y : Int32, y = x_8.toInt8.toInt32 := ⟨_, rfl⟩
  refine lv_i2b (v := x_9) hx hb dX8_put_28 ex_9.symm ?_
  refine va_bast hx hb hK hP hD hS 1 1 rfl rfl (vi_c (by decide +kernel)) dX8_put_29 (fun H locs hP hD hS => ?_)
  have hP : va_P D vwCl [(tp, .inr (8, [.ref bt, .int 13])), (bt, .inl (cy 1, 600, .inl (upd f_5 13 (vp_nar .byte x_9))))] H := hP
  have hD : va_D A [(tp, .inr (8, [.ref bt, .int 13])), (bt, .inl (cy 1, 600, .inl (upd f_5 13 (vp_nar .byte x_9))))] := hD
  generalize upd f_5 13 (vp_nar .byte x_9) = f_10 at hP hD
  have hP : va_P D vwCl [(tp, .inr (8, [.ref bt, .int 13])), (bt, .inl (cy 1, 600, .inl f_10))] H := hP
  have hD : va_D A [(tp, .inr (8, [.ref bt, .int 13])), (bt, .inl (cy 1, 600, .inl f_10))] := hD
  refine lv_aload_n hx hb dX8_put_30 rfl (lv_at hl 1 rfl) ?_
  refine lv_dup hx hb dX8_put_31 rfl ?_
  refine va_get (D := D) (ci := 8) (v := .int 13) (C := RX8) (T := TX8) (N := 2) hx hb hts in_8 hown hK hP 0 rfl rfl 1 (by decide) fl_15 (fun _ h9 => h9) rfl dX8_put_32 ?_
  refine lv_iconst (v := 1) hx hb dX8_put_35 (by decide +kernel) ?_
  refine lv_iadd hx hb dX8_put_36 ?_
  refine tp_i 14 (by decide +kernel) ?_
  refine va_put (D := D) (ci := 8) (v := .int 14) (ty := .int) (C := RX8) (T := TX8) (N := 2) hx hb hts in_8 tyX8 tyX8_ok nmX8 hown hK hP hD hS 0 rfl rfl 1 (by decide) fl_15 (fun _ h9 => h9) rfl (by decide +kernel) rfl rfl (Nat.le_of_ble_eq_true rfl) dX8_put_37 (fun H locs hP hD hS => ?_)
  have hP : va_P D vwCl [(tp, .inr (8, [.ref bt, .int 14])), (bt, .inl (cy 1, 600, .inl f_10))] H := hP
  have hD : va_D A [(tp, .inr (8, [.ref bt, .int 14])), (bt, .inl (cy 1, 600, .inl f_10))] := hD
  refine lv_iinc (v := 8) (lv' := [(2, .int 8), (0, .ref tp), (1, .int p0)]) hx hb dX8_put_40 hl (k := 0) rfl (by decide) (by decide) rfl (fun ls hl => ?_)
  refine lv_goto (tgt := 3) hx hb dX8_put_43 (by decide) ?_
  refine lv_iload_n hx hb dX8_put_3 rfl (lv_at hl 0 rfl) ?_
  refine lv_if_lt (tgt := 46) hx hb dX8_put_4 (by decide) (fun c_11 => absurd c_11 (by decide +kernel)) (fun _ => ?_)
  refine lv_aload_n hx hb dX8_put_7 rfl (lv_at hl 1 rfl) ?_
  refine va_get (D := D) (ci := 8) (v := .int 14) (C := RX8) (T := TX8) (N := 2) hx hb hts in_8 hown hK hP 0 rfl rfl 1 (by decide) fl_15 (fun _ h9 => h9) rfl dX8_put_8 ?_
  refine lv_sipush (v := 600) hx hb dX8_put_11 (by decide +kernel) ?_
  refine lv_icmp_ge (tgt := 40) hx hb dX8_put_14 (by decide) (fun c_12 => absurd c_12 (by decide +kernel)) (fun _ => ?_)
  refine lv_aload_n hx hb dX8_put_17 rfl (lv_at hl 1 rfl) ?_
  refine va_get (D := D) (ci := 8) (v := .ref bt) (C := RX8) (T := TX8) (N := 2) hx hb hts in_8 hown hK hP 0 rfl rfl 0 (by decide) fl_9 (fun _ h9 => h9) rfl dX8_put_18 ?_
  refine lv_aload_n hx hb dX8_put_21 rfl (lv_at hl 1 rfl) ?_
  refine va_get (D := D) (ci := 8) (v := .int 14) (C := RX8) (T := TX8) (N := 2) hx hb hts in_8 hown hK hP 0 rfl rfl 1 (by decide) fl_15 (fun _ h9 => h9) rfl dX8_put_22 ?_
  refine lv_iload_n hx hb dX8_put_25 rfl (lv_at hl 2 rfl) ?_
  refine lv_iload_n hx hb dX8_put_26 rfl (lv_at hl 0 rfl) ?_
  obtain ⟨x_13, ex_13⟩ : ∃ y : Int32, y = (p0.toUInt32 >>> (Int32.toUInt32 8 &&& Int32.toUInt32 31)).toInt32 := ⟨_, rfl⟩
  refine lv_iushr (v := x_13) hx hb dX8_put_27 ex_13.symm ?_
  obtain ⟨x_14, ex_14⟩ : ∃ y : Int32, y = x_13.toInt8.toInt32 := ⟨_, rfl⟩
  refine lv_i2b (v := x_14) hx hb dX8_put_28 ex_14.symm ?_
  refine va_bast hx hb hK hP hD hS 1 1 rfl rfl (vi_c (by decide +kernel)) dX8_put_29 (fun H locs hP hD hS => ?_)
  have hP : va_P D vwCl [(tp, .inr (8, [.ref bt, .int 14])), (bt, .inl (cy 1, 600, .inl (upd f_10 14 (vp_nar .byte x_14))))] H := hP
  have hD : va_D A [(tp, .inr (8, [.ref bt, .int 14])), (bt, .inl (cy 1, 600, .inl (upd f_10 14 (vp_nar .byte x_14))))] := hD
  generalize upd f_10 14 (vp_nar .byte x_14) = f_15 at hP hD
  have hP : va_P D vwCl [(tp, .inr (8, [.ref bt, .int 14])), (bt, .inl (cy 1, 600, .inl f_15))] H := hP
  have hD : va_D A [(tp, .inr (8, [.ref bt, .int 14])), (bt, .inl (cy 1, 600, .inl f_15))] := hD
  refine lv_aload_n hx hb dX8_put_30 rfl (lv_at hl 1 rfl) ?_
  refine lv_dup hx hb dX8_put_31 rfl ?_
  refine va_get (D := D) (ci := 8) (v := .int 14) (C := RX8) (T := TX8) (N := 2) hx hb hts in_8 hown hK hP 0 rfl rfl 1 (by decide) fl_15 (fun _ h9 => h9) rfl dX8_put_32 ?_
  refine lv_iconst (v := 1) hx hb dX8_put_35 (by decide +kernel) ?_
  refine lv_iadd hx hb dX8_put_36 ?_
  refine tp_i 15 (by decide +kernel) ?_
  refine va_put (D := D) (ci := 8) (v := .int 15) (ty := .int) (C := RX8) (T := TX8) (N := 2) hx hb hts in_8 tyX8 tyX8_ok nmX8 hown hK hP hD hS 0 rfl rfl 1 (by decide) fl_15 (fun _ h9 => h9) rfl (by decide +kernel) rfl rfl (Nat.le_of_ble_eq_true rfl) dX8_put_37 (fun H locs hP hD hS => ?_)
  have hP : va_P D vwCl [(tp, .inr (8, [.ref bt, .int 15])), (bt, .inl (cy 1, 600, .inl f_15))] H := hP
  have hD : va_D A [(tp, .inr (8, [.ref bt, .int 15])), (bt, .inl (cy 1, 600, .inl f_15))] := hD
  refine lv_iinc (v := 0) (lv' := [(2, .int 0), (0, .ref tp), (1, .int p0)]) hx hb dX8_put_40 hl (k := 0) rfl (by decide) (by decide) rfl (fun ls hl => ?_)
  refine lv_goto (tgt := 3) hx hb dX8_put_43 (by decide) ?_
  refine lv_iload_n hx hb dX8_put_3 rfl (lv_at hl 0 rfl) ?_
  refine lv_if_lt (tgt := 46) hx hb dX8_put_4 (by decide) (fun c_16 => absurd c_16 (by decide +kernel)) (fun _ => ?_)
  refine lv_aload_n hx hb dX8_put_7 rfl (lv_at hl 1 rfl) ?_
  refine va_get (D := D) (ci := 8) (v := .int 15) (C := RX8) (T := TX8) (N := 2) hx hb hts in_8 hown hK hP 0 rfl rfl 1 (by decide) fl_15 (fun _ h9 => h9) rfl dX8_put_8 ?_
  refine lv_sipush (v := 600) hx hb dX8_put_11 (by decide +kernel) ?_
  refine lv_icmp_ge (tgt := 40) hx hb dX8_put_14 (by decide) (fun c_17 => absurd c_17 (by decide +kernel)) (fun _ => ?_)
  refine lv_aload_n hx hb dX8_put_17 rfl (lv_at hl 1 rfl) ?_
  refine va_get (D := D) (ci := 8) (v := .ref bt) (C := RX8) (T := TX8) (N := 2) hx hb hts in_8 hown hK hP 0 rfl rfl 0 (by decide) fl_9 (fun _ h9 => h9) rfl dX8_put_18 ?_
  refine lv_aload_n hx hb dX8_put_21 rfl (lv_at hl 1 rfl) ?_
  refine va_get (D := D) (ci := 8) (v := .int 15) (C := RX8) (T := TX8) (N := 2) hx hb hts in_8 hown hK hP 0 rfl rfl 1 (by decide) fl_15 (fun _ h9 => h9) rfl dX8_put_22 ?_
  refine lv_iload_n hx hb dX8_put_25 rfl (lv_at hl 2 rfl) ?_
  refine lv_iload_n hx hb dX8_put_26 rfl (lv_at hl 0 rfl) ?_
  obtain ⟨x_18, ex_18⟩ : ∃ y : Int32, y = (p0.toUInt32 >>> (Int32.toUInt32 0 &&& Int32.toUInt32 31)).toInt32 := ⟨_, rfl⟩
  refine lv_iushr (v := x_18) hx hb dX8_put_27 ex_18.symm ?_
  obtain ⟨x_19, ex_19⟩ : ∃ y : Int32, y = x_18.toInt8.toInt32 := ⟨_, rfl⟩
  refine lv_i2b (v := x_19) hx hb dX8_put_28 ex_19.symm ?_
  refine va_bast hx hb hK hP hD hS 1 1 rfl rfl (vi_c (by decide +kernel)) dX8_put_29 (fun H locs hP hD hS => ?_)
  have hP : va_P D vwCl [(tp, .inr (8, [.ref bt, .int 15])), (bt, .inl (cy 1, 600, .inl (upd f_15 15 (vp_nar .byte x_19))))] H := hP
  have hD : va_D A [(tp, .inr (8, [.ref bt, .int 15])), (bt, .inl (cy 1, 600, .inl (upd f_15 15 (vp_nar .byte x_19))))] := hD
  generalize upd f_15 15 (vp_nar .byte x_19) = f_20 at hP hD
  have hP : va_P D vwCl [(tp, .inr (8, [.ref bt, .int 15])), (bt, .inl (cy 1, 600, .inl f_20))] H := hP
  have hD : va_D A [(tp, .inr (8, [.ref bt, .int 15])), (bt, .inl (cy 1, 600, .inl f_20))] := hD
  refine lv_aload_n hx hb dX8_put_30 rfl (lv_at hl 1 rfl) ?_
  refine lv_dup hx hb dX8_put_31 rfl ?_
  refine va_get (D := D) (ci := 8) (v := .int 15) (C := RX8) (T := TX8) (N := 2) hx hb hts in_8 hown hK hP 0 rfl rfl 1 (by decide) fl_15 (fun _ h9 => h9) rfl dX8_put_32 ?_
  refine lv_iconst (v := 1) hx hb dX8_put_35 (by decide +kernel) ?_
  refine lv_iadd hx hb dX8_put_36 ?_
  refine tp_i 16 (by decide +kernel) ?_
  refine va_put (D := D) (ci := 8) (v := .int 16) (ty := .int) (C := RX8) (T := TX8) (N := 2) hx hb hts in_8 tyX8 tyX8_ok nmX8 hown hK hP hD hS 0 rfl rfl 1 (by decide) fl_15 (fun _ h9 => h9) rfl (by decide +kernel) rfl rfl (Nat.le_of_ble_eq_true rfl) dX8_put_37 (fun H locs hP hD hS => ?_)
  have hP : va_P D vwCl [(tp, .inr (8, [.ref bt, .int 16])), (bt, .inl (cy 1, 600, .inl f_20))] H := hP
  have hD : va_D A [(tp, .inr (8, [.ref bt, .int 16])), (bt, .inl (cy 1, 600, .inl f_20))] := hD
  refine lv_iinc (v := (-8)) (lv' := [(2, .int (-8)), (0, .ref tp), (1, .int p0)]) hx hb dX8_put_40 hl (k := 0) rfl (by decide) (by decide) rfl (fun ls hl => ?_)
  refine lv_goto (tgt := 3) hx hb dX8_put_43 (by decide) ?_
  refine lv_iload_n hx hb dX8_put_3 rfl (lv_at hl 0 rfl) ?_
  refine lv_if_lt (tgt := 46) hx hb dX8_put_4 (by decide) (fun _ => ?_) (fun c_21 => absurd (by decide +kernel) c_21)
  have hP9 := hP.sub (ws' := [(tp, .inr (8, [.ref bt, .int 16])), (bt, .inl (cy 1, 600, .inl f_20))]) [0, 1] rfl
  have hD9 := hD.sub (ws' := [(tp, .inr (8, [.ref bt, .int 16])), (bt, .inl (cy 1, 600, .inl f_20))]) [0, 1] (by decide) rfl
  exact W.vret hx hb hr (fun t ht hW => ⟨⟨(), rfl, trivial, f_20, by rw [ht]; exact hP9, hD9⟩, hS.F ht⟩) hS.2.2 dX8_put_46
set_option maxHeartbeats 4000000 in
set_option maxRecDepth 100000 in
theorem c_X8_put_16 (l : Launch) (D : va_G) (cy : Nat → ClassId) (tp : Nat) (bt : Nat) (bf : Nat → Int32) (p0 : Int32) (sz : Nat)  : Met l yX8_put wsX8_put ({ frames := 0, cells := 0, slots := 0, locals := 0 } : Room) (va_Pc [.ref tp, .int p0] (PW D cy [(tp, .inr (8, [.ref bt, .int 16])), (bt, .inl (cy 1, 600, .inl bf))] sz)) (va_Qv (fun _ : Unit => True) (fun _ t => ∃ (f_20 : Nat → Int32), va_P D vwCl [(tp, .inr (8, [.ref bt, .int 20])), (bt, .inl (cy 1, 600, .inl f_20))] t.heap ∧ va_D (va_A [(tp, .inr (8, [.ref bt, .int 16])), (bt, .inl (cy 1, 600, .inl bf))] sz) [(tp, .inr (8, [.ref bt, .int 20])), (bt, .inl (cy 1, 600, .inl f_20))]) (va_A [(tp, .inr (8, [.ref bt, .int 16])), (bt, .inl (cy 1, 600, .inl bf))] sz)) 0 0 (va_A [(tp, .inr (8, [.ref bt, .int 16])), (bt, .inl (cy 1, 600, .inl bf))] sz) := by
  refine Met.ofW (cc := cX8_put) (maxL := 3) (ret := none) (by decide) rfl ?_
  intro p e s m args below meth c s₁ B hml hv
  obtain ⟨rfl, hsz, hP, hKW, hD0⟩ := hv
  have hK := hKW.1
  have hx := B.exec
  have hb := B.bytes
  have hr := B.returns
  have hts := atoms_spec (ws := wsX8_put) B.pre
  have hown : s.vm.findClass RX8 = some m.cls := findClass_of_methodNamed B.named
  have hlocks := B.notSynchronized
  have in_8 : ∀ w ∈ u_ws RX8 TX8 2, w ∈ wsX8_put := by decide +kernel
  have fl_15 := hts (.fieldLink RX8 15 "ShoalClaims$Tape" "length" "I") (by decide +kernel)
  have fl_9 := hts (.fieldLink RX8 9 "ShoalClaims$Tape" "bytes" "[B") (by decide +kernel)
  subst hsz
  have hD := hD0.self (sz := s.heap.size)
  generalize hAe : va_A [(tp, .inr (8, [.ref bt, .int 16])), (bt, .inl (cy 1, 600, .inl bf))] s.heap.size = A at hD ⊢
  have hA : ∀ q : Nat, s.heap.size ≤ q → A q := fun q h => by rw [← hAe]; exact Or.inr h
  have hS : va_S A s.heap s.heap [] := va_S.rf
  have hP : va_P D vwCl [(tp, .inr (8, [.ref bt, .int 16])), (bt, .inl (cy 1, 600, .inl bf))] s.heap := hP
  have hl := lv_entry ([.ref tp, .int p0]) (n := 3) (Nat.le_of_ble_eq_true rfl)
  rw [lg_entry_eq]
  generalize (lg_sl ([.ref tp, .int p0]) ++ List.replicate (3 - (lg_sl ([.ref tp, .int p0])).length) Slot.unset).toArray = ls at hl ⊢
  have hl : lv_has ls 3 [(0, .ref tp), (1, .int p0)] := hl
  refine lv_bipush (v := 24) hx hb dX8_put_0 (by decide +kernel) ?_
  refine lv_istore_n (lv' := [(2, .int 24), (0, .ref tp), (1, .int p0)]) hx hb dX8_put_2 rfl hl (by decide) rfl (fun ls hl => ?_)
  refine lv_iload_n hx hb dX8_put_3 rfl (lv_at hl 0 rfl) ?_
  refine lv_if_lt (tgt := 46) hx hb dX8_put_4 (by decide) (fun c_1 => absurd c_1 (by decide +kernel)) (fun _ => ?_)
  refine lv_aload_n hx hb dX8_put_7 rfl (lv_at hl 1 rfl) ?_
  refine va_get (D := D) (ci := 8) (v := .int 16) (C := RX8) (T := TX8) (N := 2) hx hb hts in_8 hown hK hP 0 rfl rfl 1 (by decide) fl_15 (fun _ h9 => h9) rfl dX8_put_8 ?_
  refine lv_sipush (v := 600) hx hb dX8_put_11 (by decide +kernel) ?_
  refine lv_icmp_ge (tgt := 40) hx hb dX8_put_14 (by decide) (fun c_2 => absurd c_2 (by decide +kernel)) (fun _ => ?_)
  refine lv_aload_n hx hb dX8_put_17 rfl (lv_at hl 1 rfl) ?_
  refine va_get (D := D) (ci := 8) (v := .ref bt) (C := RX8) (T := TX8) (N := 2) hx hb hts in_8 hown hK hP 0 rfl rfl 0 (by decide) fl_9 (fun _ h9 => h9) rfl dX8_put_18 ?_
  refine lv_aload_n hx hb dX8_put_21 rfl (lv_at hl 1 rfl) ?_
  refine va_get (D := D) (ci := 8) (v := .int 16) (C := RX8) (T := TX8) (N := 2) hx hb hts in_8 hown hK hP 0 rfl rfl 1 (by decide) fl_15 (fun _ h9 => h9) rfl dX8_put_22 ?_
  refine lv_iload_n hx hb dX8_put_25 rfl (lv_at hl 2 rfl) ?_
  refine lv_iload_n hx hb dX8_put_26 rfl (lv_at hl 0 rfl) ?_
  obtain ⟨x_3, ex_3⟩ : ∃ y : Int32, y = (p0.toUInt32 >>> (Int32.toUInt32 24 &&& Int32.toUInt32 31)).toInt32 := ⟨_, rfl⟩
  refine lv_iushr (v := x_3) hx hb dX8_put_27 ex_3.symm ?_
  obtain ⟨x_4, ex_4⟩ : ∃ y : Int32, y = x_3.toInt8.toInt32 := ⟨_, rfl⟩
  refine lv_i2b (v := x_4) hx hb dX8_put_28 ex_4.symm ?_
  refine va_bast hx hb hK hP hD hS 1 1 rfl rfl (vi_c (by decide +kernel)) dX8_put_29 (fun H locs hP hD hS => ?_)
  have hP : va_P D vwCl [(tp, .inr (8, [.ref bt, .int 16])), (bt, .inl (cy 1, 600, .inl (upd bf 16 (vp_nar .byte x_4))))] H := hP
  have hD : va_D A [(tp, .inr (8, [.ref bt, .int 16])), (bt, .inl (cy 1, 600, .inl (upd bf 16 (vp_nar .byte x_4))))] := hD
  generalize upd bf 16 (vp_nar .byte x_4) = f_5 at hP hD
  have hP : va_P D vwCl [(tp, .inr (8, [.ref bt, .int 16])), (bt, .inl (cy 1, 600, .inl f_5))] H := hP
  have hD : va_D A [(tp, .inr (8, [.ref bt, .int 16])), (bt, .inl (cy 1, 600, .inl f_5))] := hD
  refine lv_aload_n hx hb dX8_put_30 rfl (lv_at hl 1 rfl) ?_
  refine lv_dup hx hb dX8_put_31 rfl ?_
  refine va_get (D := D) (ci := 8) (v := .int 16) (C := RX8) (T := TX8) (N := 2) hx hb hts in_8 hown hK hP 0 rfl rfl 1 (by decide) fl_15 (fun _ h9 => h9) rfl dX8_put_32 ?_
  refine lv_iconst (v := 1) hx hb dX8_put_35 (by decide +kernel) ?_
  refine lv_iadd hx hb dX8_put_36 ?_
  refine tp_i 17 (by decide +kernel) ?_
  refine va_put (D := D) (ci := 8) (v := .int 17) (ty := .int) (C := RX8) (T := TX8) (N := 2) hx hb hts in_8 tyX8 tyX8_ok nmX8 hown hK hP hD hS 0 rfl rfl 1 (by decide) fl_15 (fun _ h9 => h9) rfl (by decide +kernel) rfl rfl (Nat.le_of_ble_eq_true rfl) dX8_put_37 (fun H locs hP hD hS => ?_)
  have hP : va_P D vwCl [(tp, .inr (8, [.ref bt, .int 17])), (bt, .inl (cy 1, 600, .inl f_5))] H := hP
  have hD : va_D A [(tp, .inr (8, [.ref bt, .int 17])), (bt, .inl (cy 1, 600, .inl f_5))] := hD
  refine lv_iinc (v := 16) (lv' := [(2, .int 16), (0, .ref tp), (1, .int p0)]) hx hb dX8_put_40 hl (k := 0) rfl (by decide) (by decide) rfl (fun ls hl => ?_)
  refine lv_goto (tgt := 3) hx hb dX8_put_43 (by decide) ?_
  refine lv_iload_n hx hb dX8_put_3 rfl (lv_at hl 0 rfl) ?_
  refine lv_if_lt (tgt := 46) hx hb dX8_put_4 (by decide) (fun c_6 => absurd c_6 (by decide +kernel)) (fun _ => ?_)
  refine lv_aload_n hx hb dX8_put_7 rfl (lv_at hl 1 rfl) ?_
  refine va_get (D := D) (ci := 8) (v := .int 17) (C := RX8) (T := TX8) (N := 2) hx hb hts in_8 hown hK hP 0 rfl rfl 1 (by decide) fl_15 (fun _ h9 => h9) rfl dX8_put_8 ?_
  refine lv_sipush (v := 600) hx hb dX8_put_11 (by decide +kernel) ?_
  refine lv_icmp_ge (tgt := 40) hx hb dX8_put_14 (by decide) (fun c_7 => absurd c_7 (by decide +kernel)) (fun _ => ?_)
  refine lv_aload_n hx hb dX8_put_17 rfl (lv_at hl 1 rfl) ?_
  refine va_get (D := D) (ci := 8) (v := .ref bt) (C := RX8) (T := TX8) (N := 2) hx hb hts in_8 hown hK hP 0 rfl rfl 0 (by decide) fl_9 (fun _ h9 => h9) rfl dX8_put_18 ?_
  refine lv_aload_n hx hb dX8_put_21 rfl (lv_at hl 1 rfl) ?_
  refine va_get (D := D) (ci := 8) (v := .int 17) (C := RX8) (T := TX8) (N := 2) hx hb hts in_8 hown hK hP 0 rfl rfl 1 (by decide) fl_15 (fun _ h9 => h9) rfl dX8_put_22 ?_
  refine lv_iload_n hx hb dX8_put_25 rfl (lv_at hl 2 rfl) ?_
  refine lv_iload_n hx hb dX8_put_26 rfl (lv_at hl 0 rfl) ?_
  obtain ⟨x_8, ex_8⟩ : ∃ y : Int32, y = (p0.toUInt32 >>> (Int32.toUInt32 16 &&& Int32.toUInt32 31)).toInt32 := ⟨_, rfl⟩
  refine lv_iushr (v := x_8) hx hb dX8_put_27 ex_8.symm ?_
  obtain ⟨x_9, ex_9⟩ : ∃ y : Int32, y = x_8.toInt8.toInt32 := ⟨_, rfl⟩
  refine lv_i2b (v := x_9) hx hb dX8_put_28 ex_9.symm ?_
  refine va_bast hx hb hK hP hD hS 1 1 rfl rfl (vi_c (by decide +kernel)) dX8_put_29 (fun H locs hP hD hS => ?_)
  have hP : va_P D vwCl [(tp, .inr (8, [.ref bt, .int 17])), (bt, .inl (cy 1, 600, .inl (upd f_5 17 (vp_nar .byte x_9))))] H := hP
  have hD : va_D A [(tp, .inr (8, [.ref bt, .int 17])), (bt, .inl (cy 1, 600, .inl (upd f_5 17 (vp_nar .byte x_9))))] := hD
  generalize upd f_5 17 (vp_nar .byte x_9) = f_10 at hP hD
  have hP : va_P D vwCl [(tp, .inr (8, [.ref bt, .int 17])), (bt, .inl (cy 1, 600, .inl f_10))] H := hP
  have hD : va_D A [(tp, .inr (8, [.ref bt, .int 17])), (bt, .inl (cy 1, 600, .inl f_10))] := hD
  refine lv_aload_n hx hb dX8_put_30 rfl (lv_at hl 1 rfl) ?_
  refine lv_dup hx hb dX8_put_31 rfl ?_
  refine va_get (D := D) (ci := 8) (v := .int 17) (C := RX8) (T := TX8) (N := 2) hx hb hts in_8 hown hK hP 0 rfl rfl 1 (by decide) fl_15 (fun _ h9 => h9) rfl dX8_put_32 ?_
  refine lv_iconst (v := 1) hx hb dX8_put_35 (by decide +kernel) ?_
  refine lv_iadd hx hb dX8_put_36 ?_
  refine tp_i 18 (by decide +kernel) ?_
  refine va_put (D := D) (ci := 8) (v := .int 18) (ty := .int) (C := RX8) (T := TX8) (N := 2) hx hb hts in_8 tyX8 tyX8_ok nmX8 hown hK hP hD hS 0 rfl rfl 1 (by decide) fl_15 (fun _ h9 => h9) rfl (by decide +kernel) rfl rfl (Nat.le_of_ble_eq_true rfl) dX8_put_37 (fun H locs hP hD hS => ?_)
  have hP : va_P D vwCl [(tp, .inr (8, [.ref bt, .int 18])), (bt, .inl (cy 1, 600, .inl f_10))] H := hP
  have hD : va_D A [(tp, .inr (8, [.ref bt, .int 18])), (bt, .inl (cy 1, 600, .inl f_10))] := hD
  refine lv_iinc (v := 8) (lv' := [(2, .int 8), (0, .ref tp), (1, .int p0)]) hx hb dX8_put_40 hl (k := 0) rfl (by decide) (by decide) rfl (fun ls hl => ?_)
  refine lv_goto (tgt := 3) hx hb dX8_put_43 (by decide) ?_
  refine lv_iload_n hx hb dX8_put_3 rfl (lv_at hl 0 rfl) ?_
  refine lv_if_lt (tgt := 46) hx hb dX8_put_4 (by decide) (fun c_11 => absurd c_11 (by decide +kernel)) (fun _ => ?_)
  refine lv_aload_n hx hb dX8_put_7 rfl (lv_at hl 1 rfl) ?_
  refine va_get (D := D) (ci := 8) (v := .int 18) (C := RX8) (T := TX8) (N := 2) hx hb hts in_8 hown hK hP 0 rfl rfl 1 (by decide) fl_15 (fun _ h9 => h9) rfl dX8_put_8 ?_
  refine lv_sipush (v := 600) hx hb dX8_put_11 (by decide +kernel) ?_
  refine lv_icmp_ge (tgt := 40) hx hb dX8_put_14 (by decide) (fun c_12 => absurd c_12 (by decide +kernel)) (fun _ => ?_)
  refine lv_aload_n hx hb dX8_put_17 rfl (lv_at hl 1 rfl) ?_
  refine va_get (D := D) (ci := 8) (v := .ref bt) (C := RX8) (T := TX8) (N := 2) hx hb hts in_8 hown hK hP 0 rfl rfl 0 (by decide) fl_9 (fun _ h9 => h9) rfl dX8_put_18 ?_
  refine lv_aload_n hx hb dX8_put_21 rfl (lv_at hl 1 rfl) ?_
  refine va_get (D := D) (ci := 8) (v := .int 18) (C := RX8) (T := TX8) (N := 2) hx hb hts in_8 hown hK hP 0 rfl rfl 1 (by decide) fl_15 (fun _ h9 => h9) rfl dX8_put_22 ?_
  refine lv_iload_n hx hb dX8_put_25 rfl (lv_at hl 2 rfl) ?_
  refine lv_iload_n hx hb dX8_put_26 rfl (lv_at hl 0 rfl) ?_
  obtain ⟨x_13, ex_13⟩ : ∃ y : Int32, y = (p0.toUInt32 >>> (Int32.toUInt32 8 &&& Int32.toUInt32 31)).toInt32 := ⟨_, rfl⟩
  refine lv_iushr (v := x_13) hx hb dX8_put_27 ex_13.symm ?_
  obtain ⟨x_14, ex_14⟩ : ∃ y : Int32, y = x_13.toInt8.toInt32 := ⟨_, rfl⟩
  refine lv_i2b (v := x_14) hx hb dX8_put_28 ex_14.symm ?_
  refine va_bast hx hb hK hP hD hS 1 1 rfl rfl (vi_c (by decide +kernel)) dX8_put_29 (fun H locs hP hD hS => ?_)
  have hP : va_P D vwCl [(tp, .inr (8, [.ref bt, .int 18])), (bt, .inl (cy 1, 600, .inl (upd f_10 18 (vp_nar .byte x_14))))] H := hP
  have hD : va_D A [(tp, .inr (8, [.ref bt, .int 18])), (bt, .inl (cy 1, 600, .inl (upd f_10 18 (vp_nar .byte x_14))))] := hD
  generalize upd f_10 18 (vp_nar .byte x_14) = f_15 at hP hD
  have hP : va_P D vwCl [(tp, .inr (8, [.ref bt, .int 18])), (bt, .inl (cy 1, 600, .inl f_15))] H := hP
  have hD : va_D A [(tp, .inr (8, [.ref bt, .int 18])), (bt, .inl (cy 1, 600, .inl f_15))] := hD
  refine lv_aload_n hx hb dX8_put_30 rfl (lv_at hl 1 rfl) ?_
  refine lv_dup hx hb dX8_put_31 rfl ?_
  refine va_get (D := D) (ci := 8) (v := .int 18) (C := RX8) (T := TX8) (N := 2) hx hb hts in_8 hown hK hP 0 rfl rfl 1 (by decide) fl_15 (fun _ h9 => h9) rfl dX8_put_32 ?_
  refine lv_iconst (v := 1) hx hb dX8_put_35 (by decide +kernel) ?_
  refine lv_iadd hx hb dX8_put_36 ?_
  refine tp_i 19 (by decide +kernel) ?_
  refine va_put (D := D) (ci := 8) (v := .int 19) (ty := .int) (C := RX8) (T := TX8) (N := 2) hx hb hts in_8 tyX8 tyX8_ok nmX8 hown hK hP hD hS 0 rfl rfl 1 (by decide) fl_15 (fun _ h9 => h9) rfl (by decide +kernel) rfl rfl (Nat.le_of_ble_eq_true rfl) dX8_put_37 (fun H locs hP hD hS => ?_)
  have hP : va_P D vwCl [(tp, .inr (8, [.ref bt, .int 19])), (bt, .inl (cy 1, 600, .inl f_15))] H := hP
  have hD : va_D A [(tp, .inr (8, [.ref bt, .int 19])), (bt, .inl (cy 1, 600, .inl f_15))] := hD
  refine lv_iinc (v := 0) (lv' := [(2, .int 0), (0, .ref tp), (1, .int p0)]) hx hb dX8_put_40 hl (k := 0) rfl (by decide) (by decide) rfl (fun ls hl => ?_)
  refine lv_goto (tgt := 3) hx hb dX8_put_43 (by decide) ?_
  refine lv_iload_n hx hb dX8_put_3 rfl (lv_at hl 0 rfl) ?_
  refine lv_if_lt (tgt := 46) hx hb dX8_put_4 (by decide) (fun c_16 => absurd c_16 (by decide +kernel)) (fun _ => ?_)
  refine lv_aload_n hx hb dX8_put_7 rfl (lv_at hl 1 rfl) ?_
  refine va_get (D := D) (ci := 8) (v := .int 19) (C := RX8) (T := TX8) (N := 2) hx hb hts in_8 hown hK hP 0 rfl rfl 1 (by decide) fl_15 (fun _ h9 => h9) rfl dX8_put_8 ?_
  refine lv_sipush (v := 600) hx hb dX8_put_11 (by decide +kernel) ?_
  refine lv_icmp_ge (tgt := 40) hx hb dX8_put_14 (by decide) (fun c_17 => absurd c_17 (by decide +kernel)) (fun _ => ?_)
  refine lv_aload_n hx hb dX8_put_17 rfl (lv_at hl 1 rfl) ?_
  refine va_get (D := D) (ci := 8) (v := .ref bt) (C := RX8) (T := TX8) (N := 2) hx hb hts in_8 hown hK hP 0 rfl rfl 0 (by decide) fl_9 (fun _ h9 => h9) rfl dX8_put_18 ?_
  refine lv_aload_n hx hb dX8_put_21 rfl (lv_at hl 1 rfl) ?_
  refine va_get (D := D) (ci := 8) (v := .int 19) (C := RX8) (T := TX8) (N := 2) hx hb hts in_8 hown hK hP 0 rfl rfl 1 (by decide) fl_15 (fun _ h9 => h9) rfl dX8_put_22 ?_
  refine lv_iload_n hx hb dX8_put_25 rfl (lv_at hl 2 rfl) ?_
  refine lv_iload_n hx hb dX8_put_26 rfl (lv_at hl 0 rfl) ?_
  obtain ⟨x_18, ex_18⟩ : ∃ y : Int32, y = (p0.toUInt32 >>> (Int32.toUInt32 0 &&& Int32.toUInt32 31)).toInt32 := ⟨_, rfl⟩
  refine lv_iushr (v := x_18) hx hb dX8_put_27 ex_18.symm ?_
  obtain ⟨x_19, ex_19⟩ : ∃ y : Int32, y = x_18.toInt8.toInt32 := ⟨_, rfl⟩
  refine lv_i2b (v := x_19) hx hb dX8_put_28 ex_19.symm ?_
  refine va_bast hx hb hK hP hD hS 1 1 rfl rfl (vi_c (by decide +kernel)) dX8_put_29 (fun H locs hP hD hS => ?_)
  have hP : va_P D vwCl [(tp, .inr (8, [.ref bt, .int 19])), (bt, .inl (cy 1, 600, .inl (upd f_15 19 (vp_nar .byte x_19))))] H := hP
  have hD : va_D A [(tp, .inr (8, [.ref bt, .int 19])), (bt, .inl (cy 1, 600, .inl (upd f_15 19 (vp_nar .byte x_19))))] := hD
  generalize upd f_15 19 (vp_nar .byte x_19) = f_20 at hP hD
  have hP : va_P D vwCl [(tp, .inr (8, [.ref bt, .int 19])), (bt, .inl (cy 1, 600, .inl f_20))] H := hP
  have hD : va_D A [(tp, .inr (8, [.ref bt, .int 19])), (bt, .inl (cy 1, 600, .inl f_20))] := hD
  refine lv_aload_n hx hb dX8_put_30 rfl (lv_at hl 1 rfl) ?_
  refine lv_dup hx hb dX8_put_31 rfl ?_
  refine va_get (D := D) (ci := 8) (v := .int 19) (C := RX8) (T := TX8) (N := 2) hx hb hts in_8 hown hK hP 0 rfl rfl 1 (by decide) fl_15 (fun _ h9 => h9) rfl dX8_put_32 ?_
  refine lv_iconst (v := 1) hx hb dX8_put_35 (by decide +kernel) ?_
  refine lv_iadd hx hb dX8_put_36 ?_
  refine tp_i 20 (by decide +kernel) ?_
  refine va_put (D := D) (ci := 8) (v := .int 20) (ty := .int) (C := RX8) (T := TX8) (N := 2) hx hb hts in_8 tyX8 tyX8_ok nmX8 hown hK hP hD hS 0 rfl rfl 1 (by decide) fl_15 (fun _ h9 => h9) rfl (by decide +kernel) rfl rfl (Nat.le_of_ble_eq_true rfl) dX8_put_37 (fun H locs hP hD hS => ?_)
  have hP : va_P D vwCl [(tp, .inr (8, [.ref bt, .int 20])), (bt, .inl (cy 1, 600, .inl f_20))] H := hP
  have hD : va_D A [(tp, .inr (8, [.ref bt, .int 20])), (bt, .inl (cy 1, 600, .inl f_20))] := hD
  refine lv_iinc (v := (-8)) (lv' := [(2, .int (-8)), (0, .ref tp), (1, .int p0)]) hx hb dX8_put_40 hl (k := 0) rfl (by decide) (by decide) rfl (fun ls hl => ?_)
  refine lv_goto (tgt := 3) hx hb dX8_put_43 (by decide) ?_
  refine lv_iload_n hx hb dX8_put_3 rfl (lv_at hl 0 rfl) ?_
  refine lv_if_lt (tgt := 46) hx hb dX8_put_4 (by decide) (fun _ => ?_) (fun c_21 => absurd (by decide +kernel) c_21)
  have hP9 := hP.sub (ws' := [(tp, .inr (8, [.ref bt, .int 20])), (bt, .inl (cy 1, 600, .inl f_20))]) [0, 1] rfl
  have hD9 := hD.sub (ws' := [(tp, .inr (8, [.ref bt, .int 20])), (bt, .inl (cy 1, 600, .inl f_20))]) [0, 1] (by decide) rfl
  exact W.vret hx hb hr (fun t ht hW => ⟨⟨(), rfl, trivial, f_20, by rw [ht]; exact hP9, hD9⟩, hS.F ht⟩) hS.2.2 dX8_put_46
set_option maxHeartbeats 4000000 in
set_option maxRecDepth 100000 in
theorem c_X11_feed (l : Launch) (D : va_G) (cy : Nat → ClassId) (h0 : Nat) (i0 : Nat) (r0 : Nat) (u0 : Nat) (w0 : Nat) (c0 : Nat) (o0 : Nat) (t0 : Nat) (tp : Nat) (nu : Nat) (se : Nat) (da : Nat) (di : Nat) (bt : Nat) (bf : Nat → Int32) (p0 : Int32) (p1 : Int32) (p2 : Int32) (p3 : Int32) (p4 : Int32) (sz : Nat)  : Met l yX11_feed wsX11_feed ({ frames := 1, cells := 0, slots := 0, locals := 22 } : Room) (va_Pc [.ref h0, .int p0, .int p1, .int p2, .int p3, .int p4] (PW D cy [(h0, .inr (11, [.ref t0, .ref i0, .ref r0, .ref u0, .ref w0, .ref c0, .ref o0])), (t0, .inr (9, [.ref tp, .ref nu, .ref se, .ref da, .ref di, .int 0, .int (-1)])), (tp, .inr (8, [.ref bt, .int 0])), (bt, .inl (cy 1, 600, .inl bf))] sz)) (va_Qi (fun (r : Int32) (_ : Unit) => r = 20) (fun _ t => va_P D vwCl [] t.heap ∧ va_D (va_A [(h0, .inr (11, [.ref t0, .ref i0, .ref r0, .ref u0, .ref w0, .ref c0, .ref o0])), (t0, .inr (9, [.ref tp, .ref nu, .ref se, .ref da, .ref di, .int 0, .int (-1)])), (tp, .inr (8, [.ref bt, .int 0])), (bt, .inl (cy 1, 600, .inl bf))] sz) []) (va_A [(h0, .inr (11, [.ref t0, .ref i0, .ref r0, .ref u0, .ref w0, .ref c0, .ref o0])), (t0, .inr (9, [.ref tp, .ref nu, .ref se, .ref da, .ref di, .int 0, .int (-1)])), (tp, .inr (8, [.ref bt, .int 0])), (bt, .inl (cy 1, 600, .inl bf))] sz)) 0 0 (va_A [(h0, .inr (11, [.ref t0, .ref i0, .ref r0, .ref u0, .ref w0, .ref c0, .ref o0])), (t0, .inr (9, [.ref tp, .ref nu, .ref se, .ref da, .ref di, .int 0, .int (-1)])), (tp, .inr (8, [.ref bt, .int 0])), (bt, .inl (cy 1, 600, .inl bf))] sz) := by
  refine Met.ofW (cc := cX11_feed) (maxL := 7) (ret := (some .int)) (by decide) rfl ?_
  intro p e s m args below meth c s₁ B hml hv
  obtain ⟨rfl, hsz, hP, hKW, hD0⟩ := hv
  have hK := hKW.1
  have hx := B.exec
  have hb := B.bytes
  have hr := B.returns
  have hts := atoms_spec (ws := wsX11_feed) B.pre
  have hown : s.vm.findClass RX11 = some m.cls := findClass_of_methodNamed B.named
  have hlocks := B.notSynchronized
  have in_8 : ∀ w ∈ u_ws RX8 TX8 2, w ∈ wsX11_feed := by decide +kernel
  have in_9 : ∀ w ∈ u_ws RX9 TX9 7, w ∈ wsX11_feed := by decide +kernel
  have in_11 : ∀ w ∈ u_ws RX11 TX11 7, w ∈ wsX11_feed := by decide +kernel
  have fl_10 := hts (.fieldLink RX11 10 "ShoalClaims" "told" "LShoalClaims$Told;") (by decide +kernel)
  have fl_55 := hts (.fieldLink RX11 55 "ShoalClaims$Told" "tape" "LShoalClaims$Tape;") (by decide +kernel)
  have fl_59 := hts (.fieldLink RX11 59 "ShoalClaims$Tape" "length" "I") (by decide +kernel)
  subst hsz
  have hD := hD0.self (sz := s.heap.size)
  generalize hAe : va_A [(h0, .inr (11, [.ref t0, .ref i0, .ref r0, .ref u0, .ref w0, .ref c0, .ref o0])), (t0, .inr (9, [.ref tp, .ref nu, .ref se, .ref da, .ref di, .int 0, .int (-1)])), (tp, .inr (8, [.ref bt, .int 0])), (bt, .inl (cy 1, 600, .inl bf))] s.heap.size = A at hD ⊢
  have hA : ∀ q : Nat, s.heap.size ≤ q → A q := fun q h => by rw [← hAe]; exact Or.inr h
  have hS : va_S A s.heap s.heap [] := va_S.rf
  have hP : va_P D vwCl [(h0, .inr (11, [.ref t0, .ref i0, .ref r0, .ref u0, .ref w0, .ref c0, .ref o0])), (t0, .inr (9, [.ref tp, .ref nu, .ref se, .ref da, .ref di, .int 0, .int (-1)])), (tp, .inr (8, [.ref bt, .int 0])), (bt, .inl (cy 1, 600, .inl bf))] s.heap := hP
  have hl := lv_entry ([.ref h0, .int p0, .int p1, .int p2, .int p3, .int p4]) (n := 7) (Nat.le_of_ble_eq_true rfl)
  rw [lg_entry_eq]
  generalize (lg_sl ([.ref h0, .int p0, .int p1, .int p2, .int p3, .int p4]) ++ List.replicate (7 - (lg_sl ([.ref h0, .int p0, .int p1, .int p2, .int p3, .int p4])).length) Slot.unset).toArray = ls at hl ⊢
  have hl : lv_has ls 7 [(0, .ref h0), (1, .int p0), (2, .int p1), (3, .int p2), (4, .int p3), (5, .int p4)] := hl
  refine lv_aload_n hx hb dX11_feed_0 rfl (lv_at hl 0 rfl) ?_
  refine va_get (D := D) (ci := 11) (v := .ref t0) (C := RX11) (T := TX11) (N := 7) hx hb hts in_11 hown hK hP 0 rfl rfl 0 (by decide) fl_10 (fun _ h9 => h9) rfl dX11_feed_1 ?_
  refine va_get (D := D) (ci := 9) (v := .ref tp) (C := RX9) (T := TX9) (N := 7) hx hb hts in_9 hown hK hP 1 rfl rfl 0 (by decide) fl_55 (fun _ h9 => h9) rfl dX11_feed_4 ?_
  refine lv_astore (lv' := [(6, .ref tp), (0, .ref h0), (1, .int p0), (2, .int p1), (3, .int p2), (4, .int p3), (5, .int p4)]) hx hb dX11_feed_7 hl (by decide) rfl (fun ls hl => ?_)
  refine lv_aload hx hb dX11_feed_9 (lv_at hl 0 rfl) ?_
  refine va_get (D := D) (ci := 8) (v := .int 0) (C := RX8) (T := TX8) (N := 2) hx hb hts in_8 hown hK hP 2 rfl rfl 1 (by decide) fl_59 (fun _ h9 => h9) rfl dX11_feed_11 ?_
  refine lv_bipush (v := 20) hx hb dX11_feed_14 (by decide +kernel) ?_
  refine lv_iadd hx hb dX11_feed_16 ?_
  refine tp_i 20 (by decide +kernel) ?_
  refine lv_sipush (v := 600) hx hb dX11_feed_17 (by decide +kernel) ?_
  refine lv_icmp_le (tgt := 25) hx hb dX11_feed_20 (by decide) (fun _ => ?_) (fun c_1 => absurd (by decide +kernel) c_1)
  refine lv_aload hx hb dX11_feed_25 (lv_at hl 0 rfl) ?_
  refine lv_iload_n hx hb dX11_feed_27 rfl (lv_at hl 2 rfl) ?_
  have hPc_2 := hP.sub (ws' := [(tp, .inr (8, [.ref bt, .int 0])), (bt, .inl (cy 1, 600, .inl bf))]) [2, 3] rfl
  have hDc_3 := hD.sub (ws' := [(tp, .inr (8, [.ref bt, .int 0])), (bt, .inl (cy 1, 600, .inl bf))]) [2, 3] (by decide) rfl
  have hFc_4 := va_free (wc := [(tp, .inr (8, [.ref bt, .int 0])), (bt, .inl (cy 1, 600, .inl bf))]) hD hS hA [2, 3] rfl
  refine va_callv (va_runV (As := [.int p0]) (rest := []) ⟨hx, hb, hml, hown, hts⟩ (c_X8_put_0 l D cy tp bt bf p0 s.heap.size) (cwV 1 hts gX11_feed_X8_put rfl rfl rfl (by decide +kernel) ⟨Nat.le_of_ble_eq_true rfl, Nat.le_of_ble_eq_true rfl⟩) ⟨pwB, va_recv hK hPc_2 (ci := 8) (q0 := 0) rfl rfl, fun U hU hW => ⟨rfl, PW.of hU hW hKW hPc_2 hDc_3⟩⟩ rfl rfl hl.1 rfl (lv_room (Nat.le_of_ble_eq_true rfl)) dX11_feed_28 ⟨by decide +kernel, by decide +kernel⟩) hS (fun q _ h => hFc_4 q h) hFc_4 (fun u t H1 locs ht hvm hw_5 hB hz1 hk1 hS => ?_)
  obtain ⟨f_6, hP1, hD1⟩ := hB
  rw [ht] at hP1
  obtain ⟨hP, hD⟩ := va_join (wr := [(h0, .inr (11, [.ref t0, .ref i0, .ref r0, .ref u0, .ref w0, .ref c0, .ref o0])), (t0, .inr (9, [.ref tp, .ref nu, .ref se, .ref da, .ref di, .int 0, .int (-1)]))]) (w1 := [(tp, .inr (8, [.ref bt, .int 4])), (bt, .inl (cy 1, 600, .inl f_6))]) hP hD [2, 3] [0, 1] rfl rfl (by decide) (by decide) hk1 hFc_4 hP1 hD1
  generalize H1 = H at hP hS ⊢
  have hP : va_P D vwCl [(h0, .inr (11, [.ref t0, .ref i0, .ref r0, .ref u0, .ref w0, .ref c0, .ref o0])), (t0, .inr (9, [.ref tp, .ref nu, .ref se, .ref da, .ref di, .int 0, .int (-1)])), (tp, .inr (8, [.ref bt, .int 4])), (bt, .inl (cy 1, 600, .inl f_6))] H := hP
  have hD : va_D A [(h0, .inr (11, [.ref t0, .ref i0, .ref r0, .ref u0, .ref w0, .ref c0, .ref o0])), (t0, .inr (9, [.ref tp, .ref nu, .ref se, .ref da, .ref di, .int 0, .int (-1)])), (tp, .inr (8, [.ref bt, .int 4])), (bt, .inl (cy 1, 600, .inl f_6))] := hD
  refine lv_aload hx hb dX11_feed_31 (lv_at hl 0 rfl) ?_
  refine lv_iload_n hx hb dX11_feed_33 rfl (lv_at hl 3 rfl) ?_
  have hPc_7 := hP.sub (ws' := [(tp, .inr (8, [.ref bt, .int 4])), (bt, .inl (cy 1, 600, .inl f_6))]) [2, 3] rfl
  have hDc_8 := hD.sub (ws' := [(tp, .inr (8, [.ref bt, .int 4])), (bt, .inl (cy 1, 600, .inl f_6))]) [2, 3] (by decide) rfl
  have hFc_9 := va_free (wc := [(tp, .inr (8, [.ref bt, .int 4])), (bt, .inl (cy 1, 600, .inl f_6))]) hD hS hA [2, 3] rfl
  refine va_callv (va_runV (As := [.int p1]) (rest := []) ⟨hx, hb, hml, hown, hts⟩ (c_X8_put_4 l D cy tp bt f_6 p1 H.size) (cwV 1 hts gX11_feed_X8_put rfl rfl rfl (by decide +kernel) ⟨Nat.le_of_ble_eq_true rfl, Nat.le_of_ble_eq_true rfl⟩) ⟨pwB, va_recv hK hPc_7 (ci := 8) (q0 := 0) rfl rfl, fun U hU hW => ⟨rfl, PW.of hU hW hKW hPc_7 hDc_8⟩⟩ rfl rfl hl.1 rfl (lv_room (Nat.le_of_ble_eq_true rfl)) dX11_feed_34 ⟨by decide +kernel, by decide +kernel⟩) hS (fun q _ h => hFc_9 q h) hFc_9 (fun u t H1 locs ht hvm hw_10 hB hz1 hk1 hS => ?_)
  obtain ⟨f_11, hP1, hD1⟩ := hB
  rw [ht] at hP1
  obtain ⟨hP, hD⟩ := va_join (wr := [(h0, .inr (11, [.ref t0, .ref i0, .ref r0, .ref u0, .ref w0, .ref c0, .ref o0])), (t0, .inr (9, [.ref tp, .ref nu, .ref se, .ref da, .ref di, .int 0, .int (-1)]))]) (w1 := [(tp, .inr (8, [.ref bt, .int 8])), (bt, .inl (cy 1, 600, .inl f_11))]) hP hD [2, 3] [0, 1] rfl rfl (by decide) (by decide) hk1 hFc_9 hP1 hD1
  generalize H1 = H at hP hS ⊢
  have hP : va_P D vwCl [(h0, .inr (11, [.ref t0, .ref i0, .ref r0, .ref u0, .ref w0, .ref c0, .ref o0])), (t0, .inr (9, [.ref tp, .ref nu, .ref se, .ref da, .ref di, .int 0, .int (-1)])), (tp, .inr (8, [.ref bt, .int 8])), (bt, .inl (cy 1, 600, .inl f_11))] H := hP
  have hD : va_D A [(h0, .inr (11, [.ref t0, .ref i0, .ref r0, .ref u0, .ref w0, .ref c0, .ref o0])), (t0, .inr (9, [.ref tp, .ref nu, .ref se, .ref da, .ref di, .int 0, .int (-1)])), (tp, .inr (8, [.ref bt, .int 8])), (bt, .inl (cy 1, 600, .inl f_11))] := hD
  refine lv_aload hx hb dX11_feed_37 (lv_at hl 0 rfl) ?_
  refine lv_iload_n hx hb dX11_feed_39 rfl (lv_at hl 4 rfl) ?_
  have hPc_12 := hP.sub (ws' := [(tp, .inr (8, [.ref bt, .int 8])), (bt, .inl (cy 1, 600, .inl f_11))]) [2, 3] rfl
  have hDc_13 := hD.sub (ws' := [(tp, .inr (8, [.ref bt, .int 8])), (bt, .inl (cy 1, 600, .inl f_11))]) [2, 3] (by decide) rfl
  have hFc_14 := va_free (wc := [(tp, .inr (8, [.ref bt, .int 8])), (bt, .inl (cy 1, 600, .inl f_11))]) hD hS hA [2, 3] rfl
  refine va_callv (va_runV (As := [.int p2]) (rest := []) ⟨hx, hb, hml, hown, hts⟩ (c_X8_put_8 l D cy tp bt f_11 p2 H.size) (cwV 1 hts gX11_feed_X8_put rfl rfl rfl (by decide +kernel) ⟨Nat.le_of_ble_eq_true rfl, Nat.le_of_ble_eq_true rfl⟩) ⟨pwB, va_recv hK hPc_12 (ci := 8) (q0 := 0) rfl rfl, fun U hU hW => ⟨rfl, PW.of hU hW hKW hPc_12 hDc_13⟩⟩ rfl rfl hl.1 rfl (lv_room (Nat.le_of_ble_eq_true rfl)) dX11_feed_40 ⟨by decide +kernel, by decide +kernel⟩) hS (fun q _ h => hFc_14 q h) hFc_14 (fun u t H1 locs ht hvm hw_15 hB hz1 hk1 hS => ?_)
  obtain ⟨f_16, hP1, hD1⟩ := hB
  rw [ht] at hP1
  obtain ⟨hP, hD⟩ := va_join (wr := [(h0, .inr (11, [.ref t0, .ref i0, .ref r0, .ref u0, .ref w0, .ref c0, .ref o0])), (t0, .inr (9, [.ref tp, .ref nu, .ref se, .ref da, .ref di, .int 0, .int (-1)]))]) (w1 := [(tp, .inr (8, [.ref bt, .int 12])), (bt, .inl (cy 1, 600, .inl f_16))]) hP hD [2, 3] [0, 1] rfl rfl (by decide) (by decide) hk1 hFc_14 hP1 hD1
  generalize H1 = H at hP hS ⊢
  have hP : va_P D vwCl [(h0, .inr (11, [.ref t0, .ref i0, .ref r0, .ref u0, .ref w0, .ref c0, .ref o0])), (t0, .inr (9, [.ref tp, .ref nu, .ref se, .ref da, .ref di, .int 0, .int (-1)])), (tp, .inr (8, [.ref bt, .int 12])), (bt, .inl (cy 1, 600, .inl f_16))] H := hP
  have hD : va_D A [(h0, .inr (11, [.ref t0, .ref i0, .ref r0, .ref u0, .ref w0, .ref c0, .ref o0])), (t0, .inr (9, [.ref tp, .ref nu, .ref se, .ref da, .ref di, .int 0, .int (-1)])), (tp, .inr (8, [.ref bt, .int 12])), (bt, .inl (cy 1, 600, .inl f_16))] := hD
  refine lv_aload hx hb dX11_feed_43 (lv_at hl 0 rfl) ?_
  refine lv_iload hx hb dX11_feed_45 (lv_at hl 5 rfl) ?_
  have hPc_17 := hP.sub (ws' := [(tp, .inr (8, [.ref bt, .int 12])), (bt, .inl (cy 1, 600, .inl f_16))]) [2, 3] rfl
  have hDc_18 := hD.sub (ws' := [(tp, .inr (8, [.ref bt, .int 12])), (bt, .inl (cy 1, 600, .inl f_16))]) [2, 3] (by decide) rfl
  have hFc_19 := va_free (wc := [(tp, .inr (8, [.ref bt, .int 12])), (bt, .inl (cy 1, 600, .inl f_16))]) hD hS hA [2, 3] rfl
  refine va_callv (va_runV (As := [.int p3]) (rest := []) ⟨hx, hb, hml, hown, hts⟩ (c_X8_put_12 l D cy tp bt f_16 p3 H.size) (cwV 1 hts gX11_feed_X8_put rfl rfl rfl (by decide +kernel) ⟨Nat.le_of_ble_eq_true rfl, Nat.le_of_ble_eq_true rfl⟩) ⟨pwB, va_recv hK hPc_17 (ci := 8) (q0 := 0) rfl rfl, fun U hU hW => ⟨rfl, PW.of hU hW hKW hPc_17 hDc_18⟩⟩ rfl rfl hl.1 rfl (lv_room (Nat.le_of_ble_eq_true rfl)) dX11_feed_47 ⟨by decide +kernel, by decide +kernel⟩) hS (fun q _ h => hFc_19 q h) hFc_19 (fun u t H1 locs ht hvm hw_20 hB hz1 hk1 hS => ?_)
  obtain ⟨f_21, hP1, hD1⟩ := hB
  rw [ht] at hP1
  obtain ⟨hP, hD⟩ := va_join (wr := [(h0, .inr (11, [.ref t0, .ref i0, .ref r0, .ref u0, .ref w0, .ref c0, .ref o0])), (t0, .inr (9, [.ref tp, .ref nu, .ref se, .ref da, .ref di, .int 0, .int (-1)]))]) (w1 := [(tp, .inr (8, [.ref bt, .int 16])), (bt, .inl (cy 1, 600, .inl f_21))]) hP hD [2, 3] [0, 1] rfl rfl (by decide) (by decide) hk1 hFc_19 hP1 hD1
  generalize H1 = H at hP hS ⊢
  have hP : va_P D vwCl [(h0, .inr (11, [.ref t0, .ref i0, .ref r0, .ref u0, .ref w0, .ref c0, .ref o0])), (t0, .inr (9, [.ref tp, .ref nu, .ref se, .ref da, .ref di, .int 0, .int (-1)])), (tp, .inr (8, [.ref bt, .int 16])), (bt, .inl (cy 1, 600, .inl f_21))] H := hP
  have hD : va_D A [(h0, .inr (11, [.ref t0, .ref i0, .ref r0, .ref u0, .ref w0, .ref c0, .ref o0])), (t0, .inr (9, [.ref tp, .ref nu, .ref se, .ref da, .ref di, .int 0, .int (-1)])), (tp, .inr (8, [.ref bt, .int 16])), (bt, .inl (cy 1, 600, .inl f_21))] := hD
  refine lv_aload hx hb dX11_feed_50 (lv_at hl 0 rfl) ?_
  refine lv_iload hx hb dX11_feed_52 (lv_at hl 6 rfl) ?_
  have hPc_22 := hP.sub (ws' := [(tp, .inr (8, [.ref bt, .int 16])), (bt, .inl (cy 1, 600, .inl f_21))]) [2, 3] rfl
  have hDc_23 := hD.sub (ws' := [(tp, .inr (8, [.ref bt, .int 16])), (bt, .inl (cy 1, 600, .inl f_21))]) [2, 3] (by decide) rfl
  have hFc_24 := va_free (wc := [(tp, .inr (8, [.ref bt, .int 16])), (bt, .inl (cy 1, 600, .inl f_21))]) hD hS hA [2, 3] rfl
  refine va_callv (va_runV (As := [.int p4]) (rest := []) ⟨hx, hb, hml, hown, hts⟩ (c_X8_put_16 l D cy tp bt f_21 p4 H.size) (cwV 1 hts gX11_feed_X8_put rfl rfl rfl (by decide +kernel) ⟨Nat.le_of_ble_eq_true rfl, Nat.le_of_ble_eq_true rfl⟩) ⟨pwB, va_recv hK hPc_22 (ci := 8) (q0 := 0) rfl rfl, fun U hU hW => ⟨rfl, PW.of hU hW hKW hPc_22 hDc_23⟩⟩ rfl rfl hl.1 rfl (lv_room (Nat.le_of_ble_eq_true rfl)) dX11_feed_54 ⟨by decide +kernel, by decide +kernel⟩) hS (fun q _ h => hFc_24 q h) hFc_24 (fun u t H1 locs ht hvm hw_25 hB hz1 hk1 hS => ?_)
  obtain ⟨f_26, hP1, hD1⟩ := hB
  rw [ht] at hP1
  obtain ⟨hP, hD⟩ := va_join (wr := [(h0, .inr (11, [.ref t0, .ref i0, .ref r0, .ref u0, .ref w0, .ref c0, .ref o0])), (t0, .inr (9, [.ref tp, .ref nu, .ref se, .ref da, .ref di, .int 0, .int (-1)]))]) (w1 := [(tp, .inr (8, [.ref bt, .int 20])), (bt, .inl (cy 1, 600, .inl f_26))]) hP hD [2, 3] [0, 1] rfl rfl (by decide) (by decide) hk1 hFc_24 hP1 hD1
  generalize H1 = H at hP hS ⊢
  have hP : va_P D vwCl [(h0, .inr (11, [.ref t0, .ref i0, .ref r0, .ref u0, .ref w0, .ref c0, .ref o0])), (t0, .inr (9, [.ref tp, .ref nu, .ref se, .ref da, .ref di, .int 0, .int (-1)])), (tp, .inr (8, [.ref bt, .int 20])), (bt, .inl (cy 1, 600, .inl f_26))] H := hP
  have hD : va_D A [(h0, .inr (11, [.ref t0, .ref i0, .ref r0, .ref u0, .ref w0, .ref c0, .ref o0])), (t0, .inr (9, [.ref tp, .ref nu, .ref se, .ref da, .ref di, .int 0, .int (-1)])), (tp, .inr (8, [.ref bt, .int 20])), (bt, .inl (cy 1, 600, .inl f_26))] := hD
  refine lv_aload hx hb dX11_feed_57 (lv_at hl 0 rfl) ?_
  refine va_get (D := D) (ci := 8) (v := .int 20) (C := RX8) (T := TX8) (N := 2) hx hb hts in_8 hown hK hP 2 rfl rfl 1 (by decide) fl_59 (fun _ h9 => h9) rfl dX11_feed_59 ?_
  have hP9 := hP.sub (ws' := []) [] rfl
  have hD9 := hD.sub (ws' := []) [] (by decide) rfl
  exact W.iret (v := 20) hx hb hr (fun t ht hW => ⟨⟨20, (), rfl, rfl, by rw [ht]; exact hP9, hD9⟩, hS.F ht⟩) hS.2.2 dX11_feed_62
set_option maxHeartbeats 4000000 in
set_option maxRecDepth 100000 in
theorem c_X11_end (l : Launch) (D : va_G) (cy : Nat → ClassId) (h0 : Nat) (i0 : Nat) (r0 : Nat) (u0 : Nat) (w0 : Nat) (c0 : Nat) (o0 : Nat) (t0 : Nat) (tp : Nat) (nu : Nat) (se : Nat) (da : Nat) (di : Nat) (bt : Nat) (p0 : Int32) (sz : Nat)  : Met l yX11_end wsX11_end ({ frames := 0, cells := 0, slots := 0, locals := 0 } : Room) (va_Pc [.ref h0, .int p0] (PW D cy [(h0, .inr (11, [.ref t0, .ref i0, .ref r0, .ref u0, .ref w0, .ref c0, .ref o0])), (t0, .inr (9, [.ref tp, .ref nu, .ref se, .ref da, .ref di, .int 0, .int (-1)])), (tp, .inr (8, [.ref bt, .int 0]))] sz)) (va_Qi (fun (r : Int32) (_ : Unit) => r = if p0 = 0 then 0 else -1) (fun _ t => va_P D vwCl [] t.heap ∧ va_D (va_A [(h0, .inr (11, [.ref t0, .ref i0, .ref r0, .ref u0, .ref w0, .ref c0, .ref o0])), (t0, .inr (9, [.ref tp, .ref nu, .ref se, .ref da, .ref di, .int 0, .int (-1)])), (tp, .inr (8, [.ref bt, .int 0]))] sz) []) (va_A [(h0, .inr (11, [.ref t0, .ref i0, .ref r0, .ref u0, .ref w0, .ref c0, .ref o0])), (t0, .inr (9, [.ref tp, .ref nu, .ref se, .ref da, .ref di, .int 0, .int (-1)])), (tp, .inr (8, [.ref bt, .int 0]))] sz)) 0 0 (va_A [(h0, .inr (11, [.ref t0, .ref i0, .ref r0, .ref u0, .ref w0, .ref c0, .ref o0])), (t0, .inr (9, [.ref tp, .ref nu, .ref se, .ref da, .ref di, .int 0, .int (-1)])), (tp, .inr (8, [.ref bt, .int 0]))] sz) := by
  refine Met.ofW (cc := cX11_end) (maxL := 2) (ret := (some .int)) (by decide) rfl ?_
  intro p e s m args below meth c s₁ B hml hv
  obtain ⟨rfl, hsz, hP, hKW, hD0⟩ := hv
  have hK := hKW.1
  have hx := B.exec
  have hb := B.bytes
  have hr := B.returns
  have hts := atoms_spec (ws := wsX11_end) B.pre
  have hown : s.vm.findClass RX11 = some m.cls := findClass_of_methodNamed B.named
  have hlocks := B.notSynchronized
  have in_8 : ∀ w ∈ u_ws RX8 TX8 2, w ∈ wsX11_end := by decide +kernel
  have in_9 : ∀ w ∈ u_ws RX9 TX9 7, w ∈ wsX11_end := by decide +kernel
  have in_11 : ∀ w ∈ u_ws RX11 TX11 7, w ∈ wsX11_end := by decide +kernel
  have fl_10 := hts (.fieldLink RX11 10 "ShoalClaims" "told" "LShoalClaims$Told;") (by decide +kernel)
  have fl_55 := hts (.fieldLink RX11 55 "ShoalClaims$Told" "tape" "LShoalClaims$Tape;") (by decide +kernel)
  have fl_59 := hts (.fieldLink RX11 59 "ShoalClaims$Tape" "length" "I") (by decide +kernel)
  subst hsz
  have hD := hD0.self (sz := s.heap.size)
  generalize hAe : va_A [(h0, .inr (11, [.ref t0, .ref i0, .ref r0, .ref u0, .ref w0, .ref c0, .ref o0])), (t0, .inr (9, [.ref tp, .ref nu, .ref se, .ref da, .ref di, .int 0, .int (-1)])), (tp, .inr (8, [.ref bt, .int 0]))] s.heap.size = A at hD ⊢
  have hA : ∀ q : Nat, s.heap.size ≤ q → A q := fun q h => by rw [← hAe]; exact Or.inr h
  have hS : va_S A s.heap s.heap [] := va_S.rf
  have hP : va_P D vwCl [(h0, .inr (11, [.ref t0, .ref i0, .ref r0, .ref u0, .ref w0, .ref c0, .ref o0])), (t0, .inr (9, [.ref tp, .ref nu, .ref se, .ref da, .ref di, .int 0, .int (-1)])), (tp, .inr (8, [.ref bt, .int 0]))] s.heap := hP
  have hl := lv_entry ([.ref h0, .int p0]) (n := 2) (Nat.le_of_ble_eq_true rfl)
  rw [lg_entry_eq]
  generalize (lg_sl ([.ref h0, .int p0]) ++ List.replicate (2 - (lg_sl ([.ref h0, .int p0])).length) Slot.unset).toArray = ls at hl ⊢
  have hl : lv_has ls 2 [(0, .ref h0), (1, .int p0)] := hl
  refine lv_iload_n hx hb dX11_end_0 rfl (lv_at hl 1 rfl) ?_
  refine lv_if_lt (tgt := 18) hx hb dX11_end_1 (by decide) (fun c_1 => ?_) (fun c_1 => ?_)
  · refine lv_iconst (v := (-1)) hx hb dX11_end_18 (by decide +kernel) ?_
    have hP9 := hP.sub (ws' := []) [] rfl
    have hD9 := hD.sub (ws' := []) [] (by decide) rfl
    exact W.iret (v := (-1)) hx hb hr (fun t ht hW => ⟨⟨(-1), (), rfl, (by rw [if_neg (nz_lt c_1)]), by rw [ht]; exact hP9, hD9⟩, hS.F ht⟩) hS.2.2 dX11_end_19
  · refine lv_iload_n hx hb dX11_end_4 rfl (lv_at hl 1 rfl) ?_
    refine lv_aload_n hx hb dX11_end_5 rfl (lv_at hl 0 rfl) ?_
    refine va_get (D := D) (ci := 11) (v := .ref t0) (C := RX11) (T := TX11) (N := 7) hx hb hts in_11 hown hK hP 0 rfl rfl 0 (by decide) fl_10 (fun _ h9 => h9) rfl dX11_end_6 ?_
    refine va_get (D := D) (ci := 9) (v := .ref tp) (C := RX9) (T := TX9) (N := 7) hx hb hts in_9 hown hK hP 1 rfl rfl 0 (by decide) fl_55 (fun _ h9 => h9) rfl dX11_end_9 ?_
    refine va_get (D := D) (ci := 8) (v := .int 0) (C := RX8) (T := TX8) (N := 2) hx hb hts in_8 hown hK hP 2 rfl rfl 1 (by decide) fl_59 (fun _ h9 => h9) rfl dX11_end_12 ?_
    refine lv_icmp_le (tgt := 20) hx hb dX11_end_15 (by decide) (fun c_2 => ?_) (fun c_2 => ?_)
    · refine lv_aload_n hx hb dX11_end_20 rfl (lv_at hl 0 rfl) ?_
      refine va_get (D := D) (ci := 11) (v := .ref t0) (C := RX11) (T := TX11) (N := 7) hx hb hts in_11 hown hK hP 0 rfl rfl 0 (by decide) fl_10 (fun _ h9 => h9) rfl dX11_end_21 ?_
      refine va_get (D := D) (ci := 9) (v := .ref tp) (C := RX9) (T := TX9) (N := 7) hx hb hts in_9 hown hK hP 1 rfl rfl 0 (by decide) fl_55 (fun _ h9 => h9) rfl dX11_end_24 ?_
      refine lv_iload_n hx hb dX11_end_27 rfl (lv_at hl 1 rfl) ?_
      refine va_put (D := D) (ci := 8) (v := .int p0) (ty := .int) (C := RX8) (T := TX8) (N := 2) hx hb hts in_8 tyX8 tyX8_ok nmX8 hown hK hP hD hS 2 rfl rfl 1 (by decide) fl_59 (fun _ h9 => h9) rfl (by decide +kernel) rfl rfl (Nat.le_of_ble_eq_true rfl) dX11_end_28 (fun H locs hP hD hS => ?_)
      have hP : va_P D vwCl [(h0, .inr (11, [.ref t0, .ref i0, .ref r0, .ref u0, .ref w0, .ref c0, .ref o0])), (t0, .inr (9, [.ref tp, .ref nu, .ref se, .ref da, .ref di, .int 0, .int (-1)])), (tp, .inr (8, [.ref bt, .int p0]))] H := hP
      have hD : va_D A [(h0, .inr (11, [.ref t0, .ref i0, .ref r0, .ref u0, .ref w0, .ref c0, .ref o0])), (t0, .inr (9, [.ref tp, .ref nu, .ref se, .ref da, .ref di, .int 0, .int (-1)])), (tp, .inr (8, [.ref bt, .int p0]))] := hD
      refine lv_iload_n hx hb dX11_end_31 rfl (lv_at hl 1 rfl) ?_
      have hP9 := hP.sub (ws' := []) [] rfl
      have hD9 := hD.sub (ws' := []) [] (by decide) rfl
      exact W.iret (v := p0) hx hb hr (fun t ht hW => ⟨⟨p0, (), rfl, (by rw [if_pos (z_of c_1 c_2)]; exact z_of c_1 c_2), by rw [ht]; exact hP9, hD9⟩, hS.F ht⟩) hS.2.2 dX11_end_32
    · refine lv_iconst (v := (-1)) hx hb dX11_end_18 (by decide +kernel) ?_
      have hP9 := hP.sub (ws' := []) [] rfl
      have hD9 := hD.sub (ws' := []) [] (by decide) rfl
      exact W.iret (v := (-1)) hx hb hr (fun t ht hW => ⟨⟨(-1), (), rfl, (by rw [if_neg (nz_gt c_2)]), by rw [ht]; exact hP9, hD9⟩, hS.F ht⟩) hS.2.2 dX11_end_19
