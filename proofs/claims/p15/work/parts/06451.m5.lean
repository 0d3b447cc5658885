section
/-! the class as functions: the tape, count, fault -/
set_option maxRecDepth 100000 in
theorem yq_X8_put : lw_tbl[603]? = some (.code yX8_put cX8_put 3 none) := rfl
theorem yw_X8_put : zMV yX8_put cX8_put 3 none 1 := ⟨⟨zTin 103 (by decide +kernel) rfl, zTin 603 yq_X8_put rfl, ⟨by decide, by decide⟩, by decide +kernel⟩, zTin 601 (by decide +kernel) rfl, zTin 602 (by decide +kernel) rfl⟩
theorem yt_X8_put_3 : decode cX8_put 3 = .ok (.iload_n 2, 1) := by decide +kernel
theorem yt_X8_put_4 : decode cX8_put 4 = .ok (.ifCond .lt 42, 3) := by decide +kernel
theorem yt_X8_put_46 : decode cX8_put 46 = .ok (.return_, 1) := by decide +kernel
theorem yt_X8_put_7 : decode cX8_put 7 = .ok (.aload_n 0, 1) := by decide +kernel
theorem yt_X8_put_8 : decode cX8_put 8 = .ok (.getfield 15, 3) := by decide +kernel
theorem yt_X8_put_11 : decode cX8_put 11 = .ok (.sipush 600, 3) := by decide +kernel
theorem yt_X8_put_14 : decode cX8_put 14 = .ok (.if_icmp .ge 26, 3) := by decide +kernel
theorem yt_X8_put_40 : decode cX8_put 40 = .ok (.iinc 2 (-8), 3) := by decide +kernel
theorem yt_X8_put_43 : decode cX8_put 43 = .ok (.goto (-40), 3) := by decide +kernel
theorem yt_X8_put_17 : decode cX8_put 17 = .ok (.aload_n 0, 1) := by decide +kernel
theorem yt_X8_put_18 : decode cX8_put 18 = .ok (.getfield 9, 3) := by decide +kernel
theorem yt_X8_put_21 : decode cX8_put 21 = .ok (.aload_n 0, 1) := by decide +kernel
theorem yt_X8_put_22 : decode cX8_put 22 = .ok (.getfield 15, 3) := by decide +kernel
theorem yt_X8_put_25 : decode cX8_put 25 = .ok (.iload_n 1, 1) := by decide +kernel
theorem yt_X8_put_26 : decode cX8_put 26 = .ok (.iload_n 2, 1) := by decide +kernel
theorem yt_X8_put_27 : decode cX8_put 27 = .ok (.iushr, 1) := by decide +kernel
theorem yt_X8_put_28 : decode cX8_put 28 = .ok (.i2b, 1) := by decide +kernel
theorem yt_X8_put_29 : decode cX8_put 29 = .ok (.bastore, 1) := by decide +kernel
theorem yt_X8_put_30 : decode cX8_put 30 = .ok (.aload_n 0, 1) := by decide +kernel
theorem yt_X8_put_31 : decode cX8_put 31 = .ok (.dup, 1) := by decide +kernel
theorem yt_X8_put_32 : decode cX8_put 32 = .ok (.getfield 15, 3) := by decide +kernel
theorem yt_X8_put_35 : decode cX8_put 35 = .ok (.iconst 1, 1) := by decide +kernel
theorem yt_X8_put_36 : decode cX8_put 36 = .ok (.iadd, 1) := by decide +kernel
theorem yt_X8_put_37 : decode cX8_put 37 = .ok (.putfield 15, 3) := by decide +kernel
def xq_X8_put_3 (n : Nat) (K : Nat → yK) : yK := xE [(0, 100003), (1, 0), (2, 0)] [] (xLd 2 0 (xLt0 xRv (xLd 0 100003 (xGet 1 1 0 (xCst 0 600 (xLt (xLd 0 100003 (xGetO 1 0 0 1 (xLd 0 100003 (xGet 1 1 0 (xLd 1 0 (xLd 2 0 (xUshr (xI2b (xAst 0 600 (fun _ => (-128)) (fun _ => 127) (xLd 0 100003 (xDup (xGet 1 1 0 (xCst 0 1 (xAdd (xPut 1 1 0 600 (xInc 2 (-8) (xJ [(0, 100003), (1, 0), (2, 0)] [] (K 3)))))))))))))))))) (xInc 2 (-8) (xJ [(0, 100003), (1, 0), (2, 0)] [] (K 3)))))))))
theorem s_X8_put_3 {η : zRn} {D : va_G} {cy : Nat → ClassId} {L : List Nat} {Θ : Nat → Option Nat} {p : Program} {l : Launch} {e : Env} {R : Room} {s : State} {m : MethodId} {args : Array Value} {below : List Frame} {meth : Method} {c : Code} {Q : State → Prop} {Qr : yQt} {n : Nat} {K : Nat → yK} (Z : yCz η zkds D vwCl cy L Θ 3 p l e R s m args below meth c Q cX8_put (tyW cy) RX8 zTW zKP tyW none 0 0 Qr) (hI3 : yGo η zkds D vwCl cy L Θ 3 p l e R s m args below meth c Q 3 (xw Qr 0 (xJ [(0, 100003), (1, 0), (2, 0)] [] (K 3)))) : yGo η zkds D vwCl cy L Θ 3 p l e R s m args below meth c Q 3 (xw Qr 0 (xJ [(0, 100003), (1, 0), (2, 0)] [] (xq_X8_put_3 n K))) := xr_E (yr_mono x_ld (yr_iload_n Z.1 rfl yt_X8_put_3 (yr_mono x_lt0 (yr_lt0 Z.1 yt_X8_put_4 (by decide) (yr_mono x_rv (yr_rv Z rfl yt_X8_put_46)) (yr_mono x_ld (yr_aload_n Z.1 rfl (by decide) yt_X8_put_7 (yr_mono x_get (yr_get (lo := 0) (hi := 600) Z.1 yf_RX8_15 (by decide +kernel) yt_X8_put_8 (yr_mono x_cst (yr_sipush Z.1 yt_X8_put_11 (by decide) (yr_mono x_lt (yr_ge Z.1 yt_X8_put_14 (by decide) (yr_mono x_inc (yr_inc Z.1 (by decide) (by decide) yt_X8_put_40 (yr_goto Z.1 yt_X8_put_43 (by decide) hI3))) (yr_mono x_ld (yr_aload_n Z.1 rfl (by decide) yt_X8_put_17 (yr_mono x_geto (yr_getP (lo := 0) (hi := 2147483647) Z.1 yf_RX8_9 (by decide +kernel) yt_X8_put_18 (yr_mono x_ld (yr_aload_n Z.1 rfl (by decide) yt_X8_put_21 (yr_mono x_get (yr_get (lo := 0) (hi := 600) Z.1 yf_RX8_15 (by decide +kernel) yt_X8_put_22 (yr_mono x_ld (yr_iload_n Z.1 rfl yt_X8_put_25 (yr_mono x_ld (yr_iload_n Z.1 rfl yt_X8_put_26 (yr_mono x_ushr (yr_ushr Z.1 yt_X8_put_27 (yr_mono x_i2b (yr_i2b Z.1 yt_X8_put_28 (yr_mono x_ast (yr_bast (lo := (-128)) (hi := 127) Z.1 (by decide +kernel) yt_X8_put_29 (yr_mono x_ld (yr_aload_n Z.1 rfl (by decide) yt_X8_put_30 (yr_mono x_dup (yr_dup Z.1 yt_X8_put_31 (yr_mono x_get (yr_get (lo := 0) (hi := 600) Z.1 yf_RX8_15 (by decide +kernel) yt_X8_put_32 (yr_mono x_cst (yr_iconst Z.1 yt_X8_put_35 (by decide) (yr_mono x_add (yr_add Z.1 yt_X8_put_36 (yr_mono x_put (yr_put Z.1 yf_RX8_15 (by decide +kernel) (by decide) yt_X8_put_37 (yr_mono x_inc (yr_inc Z.1 (by decide) (by decide) yt_X8_put_40 (yr_goto Z.1 yt_X8_put_43 (by decide) hI3)))))))))))))))))))))))))))))))))))))))))))))
def xl_X8_put : Nat → Nat → yK
  | 0, _ => fun _ _ => none
  | n + 1, pc => (cond (Nat.beq pc 3) (xq_X8_put_3 n (xl_X8_put n)) (fun _ _ => none))
theorem l_X8_put {η : zRn} {D : va_G} {cy : Nat → ClassId} {L : List Nat} {Θ : Nat → Option Nat} {p : Program} {l : Launch} {e : Env} {R : Room} {s : State} {m : MethodId} {args : Array Value} {below : List Frame} {meth : Method} {c : Code} {Q : State → Prop} {Qr : yQt} (Z : yCz η zkds D vwCl cy L Θ 3 p l e R s m args below meth c Q cX8_put (tyW cy) RX8 zTW zKP tyW none 0 0 Qr) : ∀ n, yGo η zkds D vwCl cy L Θ 3 p l e R s m args below meth c Q 3 (xw Qr 0 (xJ [(0, 100003), (1, 0), (2, 0)] [] (xl_X8_put n 3))) := fun n => by
  induction n with
  | zero => exact xr_J0
  | succ n ih => exact s_X8_put_3 (n := n) (K := xl_X8_put n) Z ih
theorem yt_X8_put_0 : decode cX8_put 0 = .ok (.bipush 24, 2) := by decide +kernel
theorem yt_X8_put_2 : decode cX8_put 2 = .ok (.istore_n 2, 1) := by decide +kernel
def xp_X8_put (n : Nat) (K : Nat → yK) : yX := (xCst 0 24 (xSt 2 0 (xJ [(0, 100003), (1, 0), (2, 0)] [] (K 3))))
theorem s_X8_put {η : zRn} {D : va_G} {cy : Nat → ClassId} {L : List Nat} {Θ : Nat → Option Nat} {p : Program} {l : Launch} {e : Env} {R : Room} {s : State} {m : MethodId} {args : Array Value} {below : List Frame} {meth : Method} {c : Code} {Q : State → Prop} {Qr : yQt} {n : Nat} {K : Nat → yK} (Z : yCz η zkds D vwCl cy L Θ 3 p l e R s m args below meth c Q cX8_put (tyW cy) RX8 zTW zKP tyW none 0 0 Qr) (hI3 : yGo η zkds D vwCl cy L Θ 3 p l e R s m args below meth c Q 3 (xw Qr 0 (xJ [(0, 100003), (1, 0), (2, 0)] [] (K 3)))) : yGo η zkds D vwCl cy L Θ 3 p l e R s m args below meth c Q 0 (xw Qr 0 (xp_X8_put n K)) := (yr_mono x_cst (yr_bipush Z.1 yt_X8_put_0 (by decide) (yr_mono x_st (yr_istore_n Z.1 rfl (by decide) yt_X8_put_2 hI3))))
def f_X8_put : yFn := fun n ys h => (fun n => xp_X8_put n (xl_X8_put n)) n (yar 0 ([100003, 0].zip ys)) [] h
theorem m_X8_put (l : Launch) : yMet zkds vwCl zTW zKP l (yX8_put, cX8_put, 3, none) 0 0 [100003, 0] (yF 0 f_X8_put) := y_metF zkp_ok zTW_good (yX8_put, cX8_put, 3, none) 0 0 [100003, 0] 0 (fun n => xp_X8_put n (xl_X8_put n)) (by decide +kernel) (by decide) (fun η D cy L Θ p e R s m args below meth c Q Qr n Z => s_X8_put (n := n) (K := xl_X8_put n) Z (l_X8_put Z n))
set_option maxRecDepth 100000 in
theorem e_X8_put_3 {n : Nat} {x1 x2 : Int} {h : yH} : xl_X8_put (n + 1) 3 [4, x1, x2] h = if x2 < 0 then (some (0, h)) else (if (h 4 1) < 600 then (xg (h 4 0 = 5) (xg (0 ≤ (h 4 1) ∧ (h 4 1) < 600) (xg ((-128) ≤ (yi2b (yushr x1 x2)) ∧ (yi2b (yushr x1 x2)) ≤ 127) (xg (-2147483648 ≤ (h 4 1) + 1 ∧ (h 4 1) + 1 ≤ 2147483647) (xg (0 ≤ ((h 4 1) + 1) ∧ ((h 4 1) + 1) ≤ 600) (xg (-2147483648 ≤ x2 + (-8) ∧ x2 + (-8) ≤ 2147483647) (xl_X8_put n 3 [4, x1, (x2 + (-8))] (zup (zup h 5 (h 4 1).toNat (yi2b (yushr x1 x2))) 4 1 ((h 4 1) + 1))))))))) else (xg (-2147483648 ≤ x2 + (-8) ∧ x2 + (-8) ≤ 2147483647) (xl_X8_put n 3 [4, x1, (x2 + (-8))] h))) := by rfl
set_option maxRecDepth 100000 in
theorem e_X8_put {n : Nat} {x1 : Int} {h : yH} : f_X8_put n [4, x1] h = xl_X8_put n 3 [4, x1, 24] h := by rfl
set_option maxRecDepth 100000 in
theorem yq_X11_feed : lw_tbl[599]? = some (.code yX11_feed cX11_feed 7 (some .int)) := rfl
theorem yw_X11_feed : zMV yX11_feed cX11_feed 7 (some .int) 5 := ⟨⟨zTin 101 (by decide +kernel) rfl, zTin 599 yq_X11_feed rfl, ⟨by decide, by decide⟩, by decide +kernel⟩, zTin 597 (by decide +kernel) rfl, zTin 598 (by decide +kernel) rfl⟩
theorem yt_X11_feed_0 : decode cX11_feed 0 = .ok (.aload_n 0, 1) := by decide +kernel
theorem yt_X11_feed_1 : decode cX11_feed 1 = .ok (.getfield 10, 3) := by decide +kernel
theorem yt_X11_feed_4 : decode cX11_feed 4 = .ok (.getfield 55, 3) := by decide +kernel
theorem yt_X11_feed_7 : decode cX11_feed 7 = .ok (.astore 6, 2) := by decide +kernel
theorem yt_X11_feed_9 : decode cX11_feed 9 = .ok (.aload 6, 2) := by decide +kernel
theorem yt_X11_feed_11 : decode cX11_feed 11 = .ok (.getfield 59, 3) := by decide +kernel
theorem yf_RX11_59 : zFok RX11 zTW vwCl (59, 8, 1, (some .int)) := ⟨RX8, TX8, 2, rfl, zx_8, by decide, zTin 144 (by decide +kernel) rfl, fun ty h => ⟨rfl, tyX8, tyX8_ok, nmX8, by cases h; rfl⟩⟩
theorem yt_X11_feed_14 : decode cX11_feed 14 = .ok (.bipush 20, 2) := by decide +kernel
theorem yt_X11_feed_16 : decode cX11_feed 16 = .ok (.iadd, 1) := by decide +kernel
theorem yt_X11_feed_17 : decode cX11_feed 17 = .ok (.sipush 600, 3) := by decide +kernel
theorem yt_X11_feed_20 : decode cX11_feed 20 = .ok (.if_icmp .le 5, 3) := by decide +kernel
theorem yt_X11_feed_25 : decode cX11_feed 25 = .ok (.aload 6, 2) := by decide +kernel
theorem yt_X11_feed_27 : decode cX11_feed 27 = .ok (.iload_n 1, 1) := by decide +kernel
theorem yt_X11_feed_28 : decode cX11_feed 28 = .ok (.invokevirtual 65, 3) := by decide +kernel
theorem yl_RX11_65 : Cond.methodLink RX11 65 yX8_put ∈ zTW := zTin 600 (by decide +kernel) rfl
theorem yt_X11_feed_31 : decode cX11_feed 31 = .ok (.aload 6, 2) := by decide +kernel
theorem yt_X11_feed_33 : decode cX11_feed 33 = .ok (.iload_n 2, 1) := by decide +kernel
theorem yt_X11_feed_34 : decode cX11_feed 34 = .ok (.invokevirtual 65, 3) := by decide +kernel
theorem yt_X11_feed_37 : decode cX11_feed 37 = .ok (.aload 6, 2) := by decide +kernel
theorem yt_X11_feed_39 : decode cX11_feed 39 = .ok (.iload_n 3, 1) := by decide +kernel
theorem yt_X11_feed_40 : decode cX11_feed 40 = .ok (.invokevirtual 65, 3) := by decide +kernel
theorem yt_X11_feed_43 : decode cX11_feed 43 = .ok (.aload 6, 2) := by decide +kernel
theorem yt_X11_feed_45 : decode cX11_feed 45 = .ok (.iload 4, 2) := by decide +kernel
theorem yt_X11_feed_47 : decode cX11_feed 47 = .ok (.invokevirtual 65, 3) := by decide +kernel
theorem yt_X11_feed_50 : decode cX11_feed 50 = .ok (.aload 6, 2) := by decide +kernel
theorem yt_X11_feed_52 : decode cX11_feed 52 = .ok (.iload 5, 2) := by decide +kernel
theorem yt_X11_feed_54 : decode cX11_feed 54 = .ok (.invokevirtual 65, 3) := by decide +kernel
theorem yt_X11_feed_57 : decode cX11_feed 57 = .ok (.aload 6, 2) := by decide +kernel
theorem yt_X11_feed_59 : decode cX11_feed 59 = .ok (.getfield 59, 3) := by decide +kernel
theorem yt_X11_feed_62 : decode cX11_feed 62 = .ok (.ireturn, 1) := by decide +kernel
theorem yt_X11_feed_23 : decode cX11_feed 23 = .ok (.iconst (-1), 1) := by decide +kernel
theorem yt_X11_feed_24 : decode cX11_feed 24 = .ok (.ireturn, 1) := by decide +kernel
def xp_X11_feed (n : Nat) : yX := (xLd 0 100065 (xGetO 63 0 28 2 (xGetO 28 0 1 1 (xSt 6 100003 (xLd 6 100003 (xGet 1 1 0 (xCst 0 20 (xAdd (xCst 0 600 (xGt (xCst 0 (-1) xRi) (xLd 6 100003 (xLd 1 0 (xCalV 2 [100003, 0] (f_X8_put n) (xLd 6 100003 (xLd 2 0 (xCalV 2 [100003, 0] (f_X8_put n) (xLd 6 100003 (xLd 3 0 (xCalV 2 [100003, 0] (f_X8_put n) (xLd 6 100003 (xLd 4 0 (xCalV 2 [100003, 0] (f_X8_put n) (xLd 6 100003 (xLd 5 0 (xCalV 2 [100003, 0] (f_X8_put n) (xLd 6 100003 (xGet 1 1 0 xRi)))))))))))))))))))))))))))
theorem s_X11_feed {η : zRn} {D : va_G} {cy : Nat → ClassId} {L : List Nat} {Θ : Nat → Option Nat} {p : Program} {l : Launch} {e : Env} {R : Room} {s : State} {m : MethodId} {args : Array Value} {below : List Frame} {meth : Method} {c : Code} {Q : State → Prop} {Qr : yQt} {n : Nat} (Z : yCz η zkds D vwCl cy L Θ 7 p l e R s m args below meth c Q cX11_feed (tyW cy) RX11 zTW zKP tyW (some .int) 1 22 Qr) : yGo η zkds D vwCl cy L Θ 7 p l e R s m args below meth c Q 0 (xw Qr 0 (xp_X11_feed n)) := (yr_mono x_ld (yr_aload_n Z.1 rfl (by decide) yt_X11_feed_0 (yr_mono x_geto (yr_getP (lo := 0) (hi := 2147483647) Z.1 yf_RX11_10 (by decide +kernel) yt_X11_feed_1 (yr_mono x_geto (yr_getP (lo := 0) (hi := 2147483647) Z.1 yf_RX11_55 (by decide +kernel) yt_X11_feed_4 (yr_mono x_st (yr_astore Z.1 (by decide) (by decide) yt_X11_feed_7 (yr_mono x_ld (yr_aload Z.1 (by decide) yt_X11_feed_9 (yr_mono x_get (yr_get (lo := 0) (hi := 600) Z.1 yf_RX11_59 (by decide +kernel) yt_X11_feed_11 (yr_mono x_cst (yr_bipush Z.1 yt_X11_feed_14 (by decide) (yr_mono x_add (yr_add Z.1 yt_X11_feed_16 (yr_mono x_cst (yr_sipush Z.1 yt_X11_feed_17 (by decide) (yr_mono x_gt (yr_le Z.1 yt_X11_feed_20 (by decide) (yr_mono x_ld (yr_aload Z.1 (by decide) yt_X11_feed_25 (yr_mono x_ld (yr_iload_n Z.1 rfl yt_X11_feed_27 (yr_mono x_calV (yr_calV rfl (y_hrunV Z (y := (yX8_put, cX8_put, 3, none)) (m_X8_put l) (ycv_of yw_X8_put 65 yt_X11_feed_28 yl_RX11_65 rfl (by decide) (by decide) ⟨1, _, _, _, _, rfl, zkd_1, rfl, rfl⟩)) (yr_mono x_ld (yr_aload Z.1 (by decide) yt_X11_feed_31 (yr_mono x_ld (yr_iload_n Z.1 rfl yt_X11_feed_33 (yr_mono x_calV (yr_calV rfl (y_hrunV Z (y := (yX8_put, cX8_put, 3, none)) (m_X8_put l) (ycv_of yw_X8_put 65 yt_X11_feed_34 yl_RX11_65 rfl (by decide) (by decide) ⟨1, _, _, _, _, rfl, zkd_1, rfl, rfl⟩)) (yr_mono x_ld (yr_aload Z.1 (by decide) yt_X11_feed_37 (yr_mono x_ld (yr_iload_n Z.1 rfl yt_X11_feed_39 (yr_mono x_calV (yr_calV rfl (y_hrunV Z (y := (yX8_put, cX8_put, 3, none)) (m_X8_put l) (ycv_of yw_X8_put 65 yt_X11_feed_40 yl_RX11_65 rfl (by decide) (by decide) ⟨1, _, _, _, _, rfl, zkd_1, rfl, rfl⟩)) (yr_mono x_ld (yr_aload Z.1 (by decide) yt_X11_feed_43 (yr_mono x_ld (yr_iload Z.1 yt_X11_feed_45 (yr_mono x_calV (yr_calV rfl (y_hrunV Z (y := (yX8_put, cX8_put, 3, none)) (m_X8_put l) (ycv_of yw_X8_put 65 yt_X11_feed_47 yl_RX11_65 rfl (by decide) (by decide) ⟨1, _, _, _, _, rfl, zkd_1, rfl, rfl⟩)) (yr_mono x_ld (yr_aload Z.1 (by decide) yt_X11_feed_50 (yr_mono x_ld (yr_iload Z.1 yt_X11_feed_52 (yr_mono x_calV (yr_calV rfl (y_hrunV Z (y := (yX8_put, cX8_put, 3, none)) (m_X8_put l) (ycv_of yw_X8_put 65 yt_X11_feed_54 yl_RX11_65 rfl (by decide) (by decide) ⟨1, _, _, _, _, rfl, zkd_1, rfl, rfl⟩)) (yr_mono x_ld (yr_aload Z.1 (by decide) yt_X11_feed_57 (yr_mono x_get (yr_get (lo := 0) (hi := 600) Z.1 yf_RX11_59 (by decide +kernel) yt_X11_feed_59 (yr_mono x_ri (yr_ri Z rfl yt_X11_feed_62)))))))))))))))))))))))))))))))))))) (yr_mono x_cst (yr_iconst Z.1 yt_X11_feed_23 (by decide) (yr_mono x_ri (yr_ri Z rfl yt_X11_feed_24))))))))))))))))))))))))
def f_X11_feed : yFn := fun n ys h => (fun n => xp_X11_feed n) n (yar 0 ([100065, 0, 0, 0, 0, 0].zip ys)) [] h
theorem m_X11_feed (l : Launch) : yMet zkds vwCl zTW zKP l (yX11_feed, cX11_feed, 7, (some .int)) 1 22 [100065, 0, 0, 0, 0, 0] (yF 0 f_X11_feed) := y_metF zkp_ok zTW_good (yX11_feed, cX11_feed, 7, (some .int)) 1 22 [100065, 0, 0, 0, 0, 0] 0 (fun n => xp_X11_feed n) (by decide +kernel) (by decide) (fun η D cy L Θ p e R s m args below meth c Q Qr n Z => s_X11_feed (n := n) Z)
set_option maxRecDepth 100000 in
theorem e_X11_feed {n : Nat} {x1 x2 x3 x4 x5 : Int} {h : yH} : f_X11_feed n [1, x1, x2, x3, x4, x5] h = xg (h 1 0 = 3) (xg (h 3 0 = 4) (xg (-2147483648 ≤ (h 4 1) + 20 ∧ (h 4 1) + 20 ≤ 2147483647) (if 600 < ((h 4 1) + 20) then (some ((-1), h)) else (xb (f_X8_put n [4, x1] h) (fun _ h1 => xb (f_X8_put n [4, x2] h1) (fun _ h2 => xb (f_X8_put n [4, x3] h2) (fun _ h3 => xb (f_X8_put n [4, x4] h3) (fun _ h4 => xb (f_X8_put n [4, x5] h4) (fun _ h5 => some ((h5 4 1), h5)))))))))) := by rfl
set_option maxRecDepth 100000 in
theorem yq_X11_end : lw_tbl[607]? = some (.code yX11_end cX11_end 2 (some .int)) := rfl
theorem yw_X11_end : zMV yX11_end cX11_end 2 (some .int) 1 := ⟨⟨zTin 101 (by decide +kernel) rfl, zTin 607 yq_X11_end rfl, ⟨by decide, by decide⟩, by decide +kernel⟩, zTin 605 (by decide +kernel) rfl, zTin 606 (by decide +kernel) rfl⟩
theorem yt_X11_end_0 : decode cX11_end 0 = .ok (.iload_n 1, 1) := by decide +kernel
theorem yt_X11_end_1 : decode cX11_end 1 = .ok (.ifCond .lt 17, 3) := by decide +kernel
theorem yt_X11_end_18 : decode cX11_end 18 = .ok (.iconst (-1), 1) := by decide +kernel
theorem yt_X11_end_19 : decode cX11_end 19 = .ok (.ireturn, 1) := by decide +kernel
theorem yt_X11_end_4 : decode cX11_end 4 = .ok (.iload_n 1, 1) := by decide +kernel
theorem yt_X11_end_5 : decode cX11_end 5 = .ok (.aload_n 0, 1) := by decide +kernel
theorem yt_X11_end_6 : decode cX11_end 6 = .ok (.getfield 10, 3) := by decide +kernel
theorem yt_X11_end_9 : decode cX11_end 9 = .ok (.getfield 55, 3) := by decide +kernel
theorem yt_X11_end_12 : decode cX11_end 12 = .ok (.getfield 59, 3) := by decide +kernel
theorem yt_X11_end_15 : decode cX11_end 15 = .ok (.if_icmp .le 5, 3) := by decide +kernel
theorem yt_X11_end_20 : decode cX11_end 20 = .ok (.aload_n 0, 1) := by decide +kernel
theorem yt_X11_end_21 : decode cX11_end 21 = .ok (.getfield 10, 3) := by decide +kernel
theorem yt_X11_end_24 : decode cX11_end 24 = .ok (.getfield 55, 3) := by decide +kernel
theorem yt_X11_end_27 : decode cX11_end 27 = .ok (.iload_n 1, 1) := by decide +kernel
theorem yt_X11_end_28 : decode cX11_end 28 = .ok (.putfield 59, 3) := by decide +kernel
theorem yt_X11_end_31 : decode cX11_end 31 = .ok (.iload_n 1, 1) := by decide +kernel
theorem yt_X11_end_32 : decode cX11_end 32 = .ok (.ireturn, 1) := by decide +kernel
def xp_X11_end (n : Nat) : yX := (xLd 1 0 (xLt0 (xCst 0 (-1) xRi) (xLd 1 0 (xLd 0 100065 (xGetO 63 0 28 2 (xGetO 28 0 1 1 (xGet 1 1 0 (xGt (xCst 0 (-1) xRi) (xLd 0 100065 (xGetO 63 0 28 2 (xGetO 28 0 1 1 (xLd 1 0 (xPut 1 1 0 600 (xLd 1 0 xRi))))))))))))))
theorem s_X11_end {η : zRn} {D : va_G} {cy : Nat → ClassId} {L : List Nat} {Θ : Nat → Option Nat} {p : Program} {l : Launch} {e : Env} {R : Room} {s : State} {m : MethodId} {args : Array Value} {below : List Frame} {meth : Method} {c : Code} {Q : State → Prop} {Qr : yQt} {n : Nat} (Z : yCz η zkds D vwCl cy L Θ 2 p l e R s m args below meth c Q cX11_end (tyW cy) RX11 zTW zKP tyW (some .int) 0 0 Qr) : yGo η zkds D vwCl cy L Θ 2 p l e R s m args below meth c Q 0 (xw Qr 0 (xp_X11_end n)) := (yr_mono x_ld (yr_iload_n Z.1 rfl yt_X11_end_0 (yr_mono x_lt0 (yr_lt0 Z.1 yt_X11_end_1 (by decide) (yr_mono x_cst (yr_iconst Z.1 yt_X11_end_18 (by decide) (yr_mono x_ri (yr_ri Z rfl yt_X11_end_19)))) (yr_mono x_ld (yr_iload_n Z.1 rfl yt_X11_end_4 (yr_mono x_ld (yr_aload_n Z.1 rfl (by decide) yt_X11_end_5 (yr_mono x_geto (yr_getP (lo := 0) (hi := 2147483647) Z.1 yf_RX11_10 (by decide +kernel) yt_X11_end_6 (yr_mono x_geto (yr_getP (lo := 0) (hi := 2147483647) Z.1 yf_RX11_55 (by decide +kernel) yt_X11_end_9 (yr_mono x_get (yr_get (lo := 0) (hi := 600) Z.1 yf_RX11_59 (by decide +kernel) yt_X11_end_12 (yr_mono x_gt (yr_le Z.1 yt_X11_end_15 (by decide) (yr_mono x_ld (yr_aload_n Z.1 rfl (by decide) yt_X11_end_20 (yr_mono x_geto (yr_getP (lo := 0) (hi := 2147483647) Z.1 yf_RX11_10 (by decide +kernel) yt_X11_end_21 (yr_mono x_geto (yr_getP (lo := 0) (hi := 2147483647) Z.1 yf_RX11_55 (by decide +kernel) yt_X11_end_24 (yr_mono x_ld (yr_iload_n Z.1 rfl yt_X11_end_27 (yr_mono x_put (yr_put Z.1 yf_RX11_59 (by decide +kernel) (by decide) yt_X11_end_28 (yr_mono x_ld (yr_iload_n Z.1 rfl yt_X11_end_31 (yr_mono x_ri (yr_ri Z rfl yt_X11_end_32)))))))))))))) (yr_mono x_cst (yr_iconst Z.1 yt_X11_end_18 (by decide) (yr_mono x_ri (yr_ri Z rfl yt_X11_end_19))))))))))))))))))))
def f_X11_end : yFn := fun n ys h => (fun n => xp_X11_end n) n (yar 0 ([100065, 0].zip ys)) [] h
theorem m_X11_end (l : Launch) : yMet zkds vwCl zTW zKP l (yX11_end, cX11_end, 2, (some .int)) 0 0 [100065, 0] (yF 0 f_X11_end) := y_metF zkp_ok zTW_good (yX11_end, cX11_end, 2, (some .int)) 0 0 [100065, 0] 0 (fun n => xp_X11_end n) (by decide +kernel) (by decide) (fun η D cy L Θ p e R s m args below meth c Q Qr n Z => s_X11_end (n := n) Z)
set_option maxRecDepth 100000 in
theorem e_X11_end {n : Nat} {x1 : Int} {h : yH} : f_X11_end n [1, x1] h = if x1 < 0 then (some ((-1), h)) else (xg (h 1 0 = 3) (xg (h 3 0 = 4) (if (h 4 1) < x1 then (some ((-1), h)) else (xg (h 1 0 = 3) (xg (h 3 0 = 4) (xg (0 ≤ x1 ∧ x1 ≤ 600) (some (x1, zup h 4 1 x1)))))))) := by rfl
set_option maxRecDepth 100000 in
theorem yq_X11_count : lw_tbl[1274]? = some (.code yX11_count cX11_count 2 (some .int)) := rfl
theorem yw_X11_count : zMV yX11_count cX11_count 2 (some .int) 1 := ⟨⟨zTin 101 (by decide +kernel) rfl, zTin 1274 yq_X11_count rfl, ⟨by decide, by decide⟩, by decide +kernel⟩, zTin 1272 (by decide +kernel) rfl, zTin 1273 (by decide +kernel) rfl⟩
theorem yt_X11_count_0 : decode cX11_count 0 = .ok (.iload_n 1, 1) := by decide +kernel
theorem yt_X11_count_1 : decode cX11_count 1 = .ok (.ifCond .lt 8, 3) := by decide +kernel
theorem yt_X11_count_9 : decode cX11_count 9 = .ok (.bipush (-2), 2) := by decide +kernel
theorem yt_X11_count_11 : decode cX11_count 11 = .ok (.goto 12, 3) := by decide +kernel
theorem yt_X11_count_23 : decode cX11_count 23 = .ok (.ireturn, 1) := by decide +kernel
theorem yt_X11_count_4 : decode cX11_count 4 = .ok (.iload_n 1, 1) := by decide +kernel
theorem yt_X11_count_5 : decode cX11_count 5 = .ok (.iconst 3, 1) := by decide +kernel
theorem yt_X11_count_6 : decode cX11_count 6 = .ok (.if_icmp .lt 8, 3) := by decide +kernel
theorem yt_X11_count_14 : decode cX11_count 14 = .ok (.aload_n 0, 1) := by decide +kernel
theorem yt_X11_count_15 : decode cX11_count 15 = .ok (.getfield 10, 3) := by decide +kernel
theorem yt_X11_count_18 : decode cX11_count 18 = .ok (.getfield 379, 3) := by decide +kernel
theorem yf_RX11_379 : zFok RX11 zTW vwCl (379, 9, 1, none) := ⟨RX9, TX9, 7, rfl, zx_9, by decide, zTin 312 (by decide +kernel) rfl, fun _ h => by cases h⟩
theorem yt_X11_count_21 : decode cX11_count 21 = .ok (.iload_n 1, 1) := by decide +kernel
theorem yt_X11_count_22 : decode cX11_count 22 = .ok (.iaload, 1) := by decide +kernel
def xp_X11_count (n : Nat) : yX := (xLd 1 0 (xLt0 (xCst 0 (-2) xRi) (xLd 1 0 (xCst 0 3 (xLt (xLd 0 100065 (xGetO 63 0 28 2 (xGetO 28 1 24 3 (xLd 1 0 (xAld 24 3 xRi))))) (xCst 0 (-2) xRi))))))
theorem s_X11_count {η : zRn} {D : va_G} {cy : Nat → ClassId} {L : List Nat} {Θ : Nat → Option Nat} {p : Program} {l : Launch} {e : Env} {R : Room} {s : State} {m : MethodId} {args : Array Value} {below : List Frame} {meth : Method} {c : Code} {Q : State → Prop} {Qr : yQt} {n : Nat} (Z : yCz η zkds D vwCl cy L Θ 2 p l e R s m args below meth c Q cX11_count (tyW cy) RX11 zTW zKP tyW (some .int) 0 0 Qr) : yGo η zkds D vwCl cy L Θ 2 p l e R s m args below meth c Q 0 (xw Qr 0 (xp_X11_count n)) := (yr_mono x_ld (yr_iload_n Z.1 rfl yt_X11_count_0 (yr_mono x_lt0 (yr_lt0 Z.1 yt_X11_count_1 (by decide) (yr_mono x_cst (yr_bipush Z.1 yt_X11_count_9 (by decide) (yr_goto Z.1 yt_X11_count_11 (by decide) (yr_mono x_ri (yr_ri Z rfl yt_X11_count_23))))) (yr_mono x_ld (yr_iload_n Z.1 rfl yt_X11_count_4 (yr_mono x_cst (yr_iconst Z.1 yt_X11_count_5 (by decide) (yr_mono x_lt (yr_lt Z.1 yt_X11_count_6 (by decide) (yr_mono x_ld (yr_aload_n Z.1 rfl (by decide) yt_X11_count_14 (yr_mono x_geto (yr_getP (lo := 0) (hi := 2147483647) Z.1 yf_RX11_10 (by decide +kernel) yt_X11_count_15 (yr_mono x_geto (yr_getP (lo := 0) (hi := 2147483647) Z.1 yf_RX11_379 (by decide +kernel) yt_X11_count_18 (yr_mono x_ld (yr_iload_n Z.1 rfl yt_X11_count_21 (yr_mono x_ald (yr_iald (lo := 0) (hi := 2) Z.1 (by decide +kernel) yt_X11_count_22 (yr_mono x_ri (yr_ri Z rfl yt_X11_count_23)))))))))))) (yr_mono x_cst (yr_bipush Z.1 yt_X11_count_9 (by decide) (yr_goto Z.1 yt_X11_count_11 (by decide) (yr_mono x_ri (yr_ri Z rfl yt_X11_count_23)))))))))))))))
def f_X11_count : yFn := fun n ys h => (fun n => xp_X11_count n) n (yar 0 ([100065, 0].zip ys)) [] h
theorem m_X11_count (l : Launch) : yMet zkds vwCl zTW zKP l (yX11_count, cX11_count, 2, (some .int)) 0 0 [100065, 0] (yF 0 f_X11_count) := y_metF zkp_ok zTW_good (yX11_count, cX11_count, 2, (some .int)) 0 0 [100065, 0] 0 (fun n => xp_X11_count n) (by decide +kernel) (by decide) (fun η D cy L Θ p e R s m args below meth c Q Qr n Z => s_X11_count (n := n) Z)
set_option maxRecDepth 100000 in
theorem e_X11_count {n : Nat} {x1 : Int} {h : yH} : f_X11_count n [1, x1] h = if x1 < 0 then (some ((-2), h)) else (if x1 < 3 then (xg (h 1 0 = 3) (xg (h 3 1 = 6) (xg (0 ≤ x1 ∧ x1 < 3) (some ((h 6 x1.toNat), h))))) else (some ((-2), h))) := by rfl
set_option maxRecDepth 100000 in
theorem yq_X11_fault : lw_tbl[827]? = some (.code yX11_fault cX11_fault 2 (some .int)) := rfl
theorem yw_X11_fault : zMV yX11_fault cX11_fault 2 (some .int) 1 := ⟨⟨zTin 101 (by decide +kernel) rfl, zTin 827 yq_X11_fault rfl, ⟨by decide, by decide⟩, by decide +kernel⟩, zTin 825 (by decide +kernel) rfl, zTin 826 (by decide +kernel) rfl⟩
theorem yt_X11_fault_0 : decode cX11_fault 0 = .ok (.iload_n 1, 1) := by decide +kernel
theorem yt_X11_fault_1 : decode cX11_fault 1 = .ok (.ifCond .ne 11, 3) := by decide +kernel
theorem yt_X11_fault_12 : decode cX11_fault 12 = .ok (.iload_n 1, 1) := by decide +kernel
theorem yt_X11_fault_13 : decode cX11_fault 13 = .ok (.iconst 1, 1) := by decide +kernel
theorem yt_X11_fault_14 : decode cX11_fault 14 = .ok (.if_icmp .ne 13, 3) := by decide +kernel
theorem yt_X11_fault_27 : decode cX11_fault 27 = .ok (.iconst (-1), 1) := by decide +kernel
theorem yt_X11_fault_28 : decode cX11_fault 28 = .ok (.ireturn, 1) := by decide +kernel
theorem yt_X11_fault_17 : decode cX11_fault 17 = .ok (.aload_n 0, 1) := by decide +kernel
theorem yt_X11_fault_18 : decode cX11_fault 18 = .ok (.getfield 10, 3) := by decide +kernel
theorem yt_X11_fault_21 : decode cX11_fault 21 = .ok (.getfield 92, 3) := by decide +kernel
theorem yf_RX11_92 : zFok RX11 zTW vwCl (92, 9, 6, (some .int)) := ⟨RX9, TX9, 7, rfl, zx_9, by decide, zTin 319 (by decide +kernel) rfl, fun ty h => ⟨rfl, tyX9, tyX9_ok, nmX9, by cases h; rfl⟩⟩
theorem yt_X11_fault_24 : decode cX11_fault 24 = .ok (.goto 4, 3) := by decide +kernel
theorem yt_X11_fault_4 : decode cX11_fault 4 = .ok (.aload_n 0, 1) := by decide +kernel
theorem yt_X11_fault_5 : decode cX11_fault 5 = .ok (.getfield 10, 3) := by decide +kernel
theorem yt_X11_fault_8 : decode cX11_fault 8 = .ok (.getfield 91, 3) := by decide +kernel
theorem yf_RX11_91 : zFok RX11 zTW vwCl (91, 9, 5, (some .int)) := ⟨RX9, TX9, 7, rfl, zx_9, by decide, zTin 317 (by decide +kernel) rfl, fun ty h => ⟨rfl, tyX9, tyX9_ok, nmX9, by cases h; rfl⟩⟩
theorem yt_X11_fault_11 : decode cX11_fault 11 = .ok (.ireturn, 1) := by decide +kernel
def xp_X11_fault (n : Nat) : yX := (xLd 1 0 (xEq0 (xLd 0 100065 (xGetO 63 0 28 2 (xGet 28 5 0 xRi))) (xLd 1 0 (xCst 0 1 (xEq (xLd 0 100065 (xGetO 63 0 28 2 (xGet 28 6 0 xRi))) (xCst 0 (-1) xRi))))))
theorem s_X11_fault {η : zRn} {D : va_G} {cy : Nat → ClassId} {L : List Nat} {Θ : Nat → Option Nat} {p : Program} {l : Launch} {e : Env} {R : Room} {s : State} {m : MethodId} {args : Array Value} {below : List Frame} {meth : Method} {c : Code} {Q : State → Prop} {Qr : yQt} {n : Nat} (Z : yCz η zkds D vwCl cy L Θ 2 p l e R s m args below meth c Q cX11_fault (tyW cy) RX11 zTW zKP tyW (some .int) 0 0 Qr) : yGo η zkds D vwCl cy L Θ 2 p l e R s m args below meth c Q 0 (xw Qr 0 (xp_X11_fault n)) := (yr_mono x_ld (yr_iload_n Z.1 rfl yt_X11_fault_0 (yr_mono x_eq0 (yr_ne0 Z.1 yt_X11_fault_1 (by decide) (yr_mono x_ld (yr_iload_n Z.1 rfl yt_X11_fault_12 (yr_mono x_cst (yr_iconst Z.1 yt_X11_fault_13 (by decide) (yr_mono x_eq (yr_ne Z.1 yt_X11_fault_14 (by decide) (yr_mono x_cst (yr_iconst Z.1 yt_X11_fault_27 (by decide) (yr_mono x_ri (yr_ri Z rfl yt_X11_fault_28)))) (yr_mono x_ld (yr_aload_n Z.1 rfl (by decide) yt_X11_fault_17 (yr_mono x_geto (yr_getP (lo := 0) (hi := 2147483647) Z.1 yf_RX11_10 (by decide +kernel) yt_X11_fault_18 (yr_mono x_get (yr_get (lo := (-2147483648)) (hi := 2147483647) Z.1 yf_RX11_92 (by decide +kernel) yt_X11_fault_21 (yr_goto Z.1 yt_X11_fault_24 (by decide) (yr_mono x_ri (yr_ri Z rfl yt_X11_fault_28))))))))))))))) (yr_mono x_ld (yr_aload_n Z.1 rfl (by decide) yt_X11_fault_4 (yr_mono x_geto (yr_getP (lo := 0) (hi := 2147483647) Z.1 yf_RX11_10 (by decide +kernel) yt_X11_fault_5 (yr_mono x_get (yr_get (lo := (-2147483648)) (hi := 2147483647) Z.1 yf_RX11_91 (by decide +kernel) yt_X11_fault_8 (yr_mono x_ri (yr_ri Z rfl yt_X11_fault_11))))))))))))
def f_X11_fault : yFn := fun n ys h => (fun n => xp_X11_fault n) n (yar 0 ([100065, 0].zip ys)) [] h
theorem m_X11_fault (l : Launch) : yMet zkds vwCl zTW zKP l (yX11_fault, cX11_fault, 2, (some .int)) 0 0 [100065, 0] (yF 0 f_X11_fault) := y_metF zkp_ok zTW_good (yX11_fault, cX11_fault, 2, (some .int)) 0 0 [100065, 0] 0 (fun n => xp_X11_fault n) (by decide +kernel) (by decide) (fun η D cy L Θ p e R s m args below meth c Q Qr n Z => s_X11_fault (n := n) Z)
set_option maxRecDepth 100000 in
theorem e_X11_fault {n : Nat} {x1 : Int} {h : yH} : f_X11_fault n [1, x1] h = if x1 = 0 then (xg (h 1 0 = 3) (some ((h 3 5), h))) else (if x1 = 1 then (xg (h 1 0 = 3) (some ((h 3 6), h))) else (some ((-1), h))) := by rfl
end
section
/-! the class: the tape is fed -/
/-- a byte of a number -/
def cBy (x : Int) (i : Nat) : Int := yi2b (yushr x (24 - 8 * (i : Int)))
theorem put_l {x : Int} {m : Nat} {h : yH} (hP : cP h) (h4 : h 4 1 = (m : Int)) (hm : m + 4 ≤ 600) (hb : ∀ i, i < 4 → -128 ≤ cBy x i ∧ cBy x i ≤ 127) : ∀ (c i n : Nat) (g : yH), 4 - i = c → i ≤ 4 → c < n → cP g → g 4 1 = (m : Int) + (i : Int) → (∀ a j, ¬ (a = 4 ∧ j = 1) → g a j = if a = 5 ∧ m ≤ j ∧ j < m + i then cBy x (j - m) else h a j) →
    ∃ h2, xl_X8_put n 3 [4, x, 24 - 8 * (i : Int)] g = some (0, h2) ∧ cP h2 ∧ h2 4 1 = (m : Int) + 4 ∧ ∀ a j, ¬ (a = 4 ∧ j = 1) → h2 a j = if a = 5 ∧ m ≤ j ∧ j < m + 4 then cBy x (j - m) else h a j := by
  intro c
  induction c with
  | zero =>
    intro i n g e1 e2 e3 gP g4 gh
    obtain ⟨n, rfl⟩ : ∃ n', n = n' + 1 := ⟨n - 1, by omega⟩
    obtain rfl : i = 4 := by omega
    rw [e_X8_put_3, if_pos (by omega)]
    exact ⟨g, rfl, gP, g4, gh⟩
  | succ c ih =>
    intro i n g e1 e2 e3 gP g4 gh
    obtain ⟨n, rfl⟩ : ∃ n', n = n' + 1 := ⟨n - 1, by omega⟩
    have hbi := hb i (by omega)
    have cf5 : ∀ j, cF 5 j = false := fun j => by
      unfold cF
      rw [List.any_eq_false]
      intro p hp
      have : ∀ p ∈ cPL, p.1 ≠ 5 := by decide +kernel
      simp [this p hp]
    rw [e_X8_put_3, if_neg (by omega), g4, if_pos (by omega), xg_pos (gP.p (by decide)), xg_pos (by omega)]
    rw [show yi2b (yushr x (24 - 8 * (i : Int))) = cBy x i from rfl, xg_pos hbi, xg_pos (by omega), xg_pos (by omega), xg_pos (by omega), show ((m : Int) + (i : Int)).toNat = m + i by omega, show 24 - 8 * (i : Int) + -8 = 24 - 8 * ((i + 1 : Nat) : Int) by omega]
    refine ih (i + 1) n _ (by omega) (by omega) (by omega) ((gP.up (cf5 _)).up (by decide)) (by rw [zup_at]; omega) (fun a j w => ?_)
    rw [zup_ne w]
    by_cases c1 : a = 5 ∧ j = m + i
    · rw [c1.1, c1.2, zup_at, if_pos (by omega), show m + i - m = i by omega]
    · rw [zup_ne c1, gh a j w]
      by_cases c2 : a = 5 ∧ m ≤ j ∧ j < m + i
      · rw [if_pos c2, if_pos (by omega)]
      · rw [if_neg c2, if_neg (by omega)]
theorem put_e {n m : Nat} {x : Int} {h : yH} (hn : 6 ≤ n) (hP : cP h) (h4 : h 4 1 = (m : Int)) (hm : m + 4 ≤ 600) (hb : ∀ i, i < 4 → -128 ≤ cBy x i ∧ cBy x i ≤ 127) : ∃ h2, f_X8_put n [4, x] h = some (0, h2) ∧ cP h2 ∧ h2 4 1 = (m : Int) + 4 ∧ ∀ a j, ¬ (a = 4 ∧ j = 1) → h2 a j = if a = 5 ∧ m ≤ j ∧ j < m + 4 then cBy x (j - m) else h a j := by
  rw [e_X8_put]
  exact put_l hP h4 hm hb 4 0 n h rfl (by omega) (by omega) hP (by rw [h4]; omega) (fun a j w => by rw [if_neg (by omega)])
end
section
/-! the reference as functions: the tape, count, fault -/
set_option maxRecDepth 100000 in
theorem yq_X12_feed : lw_tbl[1496]? = some (.code yX12_feed cX12_feed 6 (some .int)) := rfl
theorem yw_X12_feed : zMV yX12_feed cX12_feed 6 (some .int) 5 := ⟨⟨zTin 113 (by decide +kernel) rfl, zTin 1496 yq_X12_feed rfl, ⟨by decide, by decide⟩, by decide +kernel⟩, zTin 1494 (by decide +kernel) rfl, zTin 1495 (by decide +kernel) rfl⟩
theorem yt_X12_feed_0 : decode cX12_feed 0 = .ok (.aload_n 0, 1) := by decide +kernel
theorem yt_X12_feed_1 : decode cX12_feed 1 = .ok (.iconst 0, 1) := by decide +kernel
theorem yt_X12_feed_2 : decode cX12_feed 2 = .ok (.putfield 117, 3) := by decide +kernel
theorem yt_X12_feed_5 : decode cX12_feed 5 = .ok (.aload_n 0, 1) := by decide +kernel
theorem yt_X12_feed_6 : decode cX12_feed 6 = .ok (.getfield 13, 3) := by decide +kernel
theorem yt_X12_feed_9 : decode cX12_feed 9 = .ok (.iconst 0, 1) := by decide +kernel
theorem yt_X12_feed_10 : decode cX12_feed 10 = .ok (.iaload, 1) := by decide +kernel
theorem yt_X12_feed_11 : decode cX12_feed 11 = .ok (.bipush 20, 2) := by decide +kernel
theorem yt_X12_feed_13 : decode cX12_feed 13 = .ok (.iadd, 1) := by decide +kernel
theorem yt_X12_feed_14 : decode cX12_feed 14 = .ok (.sipush 600, 3) := by decide +kernel
theorem yt_X12_feed_17 : decode cX12_feed 17 = .ok (.if_icmp .le 5, 3) := by decide +kernel
theorem yt_X12_feed_22 : decode cX12_feed 22 = .ok (.aload_n 0, 1) := by decide +kernel
theorem yt_X12_feed_23 : decode cX12_feed 23 = .ok (.iload_n 1, 1) := by decide +kernel
theorem yt_X12_feed_24 : decode cX12_feed 24 = .ok (.invokevirtual 133, 3) := by decide +kernel
theorem yl_RX12_133 : Cond.methodLink RX12 133 yX12_four ∈ zTW := zTin 1497 (by decide +kernel) rfl
theorem yt_X12_feed_27 : decode cX12_feed 27 = .ok (.aload_n 0, 1) := by decide +kernel
theorem yt_X12_feed_28 : decode cX12_feed 28 = .ok (.iload_n 2, 1) := by decide +kernel
theorem yt_X12_feed_29 : decode cX12_feed 29 = .ok (.invokevirtual 133, 3) := by decide +kernel
theorem yt_X12_feed_32 : decode cX12_feed 32 = .ok (.aload_n 0, 1) := by decide +kernel
theorem yt_X12_feed_33 : decode cX12_feed 33 = .ok (.iload_n 3, 1) := by decide +kernel
theorem yt_X12_feed_34 : decode cX12_feed 34 = .ok (.invokevirtual 133, 3) := by decide +kernel
theorem yt_X12_feed_37 : decode cX12_feed 37 = .ok (.aload_n 0, 1) := by decide +kernel
theorem yt_X12_feed_38 : decode cX12_feed 38 = .ok (.iload 4, 2) := by decide +kernel
theorem yt_X12_feed_40 : decode cX12_feed 40 = .ok (.invokevirtual 133, 3) := by decide +kernel
theorem yt_X12_feed_43 : decode cX12_feed 43 = .ok (.aload_n 0, 1) := by decide +kernel
theorem yt_X12_feed_44 : decode cX12_feed 44 = .ok (.iload 5, 2) := by decide +kernel
theorem yt_X12_feed_46 : decode cX12_feed 46 = .ok (.invokevirtual 133, 3) := by decide +kernel
theorem yt_X12_feed_49 : decode cX12_feed 49 = .ok (.aload_n 0, 1) := by decide +kernel
theorem yt_X12_feed_50 : decode cX12_feed 50 = .ok (.getfield 13, 3) := by decide +kernel
theorem yt_X12_feed_53 : decode cX12_feed 53 = .ok (.iconst 0, 1) := by decide +kernel
theorem yt_X12_feed_54 : decode cX12_feed 54 = .ok (.iaload, 1) := by decide +kernel
theorem yt_X12_feed_55 : decode cX12_feed 55 = .ok (.ireturn, 1) := by decide +kernel
theorem yt_X12_feed_20 : decode cX12_feed 20 = .ok (.iconst (-1), 1) := by decide +kernel
theorem yt_X12_feed_21 : decode cX12_feed 21 = .ok (.ireturn, 1) := by decide +kernel
def xp_X12_feed (n : Nat) : yX := (xLd 0 100037 (xCst 0 0 (xPut0 35 0 0 (xLd 0 100037 (xGetC 35 2 1 1 (xCst 0 0 (xAld 1 4 (xCst 0 20 (xAdd (xCst 0 600 (xGt (xCst 0 (-1) xRi) (xLd 0 100037 (xLd 1 0 (xCalV 2 [100037, 0] (f_X12_four n) (xLd 0 100037 (xLd 2 0 (xCalV 2 [100037, 0] (f_X12_four n) (xLd 0 100037 (xLd 3 0 (xCalV 2 [100037, 0] (f_X12_four n) (xLd 0 100037 (xLd 4 0 (xCalV 2 [100037, 0] (f_X12_four n) (xLd 0 100037 (xLd 5 0 (xCalV 2 [100037, 0] (f_X12_four n) (xLd 0 100037 (xGetC 35 2 1 1 (xCst 0 0 (xAld 1 4 xRi))))))))))))))))))))))))))))))
theorem s_X12_feed {η : zRn} {D : va_G} {cy : Nat → ClassId} {L : List Nat} {Θ : Nat → Option Nat} {p : Program} {l : Launch} {e : Env} {R : Room} {s : State} {m : MethodId} {args : Array Value} {below : List Frame} {meth : Method} {c : Code} {Q : State → Prop} {Qr : yQt} {n : Nat} (Z : yCz η zkdm D vwCl cy L Θ 6 p l e R s m args below meth c Q cX12_feed (tyW cy) RX12 zTW zKPr tyW (some .int) 1 22 Qr) : yGo η zkdm D vwCl cy L Θ 6 p l e R s m args below meth c Q 0 (xw Qr 0 (xp_X12_feed n)) := (yr_mono x_ld (yr_aload_n Z.1 rfl (by decide) yt_X12_feed_0 (yr_mono x_cst (yr_iconst Z.1 yt_X12_feed_1 (by decide) (yr_mono x_put0 (yr_put0 (lo := (-2147483648)) (hi := 2147483647) Z.1 yf_RX12_117 (by decide +kernel) (Or.inl ⟨rfl, rfl, rfl⟩) (by decide) yt_X12_feed_2 (yr_mono x_ld (yr_aload_n Z.1 rfl (by decide) yt_X12_feed_5 (yr_mono x_getc (yr_getP (lo := 0) (hi := 2147483647) Z.1 yf_RX12_13 (by decide +kernel) yt_X12_feed_6 (yr_mono x_cst (yr_iconst Z.1 yt_X12_feed_9 (by decide) (yr_mono x_ald (yr_iald (lo := 0) (hi := 600) Z.1 (by decide +kernel) yt_X12_feed_10 (yr_mono x_cst (yr_bipush Z.1 yt_X12_feed_11 (by decide) (yr_mono x_add (yr_add Z.1 yt_X12_feed_13 (yr_mono x_cst (yr_sipush Z.1 yt_X12_feed_14 (by decide) (yr_mono x_gt (yr_le Z.1 yt_X12_feed_17 (by decide) (yr_mono x_ld (yr_aload_n Z.1 rfl (by decide) yt_X12_feed_22 (yr_mono x_ld (yr_iload_n Z.1 rfl yt_X12_feed_23 (yr_mono x_calV (yr_calV rfl (y_hrunV Z (y := (yX12_four, cX12_four, 3, none)) (m_X12_four l) (ycv_of yw_X12_four 133 yt_X12_feed_24 yl_RX12_133 rfl (by decide) (by decide) ⟨35, _, _, _, _, rfl, zkdm_35, rfl, rfl⟩)) (yr_mono x_ld (yr_aload_n Z.1 rfl (by decide) yt_X12_feed_27 (yr_mono x_ld (yr_iload_n Z.1 rfl yt_X12_feed_28 (yr_mono x_calV (yr_calV rfl (y_hrunV Z (y := (yX12_four, cX12_four, 3, none)) (m_X12_four l) (ycv_of yw_X12_four 133 yt_X12_feed_29 yl_RX12_133 rfl (by decide) (by decide) ⟨35, _, _, _, _, rfl, zkdm_35, rfl, rfl⟩)) (yr_mono x_ld (yr_aload_n Z.1 rfl (by decide) yt_X12_feed_32 (yr_mono x_ld (yr_iload_n Z.1 rfl yt_X12_feed_33 (yr_mono x_calV (yr_calV rfl (y_hrunV Z (y := (yX12_four, cX12_four, 3, none)) (m_X12_four l) (ycv_of yw_X12_four 133 yt_X12_feed_34 yl_RX12_133 rfl (by decide) (by decide) ⟨35, _, _, _, _, rfl, zkdm_35, rfl, rfl⟩)) (yr_mono x_ld (yr_aload_n Z.1 rfl (by decide) yt_X12_feed_37 (yr_mono x_ld (yr_iload Z.1 yt_X12_feed_38 (yr_mono x_calV (yr_calV rfl (y_hrunV Z (y := (yX12_four, cX12_four, 3, none)) (m_X12_four l) (ycv_of yw_X12_four 133 yt_X12_feed_40 yl_RX12_133 rfl (by decide) (by decide) ⟨35, _, _, _, _, rfl, zkdm_35, rfl, rfl⟩)) (yr_mono x_ld (yr_aload_n Z.1 rfl (by decide) yt_X12_feed_43 (yr_mono x_ld (yr_iload Z.1 yt_X12_feed_44 (yr_mono x_calV (yr_calV rfl (y_hrunV Z (y := (yX12_four, cX12_four, 3, none)) (m_X12_four l) (ycv_of yw_X12_four 133 yt_X12_feed_46 yl_RX12_133 rfl (by decide) (by decide) ⟨35, _, _, _, _, rfl, zkdm_35, rfl, rfl⟩)) (yr_mono x_ld (yr_aload_n Z.1 rfl (by decide) yt_X12_feed_49 (yr_mono x_getc (yr_getP (lo := 0) (hi := 2147483647) Z.1 yf_RX12_13 (by decide +kernel) yt_X12_feed_50 (yr_mono x_cst (yr_iconst Z.1 yt_X12_feed_53 (by decide) (yr_mono x_ald (yr_iald (lo := 0) (hi := 600) Z.1 (by decide +kernel) yt_X12_feed_54 (yr_mono x_ri (yr_ri Z rfl yt_X12_feed_55)))))))))))))))))))))))))))))))))))))))) (yr_mono x_cst (yr_iconst Z.1 yt_X12_feed_20 (by decide) (yr_mono x_ri (yr_ri Z rfl yt_X12_feed_21))))))))))))))))))))))))))
def f_X12_feed : yFn := fun n ys h => (fun n => xp_X12_feed n) n (yar 0 ([100037, 0, 0, 0, 0, 0].zip ys)) [] h
theorem m_X12_feed (l : Launch) : yMet zkdm vwCl zTW zKPr l (yX12_feed, cX12_feed, 6, (some .int)) 1 22 [100037, 0, 0, 0, 0, 0] (yF 0 f_X12_feed) := y_metF zkpr_ok zTW_good (yX12_feed, cX12_feed, 6, (some .int)) 1 22 [100037, 0, 0, 0, 0, 0] 0 (fun n => xp_X12_feed n) (by decide +kernel) (by decide) (fun η D cy L Θ p e R s m args below meth c Q Qr n Z => s_X12_feed (n := n) Z)
set_option maxRecDepth 100000 in
theorem e_X12_feed {n : Nat} {x1 x2 x3 x4 x5 : Int} {h : yH} : f_X12_feed n [35, x1, x2, x3, x4, x5] h = xg (h 35 2 = 1) (xg (-2147483648 ≤ (h 1 0) + 20 ∧ (h 1 0) + 20 ≤ 2147483647) (if 600 < ((h 1 0) + 20) then (some ((-1), zup h 35 0 0)) else (xb (f_X12_four n [35, x1] (zup h 35 0 0)) (fun _ h1 => xb (f_X12_four n [35, x2] h1) (fun _ h2 => xb (f_X12_four n [35, x3] h2) (fun _ h3 => xb (f_X12_four n [35, x4] h3) (fun _ h4 => xb (f_X12_four n [35, x5] h4) (fun _ h5 => xg (h5 35 2 = 1) (some ((h5 1 0), h5)))))))))) := by rfl
set_option maxRecDepth 100000 in
theorem yq_X12_end : lw_tbl[1504]? = some (.code yX12_end cX12_end 2 (some .int)) := rfl
theorem yw_X12_end : zMV yX12_end cX12_end 2 (some .int) 1 := ⟨⟨zTin 113 (by decide +kernel) rfl, zTin 1504 yq_X12_end rfl, ⟨by decide, by decide⟩, by decide +kernel⟩, zTin 1502 (by decide +kernel) rfl, zTin 1503 (by decide +kernel) rfl⟩
theorem yt_X12_end_0 : decode cX12_end 0 = .ok (.aload_n 0, 1) := by decide +kernel
theorem yt_X12_end_1 : decode cX12_end 1 = .ok (.iconst 0, 1) := by decide +kernel
theorem yt_X12_end_2 : decode cX12_end 2 = .ok (.putfield 117, 3) := by decide +kernel
theorem yt_X12_end_5 : decode cX12_end 5 = .ok (.iload_n 1, 1) := by decide +kernel
theorem yt_X12_end_6 : decode cX12_end 6 = .ok (.iconst 0, 1) := by decide +kernel
theorem yt_X12_end_7 : decode cX12_end 7 = .ok (.aload_n 0, 1) := by decide +kernel
theorem yt_X12_end_8 : decode cX12_end 8 = .ok (.getfield 13, 3) := by decide +kernel
theorem yt_X12_end_11 : decode cX12_end 11 = .ok (.iconst 0, 1) := by decide +kernel
theorem yt_X12_end_12 : decode cX12_end 12 = .ok (.iaload, 1) := by decide +kernel
theorem yt_X12_end_13 : decode cX12_end 13 = .ok (.invokestatic 129, 3) := by decide +kernel
theorem yt_X12_end_16 : decode cX12_end 16 = .ok (.ifCond .ne 5, 3) := by decide +kernel
theorem yt_X12_end_21 : decode cX12_end 21 = .ok (.aload_n 0, 1) := by decide +kernel
theorem yt_X12_end_22 : decode cX12_end 22 = .ok (.getfield 13, 3) := by decide +kernel
theorem yt_X12_end_25 : decode cX12_end 25 = .ok (.iconst 0, 1) := by decide +kernel
theorem yt_X12_end_26 : decode cX12_end 26 = .ok (.iload_n 1, 1) := by decide +kernel
theorem yt_X12_end_27 : decode cX12_end 27 = .ok (.iastore, 1) := by decide +kernel
theorem yt_X12_end_28 : decode cX12_end 28 = .ok (.iload_n 1, 1) := by decide +kernel
theorem yt_X12_end_29 : decode cX12_end 29 = .ok (.ireturn, 1) := by decide +kernel
theorem yt_X12_end_19 : decode cX12_end 19 = .ok (.iconst (-1), 1) := by decide +kernel
theorem yt_X12_end_20 : decode cX12_end 20 = .ok (.ireturn, 1) := by decide +kernel
def xp_X12_end (n : Nat) : yX := (xLd 0 100037 (xCst 0 0 (xPut0 35 0 0 (xLd 1 0 (xCst 0 0 (xLd 0 100037 (xGetC 35 2 1 1 (xCst 0 0 (xAld 1 4 (xCalR 3 [0, 0, 0] 0 (f_X12_in n) (xEq0 (xCst 0 (-1) xRi) (xLd 0 100037 (xGetC 35 2 1 1 (xCst 0 0 (xLd 1 0 (xAst 1 4 (fun _ => 0) (fun _ => 600) (xLd 1 0 xRi)))))))))))))))))
theorem s_X12_end {η : zRn} {D : va_G} {cy : Nat → ClassId} {L : List Nat} {Θ : Nat → Option Nat} {p : Program} {l : Launch} {e : Env} {R : Room} {s : State} {m : MethodId} {args : Array Value} {below : List Frame} {meth : Method} {c : Code} {Q : State → Prop} {Qr : yQt} {n : Nat} (Z : yCz η zkdm D vwCl cy L Θ 2 p l e R s m args below meth c Q cX12_end (tyW cy) RX12 zTW zKPr tyW (some .int) 1 22 Qr) : yGo η zkdm D vwCl cy L Θ 2 p l e R s m args below meth c Q 0 (xw Qr 0 (xp_X12_end n)) := (yr_mono x_ld (yr_aload_n Z.1 rfl (by decide) yt_X12_end_0 (yr_mono x_cst (yr_iconst Z.1 yt_X12_end_1 (by decide) (yr_mono x_put0 (yr_put0 (lo := (-2147483648)) (hi := 2147483647) Z.1 yf_RX12_117 (by decide +kernel) (Or.inl ⟨rfl, rfl, rfl⟩) (by decide) yt_X12_end_2 (yr_mono x_ld (yr_iload_n Z.1 rfl yt_X12_end_5 (yr_mono x_cst (yr_iconst Z.1 yt_X12_end_6 (by decide) (yr_mono x_ld (yr_aload_n Z.1 rfl (by decide) yt_X12_end_7 (yr_mono x_getc (yr_getP (lo := 0) (hi := 2147483647) Z.1 yf_RX12_13 (by decide +kernel) yt_X12_end_8 (yr_mono x_cst (yr_iconst Z.1 yt_X12_end_11 (by decide) (yr_mono x_ald (yr_iald (lo := 0) (hi := 600) Z.1 (by decide +kernel) yt_X12_end_12 (yr_mono x_calR (yr_calR rfl (y_hrunS Z (y := (yX12_in, cX12_in, 3, (some .boolean))) (m_X12_in l) (ycs_of yw_X12_in 129 yt_X12_end_13 yl_RX12_129 rfl (by decide) (by decide))) (yr_mono x_eq0 (yr_ne0 Z.1 yt_X12_end_16 (by decide) (yr_mono x_ld (yr_aload_n Z.1 rfl (by decide) yt_X12_end_21 (yr_mono x_getc (yr_getP (lo := 0) (hi := 2147483647) Z.1 yf_RX12_13 (by decide +kernel) yt_X12_end_22 (yr_mono x_cst (yr_iconst Z.1 yt_X12_end_25 (by decide) (yr_mono x_ld (yr_iload_n Z.1 rfl yt_X12_end_26 (yr_mono x_ast (yr_iast (lo := 0) (hi := 600) Z.1 (by decide +kernel) yt_X12_end_27 (yr_mono x_ld (yr_iload_n Z.1 rfl yt_X12_end_28 (yr_mono x_ri (yr_ri Z rfl yt_X12_end_29)))))))))))))) (yr_mono x_cst (yr_iconst Z.1 yt_X12_end_19 (by decide) (yr_mono x_ri (yr_ri Z rfl yt_X12_end_20))))))))))))))))))))))))))
def f_X12_end : yFn := fun n ys h => (fun n => xp_X12_end n) n (yar 0 ([100037, 0].zip ys)) [] h
theorem m_X12_end (l : Launch) : yMet zkdm vwCl zTW zKPr l (yX12_end, cX12_end, 2, (some .int)) 1 22 [100037, 0] (yF 0 f_X12_end) := y_metF zkpr_ok zTW_good (yX12_end, cX12_end, 2, (some .int)) 1 22 [100037, 0] 0 (fun n => xp_X12_end n) (by decide +kernel) (by decide) (fun η D cy L Θ p e R s m args below meth c Q Qr n Z => s_X12_end (n := n) Z)
set_option maxRecDepth 100000 in
theorem e_X12_end {n : Nat} {x1 : Int} {h : yH} : f_X12_end n [35, x1] h = xg (h 35 2 = 1) (xb (f_X12_in n [x1, 0, (h 1 0)] (zup h 35 0 0)) (fun v1 h1 => if v1 = 0 then (some ((-1), h1)) else (xg (h1 35 2 = 1) (xg (0 ≤ x1 ∧ x1 ≤ 600) (some (x1, zup h1 1 0 x1)))))) := by rfl
set_option maxRecDepth 100000 in
theorem yq_X12_count : lw_tbl[1922]? = some (.code yX12_count cX12_count 2 (some .int)) := rfl
theorem yw_X12_count : zMV yX12_count cX12_count 2 (some .int) 1 := ⟨⟨zTin 113 (by decide +kernel) rfl, zTin 1922 yq_X12_count rfl, ⟨by decide, by decide⟩, by decide +kernel⟩, zTin 1920 (by decide +kernel) rfl, zTin 1921 (by decide +kernel) rfl⟩
theorem yt_X12_count_0 : decode cX12_count 0 = .ok (.aload_n 0, 1) := by decide +kernel
theorem yt_X12_count_1 : decode cX12_count 1 = .ok (.iconst 0, 1) := by decide +kernel
theorem yt_X12_count_2 : decode cX12_count 2 = .ok (.putfield 117, 3) := by decide +kernel
theorem yt_X12_count_5 : decode cX12_count 5 = .ok (.iload_n 1, 1) := by decide +kernel
theorem yt_X12_count_6 : decode cX12_count 6 = .ok (.iconst 0, 1) := by decide +kernel
theorem yt_X12_count_7 : decode cX12_count 7 = .ok (.iconst 2, 1) := by decide +kernel
theorem yt_X12_count_8 : decode cX12_count 8 = .ok (.invokestatic 129, 3) := by decide +kernel
theorem yt_X12_count_11 : decode cX12_count 11 = .ok (.ifCond .eq 12, 3) := by decide +kernel
theorem yt_X12_count_23 : decode cX12_count 23 = .ok (.bipush (-2), 2) := by decide +kernel
theorem yt_X12_count_25 : decode cX12_count 25 = .ok (.ireturn, 1) := by decide +kernel
theorem yt_X12_count_14 : decode cX12_count 14 = .ok (.aload_n 0, 1) := by decide +kernel
theorem yt_X12_count_15 : decode cX12_count 15 = .ok (.getfield 23, 3) := by decide +kernel
theorem yt_X12_count_18 : decode cX12_count 18 = .ok (.iload_n 1, 1) := by decide +kernel
theorem yt_X12_count_19 : decode cX12_count 19 = .ok (.iaload, 1) := by decide +kernel
theorem yt_X12_count_20 : decode cX12_count 20 = .ok (.goto 5, 3) := by decide +kernel
def xp_X12_count (n : Nat) : yX := (xLd 0 100037 (xCst 0 0 (xPut0 35 0 0 (xLd 1 0 (xCst 0 0 (xCst 0 2 (xCalR 3 [0, 0, 0] 0 (f_X12_in n) (xEq0 (xCst 0 (-2) xRi) (xLd 0 100037 (xGetC 35 5 4 4 (xLd 1 0 (xAld 4 12 xRi))))))))))))
theorem s_X12_count {η : zRn} {D : va_G} {cy : Nat → ClassId} {L : List Nat} {Θ : Nat → Option Nat} {p : Program} {l : Launch} {e : Env} {R : Room} {s : State} {m : MethodId} {args : Array Value} {below : List Frame} {meth : Method} {c : Code} {Q : State → Prop} {Qr : yQt} {n : Nat} (Z : yCz η zkdm D vwCl cy L Θ 2 p l e R s m args below meth c Q cX12_count (tyW cy) RX12 zTW zKPr tyW (some .int) 1 22 Qr) : yGo η zkdm D vwCl cy L Θ 2 p l e R s m args below meth c Q 0 (xw Qr 0 (xp_X12_count n)) := (yr_mono x_ld (yr_aload_n Z.1 rfl (by decide) yt_X12_count_0 (yr_mono x_cst (yr_iconst Z.1 yt_X12_count_1 (by decide) (yr_mono x_put0 (yr_put0 (lo := (-2147483648)) (hi := 2147483647) Z.1 yf_RX12_117 (by decide +kernel) (Or.inl ⟨rfl, rfl, rfl⟩) (by decide) yt_X12_count_2 (yr_mono x_ld (yr_iload_n Z.1 rfl yt_X12_count_5 (yr_mono x_cst (yr_iconst Z.1 yt_X12_count_6 (by decide) (yr_mono x_cst (yr_iconst Z.1 yt_X12_count_7 (by decide) (yr_mono x_calR (yr_calR rfl (y_hrunS Z (y := (yX12_in, cX12_in, 3, (some .boolean))) (m_X12_in l) (ycs_of yw_X12_in 129 yt_X12_count_8 yl_RX12_129 rfl (by decide) (by decide))) (yr_mono x_eq0 (yr_eq0 Z.1 yt_X12_count_11 (by decide) (yr_mono x_cst (yr_bipush Z.1 yt_X12_count_23 (by decide) (yr_mono x_ri (yr_ri Z rfl yt_X12_count_25)))) (yr_mono x_ld (yr_aload_n Z.1 rfl (by decide) yt_X12_count_14 (yr_mono x_getc (yr_getP (lo := 0) (hi := 2147483647) Z.1 yf_RX12_23 (by decide +kernel) yt_X12_count_15 (yr_mono x_ld (yr_iload_n Z.1 rfl yt_X12_count_18 (yr_mono x_ald (yr_iald (lo := 0) (hi := 2) Z.1 (by decide +kernel) yt_X12_count_19 (yr_goto Z.1 yt_X12_count_20 (by decide) (yr_mono x_ri (yr_ri Z rfl yt_X12_count_25)))))))))))))))))))))))))))
def f_X12_count : yFn := fun n ys h => (fun n => xp_X12_count n) n (yar 0 ([100037, 0].zip ys)) [] h
theorem m_X12_count (l : Launch) : yMet zkdm vwCl zTW zKPr l (yX12_count, cX12_count, 2, (some .int)) 1 22 [100037, 0] (yF 0 f_X12_count) := y_metF zkpr_ok zTW_good (yX12_count, cX12_count, 2, (some .int)) 1 22 [100037, 0] 0 (fun n => xp_X12_count n) (by decide +kernel) (by decide) (fun η D cy L Θ p e R s m args below meth c Q Qr n Z => s_X12_count (n := n) Z)
set_option maxRecDepth 100000 in
theorem e_X12_count {n : Nat} {x1 : Int} {h : yH} : f_X12_count n [35, x1] h = xb (f_X12_in n [x1, 0, 2] (zup h 35 0 0)) (fun v1 h1 => if v1 = 0 then (some ((-2), h1)) else (xg (h1 35 5 = 4) (xg (0 ≤ x1 ∧ x1 < 12) (some ((h1 4 x1.toNat), h1))))) := by rfl
set_option maxRecDepth 100000 in
theorem yq_X12_fault : lw_tbl[1616]? = some (.code yX12_fault cX12_fault 2 (some .int)) := rfl
theorem yw_X12_fault : zMV yX12_fault cX12_fault 2 (some .int) 1 := ⟨⟨zTin 113 (by decide +kernel) rfl, zTin 1616 yq_X12_fault rfl, ⟨by decide, by decide⟩, by decide +kernel⟩, zTin 1614 (by decide +kernel) rfl, zTin 1615 (by decide +kernel) rfl⟩
theorem yt_X12_fault_0 : decode cX12_fault 0 = .ok (.aload_n 0, 1) := by decide +kernel
theorem yt_X12_fault_1 : decode cX12_fault 1 = .ok (.iconst 0, 1) := by decide +kernel
theorem yt_X12_fault_2 : decode cX12_fault 2 = .ok (.putfield 117, 3) := by decide +kernel
theorem yt_X12_fault_5 : decode cX12_fault 5 = .ok (.iload_n 1, 1) := by decide +kernel
theorem yt_X12_fault_6 : decode cX12_fault 6 = .ok (.ifCond .ne 12, 3) := by decide +kernel
theorem yt_X12_fault_18 : decode cX12_fault 18 = .ok (.iload_n 1, 1) := by decide +kernel
theorem yt_X12_fault_19 : decode cX12_fault 19 = .ok (.iconst 1, 1) := by decide +kernel
theorem yt_X12_fault_20 : decode cX12_fault 20 = .ok (.if_icmp .ne 12, 3) := by decide +kernel
theorem yt_X12_fault_32 : decode cX12_fault 32 = .ok (.iconst (-1), 1) := by decide +kernel
theorem yt_X12_fault_33 : decode cX12_fault 33 = .ok (.ireturn, 1) := by decide +kernel
theorem yt_X12_fault_23 : decode cX12_fault 23 = .ok (.aload_n 0, 1) := by decide +kernel
theorem yt_X12_fault_24 : decode cX12_fault 24 = .ok (.getfield 20, 3) := by decide +kernel
theorem yt_X12_fault_27 : decode cX12_fault 27 = .ok (.iconst 0, 1) := by decide +kernel
theorem yt_X12_fault_28 : decode cX12_fault 28 = .ok (.iaload, 1) := by decide +kernel
theorem yt_X12_fault_29 : decode cX12_fault 29 = .ok (.goto 4, 3) := by decide +kernel
theorem yt_X12_fault_9 : decode cX12_fault 9 = .ok (.aload_n 0, 1) := by decide +kernel
theorem yt_X12_fault_10 : decode cX12_fault 10 = .ok (.getfield 17, 3) := by decide +kernel
theorem yt_X12_fault_13 : decode cX12_fault 13 = .ok (.iconst 0, 1) := by decide +kernel
theorem yt_X12_fault_14 : decode cX12_fault 14 = .ok (.iaload, 1) := by decide +kernel
theorem yt_X12_fault_15 : decode cX12_fault 15 = .ok (.goto 18, 3) := by decide +kernel
def xp_X12_fault (n : Nat) : yX := (xLd 0 100037 (xCst 0 0 (xPut0 35 0 0 (xLd 1 0 (xEq0 (xLd 0 100037 (xGetC 35 3 2 2 (xCst 0 0 (xAld 2 4 xRi)))) (xLd 1 0 (xCst 0 1 (xEq (xLd 0 100037 (xGetC 35 4 3 3 (xCst 0 0 (xAld 3 4 xRi)))) (xCst 0 (-1) xRi)))))))))
theorem s_X12_fault {η : zRn} {D : va_G} {cy : Nat → ClassId} {L : List Nat} {Θ : Nat → Option Nat} {p : Program} {l : Launch} {e : Env} {R : Room} {s : State} {m : MethodId} {args : Array Value} {below : List Frame} {meth : Method} {c : Code} {Q : State → Prop} {Qr : yQt} {n : Nat} (Z : yCz η zkdm D vwCl cy L Θ 2 p l e R s m args below meth c Q cX12_fault (tyW cy) RX12 zTW zKPr tyW (some .int) 0 0 Qr) : yGo η zkdm D vwCl cy L Θ 2 p l e R s m args below meth c Q 0 (xw Qr 0 (xp_X12_fault n)) := (yr_mono x_ld (yr_aload_n Z.1 rfl (by decide) yt_X12_fault_0 (yr_mono x_cst (yr_iconst Z.1 yt_X12_fault_1 (by decide) (yr_mono x_put0 (yr_put0 (lo := (-2147483648)) (hi := 2147483647) Z.1 yf_RX12_117 (by decide +kernel) (Or.inl ⟨rfl, rfl, rfl⟩) (by decide) yt_X12_fault_2 (yr_mono x_ld (yr_iload_n Z.1 rfl yt_X12_fault_5 (yr_mono x_eq0 (yr_ne0 Z.1 yt_X12_fault_6 (by decide) (yr_mono x_ld (yr_iload_n Z.1 rfl yt_X12_fault_18 (yr_mono x_cst (yr_iconst Z.1 yt_X12_fault_19 (by decide) (yr_mono x_eq (yr_ne Z.1 yt_X12_fault_20 (by decide) (yr_mono x_cst (yr_iconst Z.1 yt_X12_fault_32 (by decide) (yr_mono x_ri (yr_ri Z rfl yt_X12_fault_33)))) (yr_mono x_ld (yr_aload_n Z.1 rfl (by decide) yt_X12_fault_23 (yr_mono x_getc (yr_getP (lo := 0) (hi := 2147483647) Z.1 yf_RX12_20 (by decide +kernel) yt_X12_fault_24 (yr_mono x_cst (yr_iconst Z.1 yt_X12_fault_27 (by decide) (yr_mono x_ald (yr_iald (lo := (-2147483648)) (hi := 2147483647) Z.1 (by decide +kernel) yt_X12_fault_28 (yr_goto Z.1 yt_X12_fault_29 (by decide) (yr_mono x_ri (yr_ri Z rfl yt_X12_fault_33))))))))))))))))) (yr_mono x_ld (yr_aload_n Z.1 rfl (by decide) yt_X12_fault_9 (yr_mono x_getc (yr_getP (lo := 0) (hi := 2147483647) Z.1 yf_RX12_17 (by decide +kernel) yt_X12_fault_10 (yr_mono x_cst (yr_iconst Z.1 yt_X12_fault_13 (by decide) (yr_mono x_ald (yr_iald (lo := (-2147483648)) (hi := 2147483647) Z.1 (by decide +kernel) yt_X12_fault_14 (yr_goto Z.1 yt_X12_fault_15 (by decide) (yr_mono x_ri (yr_ri Z rfl yt_X12_fault_33)))))))))))))))))))))
def f_X12_fault : yFn := fun n ys h => (fun n => xp_X12_fault n) n (yar 0 ([100037, 0].zip ys)) [] h
theorem m_X12_fault (l : Launch) : yMet zkdm vwCl zTW zKPr l (yX12_fault, cX12_fault, 2, (some .int)) 0 0 [100037, 0] (yF 0 f_X12_fault) := y_metF zkpr_ok zTW_good (yX12_fault, cX12_fault, 2, (some .int)) 0 0 [100037, 0] 0 (fun n => xp_X12_fault n) (by decide +kernel) (by decide) (fun η D cy L Θ p e R s m args below meth c Q Qr n Z => s_X12_fault (n := n) Z)
set_option maxRecDepth 100000 in
theorem e_X12_fault {n : Nat} {x1 : Int} {h : yH} : f_X12_fault n [35, x1] h = if x1 = 0 then (xg (h 35 3 = 2) (some ((h 2 0), zup h 35 0 0))) else (if x1 = 1 then (xg (h 35 4 = 3) (some ((h 3 0), zup h 35 0 0))) else (some ((-1), zup h 35 0 0))) := by rfl
end
section
/-! the reference: the tape is fed -/
def rBy (x : Int) (i : Nat) : Int := yi2b (yari 6 x (24 - 8 * (i : Int)))
theorem four_l {x : Int} {m : Nat} {h : yH} (h4 : h 1 0 = (m : Int)) (hm : m + 4 ≤ 600) (hb : ∀ i, i < 4 → -128 ≤ rBy x i ∧ rBy x i ≤ 127) : ∀ (c i n : Nat) (g : yH), 4 - i = c → i ≤ 4 → c < n → rP g → g 1 0 = (m : Int) + (i : Int) → (∀ a j, ¬ (a = 1 ∧ j = 0) → g a j = if a = 0 ∧ m ≤ j ∧ j < m + i then rBy x (j - m) else h a j) →
    ∃ h2, xl_X12_four n 3 [35, x, 24 - 8 * (i : Int)] g = some (0, h2) ∧ rP h2 ∧ h2 1 0 = (m : Int) + 4 ∧ ∀ a j, ¬ (a = 1 ∧ j = 0) → h2 a j = if a = 0 ∧ m ≤ j ∧ j < m + 4 then rBy x (j - m) else h a j := by
  intro c
  induction c with
  | zero =>
    intro i n g e1 e2 e3 gP g4 gh
    obtain ⟨n, rfl⟩ : ∃ n', n = n' + 1 := ⟨n - 1, by omega⟩
    obtain rfl : i = 4 := by omega
    rw [e_X12_four_3, if_pos (by omega)]
    exact ⟨g, rfl, gP, g4, gh⟩
  | succ c ih =>
    intro i n g e1 e2 e3 gP g4 gh
    obtain ⟨n, rfl⟩ : ∃ n', n = n' + 1 := ⟨n - 1, by omega⟩
    have hbi := hb i (by omega)
    rw [e_X12_four_3, if_neg (by omega), xg_pos gP.1, xg_pos gP.2.1, g4, xg_pos (by omega)]
    rw [show yi2b (yari 6 x (24 - 8 * (i : Int))) = rBy x i from rfl, xg_pos hbi, xg_pos gP.2.1, xg_pos (by omega), xg_pos (by omega), xg_pos (by omega), show ((m : Int) + (i : Int)).toNat = m + i by omega, show 24 - 8 * (i : Int) + -8 = 24 - 8 * ((i + 1 : Nat) : Int) by omega]
    refine ih (i + 1) n _ (by omega) (by omega) (by omega) (gP.fr (fun j hj => by rw [zup_ne (by omega), zup_ne (by omega)])) (by rw [zup_at]; omega) (fun a j w => ?_)
    rw [zup_ne w]
    by_cases c1 : a = 0 ∧ j = m + i
    · rw [c1.1, c1.2, zup_at, if_pos (by omega), show m + i - m = i by omega]
    · rw [zup_ne c1, gh a j w]
      by_cases c2 : a = 0 ∧ m ≤ j ∧ j < m + i
      · rw [if_pos c2, if_pos (by omega)]
      · rw [if_neg c2, if_neg (by omega)]
theorem four_e {n m : Nat} {x : Int} {h : yH} (hn : 6 ≤ n) (hP : rP h) (h4 : h 1 0 = (m : Int)) (hm : m + 4 ≤ 600) (hb : ∀ i, i < 4 → -128 ≤ rBy x i ∧ rBy x i ≤ 127) : ∃ h2, f_X12_four n [35, x] h = some (0, h2) ∧ rP h2 ∧ h2 1 0 = (m : Int) + 4 ∧ ∀ a j, ¬ (a = 1 ∧ j = 0) → h2 a j = if a = 0 ∧ m ≤ j ∧ j < m + 4 then rBy x (j - m) else h a j := by
  rw [e_X12_four]
  exact four_l h4 hm hb 4 0 n h rfl (by omega) (by omega) hP (by rw [h4]; omega) (fun a j w => by rw [if_neg (by omega)])
end
section
/-! the same bytes -/
theorem by_bv (a : BitVec 32) (s : Nat) (hs : s ≤ 24) : (a >>> s).setWidth 8 = (a.sshiftRight s).setWidth 8 := by
  apply BitVec.eq_of_getLsbD_eq
  intro i hi
  simp only [BitVec.getLsbD_setWidth, BitVec.getLsbD_ushiftRight, BitVec.getLsbD_sshiftRight]
  have h1 : decide (i < 8) = true := by simpa using hi
  have h2 : ¬ 32 ≤ i := by omega
  have h3 : s + i < 32 := by omega
  simp [h1, h2, h3]
theorem by_bx (a : BitVec 32) (s : Nat) (hs : s ≤ 24) : (a >>> s).signExtend 8 = (a.sshiftRight s).signExtend 8 := by
  rw [BitVec.signExtend_eq_setWidth_of_le _ (by decide), BitVec.signExtend_eq_setWidth_of_le _ (by decide)]
  exact by_bv a s hs
theorem yi2b_b (x : Int) : -128 ≤ yi2b x ∧ yi2b x ≤ 127 := by
  unfold yi2b
  have h1 := Int8.le_toInt (Int32.ofInt x).toInt8
  have h2 := Int8.toInt_lt (Int32.ofInt x).toInt8
  rw [Int8.toInt_toInt32]
  omega
theorem by_eq {x : Int} {i : Nat} (hi : i < 4) : cBy x i = rBy x i := by
  unfold cBy rBy yi2b yushr yari
  rw [Int32.ofInt_toInt, Int32.ofInt_toInt]
  congr 2
  apply Int8.toBitVec_inj.mp
  rcases (show i = 0 ∨ i = 1 ∨ i = 2 ∨ i = 3 by omega) with rfl | rfl | rfl | rfl
  · have e1 : ((Int32.ofInt (24 - 8 * ((0 : Nat) : Int))).toUInt32 &&& Int32.toUInt32 31) = 24 := by decide
    have e2 : zsem 6 (Int32.ofInt x) (Int32.ofInt (24 - 8 * ((0 : Nat) : Int))) = (Int32.ofInt x) >>> (24 : Int32) := congrArg (fun z => Int32.ofInt x >>> z) (show (Int32.ofInt (24 - 8 * ((0 : Nat) : Int)) &&& 31) = 24 by decide)
    rw [e1, e2]
    exact by_bx (Int32.ofInt x).toBitVec 24 (by decide)
  · have e1 : ((Int32.ofInt (24 - 8 * ((1 : Nat) : Int))).toUInt32 &&& Int32.toUInt32 31) = 16 := by decide
    have e2 : zsem 6 (Int32.ofInt x) (Int32.ofInt (24 - 8 * ((1 : Nat) : Int))) = (Int32.ofInt x) >>> (16 : Int32) := congrArg (fun z => Int32.ofInt x >>> z) (show (Int32.ofInt (24 - 8 * ((1 : Nat) : Int)) &&& 31) = 16 by decide)
    rw [e1, e2]
    exact by_bx (Int32.ofInt x).toBitVec 16 (by decide)
  · have e1 : ((Int32.ofInt (24 - 8 * ((2 : Nat) : Int))).toUInt32 &&& Int32.toUInt32 31) = 8 := by decide
    have e2 : zsem 6 (Int32.ofInt x) (Int32.ofInt (24 - 8 * ((2 : Nat) : Int))) = (Int32.ofInt x) >>> (8 : Int32) := congrArg (fun z => Int32.ofInt x >>> z) (show (Int32.ofInt (24 - 8 * ((2 : Nat) : Int)) &&& 31) = 8 by decide)
    rw [e1, e2]
    exact by_bx (Int32.ofInt x).toBitVec 8 (by decide)
  · have e1 : ((Int32.ofInt (24 - 8 * ((3 : Nat) : Int))).toUInt32 &&& Int32.toUInt32 31) = 0 := by decide
    have e2 : zsem 6 (Int32.ofInt x) (Int32.ofInt (24 - 8 * ((3 : Nat) : Int))) = (Int32.ofInt x) >>> (0 : Int32) := congrArg (fun z => Int32.ofInt x >>> z) (show (Int32.ofInt (24 - 8 * ((3 : Nat) : Int)) &&& 31) = 0 by decide)
    rw [e1, e2]
    exact by_bx (Int32.ofInt x).toBitVec 0 (by decide)
end
