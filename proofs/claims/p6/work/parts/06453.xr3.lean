/-! the reference as functions: the tape, count, fault -/
set_option maxRecDepth 100000 in
theorem yq_X12_feed : lw_tbl[1496]? = some (.code yX12_feed cX12_feed 6 (some .int)) := rfl
theorem yw_X12_feed : zMV yX12_feed cX12_feed 6 (some .int) 5 := ⟨⟨zTin 113 (by decide +kernel) rfl, zTin 1496 yq_X12_feed rfl, ⟨by decide, by decide⟩, by decide +kernel⟩, zTin 1494 (by decide +kernel) rfl, zTin 1495 (by decide +kernel) rfl⟩
theorem yt_X12_feed_0 : decode cX12_feed 0 = .ok (.aload_n 0, 1) := by decide +kernel
theorem yt_X12_feed_1 : decode cX12_feed 1 = .ok (.iconst 0, 1) := by decide +kernel
theorem yt_X12_feed_2 : decode cX12_feed 2 = .ok (.putfield 117, 3) := by decide +kernel
theorem yt_X12_feed_5 : decode cX12_feed 5 = .ok (.aload_n 0, 1) := by decide +kernel
theorem yt_X12_feed_6 : decode cX12_feed 6 = .ok (.getfield 13, 3) := by decide +kernel
theorem yt_X12_feed_9 : decode cX12_feed 9 = .ok (.iconst 0, 1) := by decide +kernel
theorem yt_X12_feed_10 : decode cX12_feed 10 = .ok (.iaload, 1) := by decide +kernel
theorem yt_X12_feed_11 : decode cX12_feed 11 = .ok (.bipush 20, 2) := by decide +kernel
theorem yt_X12_feed_13 : decode cX12_feed 13 = .ok (.iadd, 1) := by decide +kernel
theorem yt_X12_feed_14 : decode cX12_feed 14 = .ok (.sipush 600, 3) := by decide +kernel
theorem yt_X12_feed_17 : decode cX12_feed 17 = .ok (.if_icmp .le 5, 3) := by decide +kernel
theorem yt_X12_feed_22 : decode cX12_feed 22 = .ok (.aload_n 0, 1) := by decide +kernel
theorem yt_X12_feed_23 : decode cX12_feed 23 = .ok (.iload_n 1, 1) := by decide +kernel
theorem yt_X12_feed_24 : decode cX12_feed 24 = .ok (.invokevirtual 133, 3) := by decide +kernel
theorem yl_RX12_133 : Cond.methodLink RX12 133 yX12_four ∈ zTW := zTin 1497 (by decide +kernel) rfl
theorem yt_X12_feed_27 : decode cX12_feed 27 = .ok (.aload_n 0, 1) := by decide +kernel
theorem yt_X12_feed_28 : decode cX12_feed 28 = .ok (.iload_n 2, 1) := by decide +kernel
theorem yt_X12_feed_29 : decode cX12_feed 29 = .ok (.invokevirtual 133, 3) := by decide +kernel
theorem yt_X12_feed_32 : decode cX12_feed 32 = .ok (.aload_n 0, 1) := by decide +kernel
theorem yt_X12_feed_33 : decode cX12_feed 33 = .ok (.iload_n 3, 1) := by decide +kernel
theorem yt_X12_feed_34 : decode cX12_feed 34 = .ok (.invokevirtual 133, 3) := by decide +kernel
theorem yt_X12_feed_37 : decode cX12_feed 37 = .ok (.aload_n 0, 1) := by decide +kernel
theorem yt_X12_feed_38 : decode cX12_feed 38 = .ok (.iload 4, 2) := by decide +kernel
theorem yt_X12_feed_40 : decode cX12_feed 40 = .ok (.invokevirtual 133, 3) := by decide +kernel
theorem yt_X12_feed_43 : decode cX12_feed 43 = .ok (.aload_n 0, 1) := by decide +kernel
theorem yt_X12_feed_44 : decode cX12_feed 44 = .ok (.iload 5, 2) := by decide +kernel
theorem yt_X12_feed_46 : decode cX12_feed 46 = .ok (.invokevirtual 133, 3) := by decide +kernel
theorem yt_X12_feed_49 : decode cX12_feed 49 = .ok (.aload_n 0, 1) := by decide +kernel
theorem yt_X12_feed_50 : decode cX12_feed 50 = .ok (.getfield 13, 3) := by decide +kernel
theorem yt_X12_feed_53 : decode cX12_feed 53 = .ok (.iconst 0, 1) := by decide +kernel
theorem yt_X12_feed_54 : decode cX12_feed 54 = .ok (.iaload, 1) := by decide +kernel
theorem yt_X12_feed_55 : decode cX12_feed 55 = .ok (.ireturn, 1) := by decide +kernel
theorem yt_X12_feed_20 : decode cX12_feed 20 = .ok (.iconst (-1), 1) := by decide +kernel
theorem yt_X12_feed_21 : decode cX12_feed 21 = .ok (.ireturn, 1) := by decide +kernel
def xp_X12_feed (n : Nat) : yX := (xLd 0 100037 (xCst 0 0 (xPut0 35 0 0 (xLd 0 100037 (xGetC 35 2 1 1 (xCst 0 0 (xAld 1 4 (xCst 0 20 (xAdd (xCst 0 600 (xGt (xCst 0 (-1) xRi) (xLd 0 100037 (xLd 1 0 (xCalV 2 [100037, 0] (f_X12_four n) (xLd 0 100037 (xLd 2 0 (xCalV 2 [100037, 0] (f_X12_four n) (xLd 0 100037 (xLd 3 0 (xCalV 2 [100037, 0] (f_X12_four n) (xLd 0 100037 (xLd 4 0 (xCalV 2 [100037, 0] (f_X12_four n) (xLd 0 100037 (xLd 5 0 (xCalV 2 [100037, 0] (f_X12_four n) (xLd 0 100037 (xGetC 35 2 1 1 (xCst 0 0 (xAld 1 4 xRi))))))))))))))))))))))))))))))
theorem s_X12_feed {η : zRn} {D : va_G} {cy : Nat → ClassId} {L : List Nat} {Θ : Nat → Option Nat} {p : Program} {l : Launch} {e : Env} {R : Room} {s : State} {m : MethodId} {args : Array Value} {below : List Frame} {meth : Method} {c : Code} {Q : State → Prop} {Qr : yQt} {n : Nat} (Z : yCz η zkdm D vwCl cy L Θ 6 p l e R s m args below meth c Q cX12_feed (tyW cy) RX12 zTW zKPr tyW (some .int) 1 22 Qr) : yGo η zkdm D vwCl cy L Θ 6 p l e R s m args below meth c Q 0 (xw Qr 0 (xp_X12_feed n)) := (yr_mono x_ld (yr_aload_n Z.1 rfl (by decide) yt_X12_feed_0 (yr_mono x_cst (yr_iconst Z.1 yt_X12_feed_1 (by decide) (yr_mono x_put0 (yr_put0 (lo := (-2147483648)) (hi := 2147483647) Z.1 yf_RX12_117 (by decide +kernel) (Or.inl ⟨rfl, rfl, rfl⟩) (by decide) yt_X12_feed_2 (yr_mono x_ld (yr_aload_n Z.1 rfl (by decide) yt_X12_feed_5 (yr_mono x_getc (yr_getP (lo := 0) (hi := 2147483647) Z.1 yf_RX12_13 (by decide +kernel) yt_X12_feed_6 (yr_mono x_cst (yr_iconst Z.1 yt_X12_feed_9 (by decide) (yr_mono x_ald (yr_iald (lo := 0) (hi := 600) Z.1 (by decide +kernel) yt_X12_feed_10 (yr_mono x_cst (yr_bipush Z.1 yt_X12_feed_11 (by decide) (yr_mono x_add (yr_add Z.1 yt_X12_feed_13 (yr_mono x_cst (yr_sipush Z.1 yt_X12_feed_14 (by decide) (yr_mono x_gt (yr_le Z.1 yt_X12_feed_17 (by decide) (yr_mono x_ld (yr_aload_n Z.1 rfl (by decide) yt_X12_feed_22 (yr_mono x_ld (yr_iload_n Z.1 rfl yt_X12_feed_23 (yr_mono x_calV (yr_calV rfl (y_hrunV Z (y := (yX12_four, cX12_four, 3, none)) (m_X12_four l) (ycv_of yw_X12_four 133 yt_X12_feed_24 yl_RX12_133 rfl (by decide) (by decide) ⟨35, _, _, _, _, rfl, zkdm_35, rfl, rfl⟩)) (yr_mono x_ld (yr_aload_n Z.1 rfl (by decide) yt_X12_feed_27 (yr_mono x_ld (yr_iload_n Z.1 rfl yt_X12_feed_28 (yr_mono x_calV (yr_calV rfl (y_hrunV Z (y := (yX12_four, cX12_four, 3, none)) (m_X12_four l) (ycv_of yw_X12_four 133 yt_X12_feed_29 yl_RX12_133 rfl (by decide) (by decide) ⟨35, _, _, _, _, rfl, zkdm_35, rfl, rfl⟩)) (yr_mono x_ld (yr_aload_n Z.1 rfl (by decide) yt_X12_feed_32 (yr_mono x_ld (yr_iload_n Z.1 rfl yt_X12_feed_33 (yr_mono x_calV (yr_calV rfl (y_hrunV Z (y := (yX12_four, cX12_four, 3, none)) (m_X12_four l) (ycv_of yw_X12_four 133 yt_X12_feed_34 yl_RX12_133 rfl (by decide) (by decide) ⟨35, _, _, _, _, rfl, zkdm_35, rfl, rfl⟩)) (yr_mono x_ld (yr_aload_n Z.1 rfl (by decide) yt_X12_feed_37 (yr_mono x_ld (yr_iload Z.1 yt_X12_feed_38 (yr_mono x_calV (yr_calV rfl (y_hrunV Z (y := (yX12_four, cX12_four, 3, none)) (m_X12_four l) (ycv_of yw_X12_four 133 yt_X12_feed_40 yl_RX12_133 rfl (by decide) (by decide) ⟨35, _, _, _, _, rfl, zkdm_35, rfl, rfl⟩)) (yr_mono x_ld (yr_aload_n Z.1 rfl (by decide) yt_X12_feed_43 (yr_mono x_ld (yr_iload Z.1 yt_X12_feed_44 (yr_mono x_calV (yr_calV rfl (y_hrunV Z (y := (yX12_four, cX12_four, 3, none)) (m_X12_four l) (ycv_of yw_X12_four 133 yt_X12_feed_46 yl_RX12_133 rfl (by decide) (by decide) ⟨35, _, _, _, _, rfl, zkdm_35, rfl, rfl⟩)) (yr_mono x_ld (yr_aload_n Z.1 rfl (by decide) yt_X12_feed_49 (yr_mono x_getc (yr_getP (lo := 0) (hi := 2147483647) Z.1 yf_RX12_13 (by decide +kernel) yt_X12_feed_50 (yr_mono x_cst (yr_iconst Z.1 yt_X12_feed_53 (by decide) (yr_mono x_ald (yr_iald (lo := 0) (hi := 600) Z.1 (by decide +kernel) yt_X12_feed_54 (yr_mono x_ri (yr_ri Z rfl yt_X12_feed_55)))))))))))))))))))))))))))))))))))))))) (yr_mono x_cst (yr_iconst Z.1 yt_X12_feed_20 (by decide) (yr_mono x_ri (yr_ri Z rfl yt_X12_feed_21))))))))))))))))))))))))))
def f_X12_feed : yFn := fun n ys h => (fun n => xp_X12_feed n) n (yar 0 ([100037, 0, 0, 0, 0, 0].zip ys)) [] h
theorem m_X12_feed (l : Launch) : yMet zkdm vwCl zTW zKPr l (yX12_feed, cX12_feed, 6, (some .int)) 1 22 [100037, 0, 0, 0, 0, 0] (yF 0 f_X12_feed) := y_metF zkpr_ok zTW_good (yX12_feed, cX12_feed, 6, (some .int)) 1 22 [100037, 0, 0, 0, 0, 0] 0 (fun n => xp_X12_feed n) (by decide +kernel) (by decide) (fun η D cy L Θ p e R s m args below meth c Q Qr n Z => s_X12_feed (n := n) Z)
set_option maxRecDepth 100000 in
theorem e_X12_feed {n : Nat} {x1 x2 x3 x4 x5 : Int} {h : yH} : f_X12_feed n [35, x1, x2, x3, x4, x5] h = xg (h 35 2 = 1) (xg (-2147483648 ≤ (h 1 0) + 20 ∧ (h 1 0) + 20 ≤ 2147483647) (if 600 < ((h 1 0) + 20) then (some ((-1), zup h 35 0 0)) else (xb (f_X12_four n [35, x1] (zup h 35 0 0)) (fun _ h1 => xb (f_X12_four n [35, x2] h1) (fun _ h2 => xb (f_X12_four n [35, x3] h2) (fun _ h3 => xb (f_X12_four n [35, x4] h3) (fun _ h4 => xb (f_X12_four n [35, x5] h4) (fun _ h5 => xg (h5 35 2 = 1) (some ((h5 1 0), h5)))))))))) := Eq.trans rfl rfl
set_option maxRecDepth 100000 in
theorem yq_X12_end : lw_tbl[1504]? = some (.code yX12_end cX12_end 2 (some .int)) := rfl
theorem yw_X12_end : zMV yX12_end cX12_end 2 (some .int) 1 := ⟨⟨zTin 113 (by decide +kernel) rfl, zTin 1504 yq_X12_end rfl, ⟨by decide, by decide⟩, by decide +kernel⟩, zTin 1502 (by decide +kernel) rfl, zTin 1503 (by decide +kernel) rfl⟩
theorem yt_X12_end_0 : decode cX12_end 0 = .ok (.aload_n 0, 1) := by decide +kernel
theorem yt_X12_end_1 : decode cX12_end 1 = .ok (.iconst 0, 1) := by decide +kernel
theorem yt_X12_end_2 : decode cX12_end 2 = .ok (.putfield 117, 3) := by decide +kernel
theorem yt_X12_end_5 : decode cX12_end 5 = .ok (.iload_n 1, 1) := by decide +kernel
theorem yt_X12_end_6 : decode cX12_end 6 = .ok (.iconst 0, 1) := by decide +kernel
theorem yt_X12_end_7 : decode cX12_end 7 = .ok (.aload_n 0, 1) := by decide +kernel
theorem yt_X12_end_8 : decode cX12_end 8 = .ok (.getfield 13, 3) := by decide +kernel
theorem yt_X12_end_11 : decode cX12_end 11 = .ok (.iconst 0, 1) := by decide +kernel
theorem yt_X12_end_12 : decode cX12_end 12 = .ok (.iaload, 1) := by decide +kernel
theorem yt_X12_end_13 : decode cX12_end 13 = .ok (.invokestatic 129, 3) := by decide +kernel
theorem yt_X12_end_16 : decode cX12_end 16 = .ok (.ifCond .ne 5, 3) := by decide +kernel
theorem yt_X12_end_21 : decode cX12_end 21 = .ok (.aload_n 0, 1) := by decide +kernel
theorem yt_X12_end_22 : decode cX12_end 22 = .ok (.getfield 13, 3) := by decide +kernel
theorem yt_X12_end_25 : decode cX12_end 25 = .ok (.iconst 0, 1) := by decide +kernel
theorem yt_X12_end_26 : decode cX12_end 26 = .ok (.iload_n 1, 1) := by decide +kernel
theorem yt_X12_end_27 : decode cX12_end 27 = .ok (.iastore, 1) := by decide +kernel
theorem yt_X12_end_28 : decode cX12_end 28 = .ok (.iload_n 1, 1) := by decide +kernel
theorem yt_X12_end_29 : decode cX12_end 29 = .ok (.ireturn, 1) := by decide +kernel
theorem yt_X12_end_19 : decode cX12_end 19 = .ok (.iconst (-1), 1) := by decide +kernel
theorem yt_X12_end_20 : decode cX12_end 20 = .ok (.ireturn, 1) := by decide +kernel
def xp_X12_end (n : Nat) : yX := (xLd 0 100037 (xCst 0 0 (xPut0 35 0 0 (xLd 1 0 (xCst 0 0 (xLd 0 100037 (xGetC 35 2 1 1 (xCst 0 0 (xAld 1 4 (xCalR 3 [0, 0, 0] 0 (f_X12_in n) (xEq0 (xCst 0 (-1) xRi) (xLd 0 100037 (xGetC 35 2 1 1 (xCst 0 0 (xLd 1 0 (xAst 1 4 (fun _ => 0) (fun _ => 600) (xLd 1 0 xRi)))))))))))))))))
theorem s_X12_end {η : zRn} {D : va_G} {cy : Nat → ClassId} {L : List Nat} {Θ : Nat → Option Nat} {p : Program} {l : Launch} {e : Env} {R : Room} {s : State} {m : MethodId} {args : Array Value} {below : List Frame} {meth : Method} {c : Code} {Q : State → Prop} {Qr : yQt} {n : Nat} (Z : yCz η zkdm D vwCl cy L Θ 2 p l e R s m args below meth c Q cX12_end (tyW cy) RX12 zTW zKPr tyW (some .int) 1 22 Qr) : yGo η zkdm D vwCl cy L Θ 2 p l e R s m args below meth c Q 0 (xw Qr 0 (xp_X12_end n)) := (yr_mono x_ld (yr_aload_n Z.1 rfl (by decide) yt_X12_end_0 (yr_mono x_cst (yr_iconst Z.1 yt_X12_end_1 (by decide) (yr_mono x_put0 (yr_put0 (lo := (-2147483648)) (hi := 2147483647) Z.1 yf_RX12_117 (by decide +kernel) (Or.inl ⟨rfl, rfl, rfl⟩) (by decide) yt_X12_end_2 (yr_mono x_ld (yr_iload_n Z.1 rfl yt_X12_end_5 (yr_mono x_cst (yr_iconst Z.1 yt_X12_end_6 (by decide) (yr_mono x_ld (yr_aload_n Z.1 rfl (by decide) yt_X12_end_7 (yr_mono x_getc (yr_getP (lo := 0) (hi := 2147483647) Z.1 yf_RX12_13 (by decide +kernel) yt_X12_end_8 (yr_mono x_cst (yr_iconst Z.1 yt_X12_end_11 (by decide) (yr_mono x_ald (yr_iald (lo := 0) (hi := 600) Z.1 (by decide +kernel) yt_X12_end_12 (yr_mono x_calR (yr_calR rfl (y_hrunS Z (y := (yX12_in, cX12_in, 3, (some .boolean))) (m_X12_in l) (ycs_of yw_X12_in 129 yt_X12_end_13 yl_RX12_129 rfl (by decide) (by decide))) (yr_mono x_eq0 (yr_ne0 Z.1 yt_X12_end_16 (by decide) (yr_mono x_ld (yr_aload_n Z.1 rfl (by decide) yt_X12_end_21 (yr_mono x_getc (yr_getP (lo := 0) (hi := 2147483647) Z.1 yf_RX12_13 (by decide +kernel) yt_X12_end_22 (yr_mono x_cst (yr_iconst Z.1 yt_X12_end_25 (by decide) (yr_mono x_ld (yr_iload_n Z.1 rfl yt_X12_end_26 (yr_mono x_ast (yr_iast (lo := 0) (hi := 600) Z.1 (by decide +kernel) yt_X12_end_27 (yr_mono x_ld (yr_iload_n Z.1 rfl yt_X12_end_28 (yr_mono x_ri (yr_ri Z rfl yt_X12_end_29)))))))))))))) (yr_mono x_cst (yr_iconst Z.1 yt_X12_end_19 (by decide) (yr_mono x_ri (yr_ri Z rfl yt_X12_end_20))))))))))))))))))))))))))
def f_X12_end : yFn := fun n ys h => (fun n => xp_X12_end n) n (yar 0 ([100037, 0].zip ys)) [] h
theorem m_X12_end (l : Launch) : yMet zkdm vwCl zTW zKPr l (yX12_end, cX12_end, 2, (some .int)) 1 22 [100037, 0] (yF 0 f_X12_end) := y_metF zkpr_ok zTW_good (yX12_end, cX12_end, 2, (some .int)) 1 22 [100037, 0] 0 (fun n => xp_X12_end n) (by decide +kernel) (by decide) (fun η D cy L Θ p e R s m args below meth c Q Qr n Z => s_X12_end (n := n) Z)
set_option maxRecDepth 100000 in
theorem e_X12_end {n : Nat} {x1 : Int} {h : yH} : f_X12_end n [35, x1] h = xg (h 35 2 = 1) (xb (f_X12_in n [x1, 0, (h 1 0)] (zup h 35 0 0)) (fun v1 h1 => if v1 = 0 then (some ((-1), h1)) else (xg (h1 35 2 = 1) (xg (0 ≤ x1 ∧ x1 ≤ 600) (some (x1, zup h1 1 0 x1)))))) := Eq.trans rfl rfl
set_option maxRecDepth 100000 in
theorem yq_X12_count : lw_tbl[1922]? = some (.code yX12_count cX12_count 2 (some .int)) := rfl
theorem yw_X12_count : zMV yX12_count cX12_count 2 (some .int) 1 := ⟨⟨zTin 113 (by decide +kernel) rfl, zTin 1922 yq_X12_count rfl, ⟨by decide, by decide⟩, by decide +kernel⟩, zTin 1920 (by decide +kernel) rfl, zTin 1921 (by decide +kernel) rfl⟩
theorem yt_X12_count_0 : decode cX12_count 0 = .ok (.aload_n 0, 1) := by decide +kernel
theorem yt_X12_count_1 : decode cX12_count 1 = .ok (.iconst 0, 1) := by decide +kernel
theorem yt_X12_count_2 : decode cX12_count 2 = .ok (.putfield 117, 3) := by decide +kernel
theorem yt_X12_count_5 : decode cX12_count 5 = .ok (.iload_n 1, 1) := by decide +kernel
theorem yt_X12_count_6 : decode cX12_count 6 = .ok (.iconst 0, 1) := by decide +kernel
theorem yt_X12_count_7 : decode cX12_count 7 = .ok (.iconst 2, 1) := by decide +kernel
theorem yt_X12_count_8 : decode cX12_count 8 = .ok (.invokestatic 129, 3) := by decide +kernel
theorem yt_X12_count_11 : decode cX12_count 11 = .ok (.ifCond .eq 12, 3) := by decide +kernel
theorem yt_X12_count_23 : decode cX12_count 23 = .ok (.bipush (-2), 2) := by decide +kernel
theorem yt_X12_count_25 : decode cX12_count 25 = .ok (.ireturn, 1) := by decide +kernel
theorem yt_X12_count_14 : decode cX12_count 14 = .ok (.aload_n 0, 1) := by decide +kernel
theorem yt_X12_count_15 : decode cX12_count 15 = .ok (.getfield 23, 3) := by decide +kernel
theorem yt_X12_count_18 : decode cX12_count 18 = .ok (.iload_n 1, 1) := by decide +kernel
theorem yt_X12_count_19 : decode cX12_count 19 = .ok (.iaload, 1) := by decide +kernel
theorem yt_X12_count_20 : decode cX12_count 20 = .ok (.goto 5, 3) := by decide +kernel
def xp_X12_count (n : Nat) : yX := (xLd 0 100037 (xCst 0 0 (xPut0 35 0 0 (xLd 1 0 (xCst 0 0 (xCst 0 2 (xCalR 3 [0, 0, 0] 0 (f_X12_in n) (xEq0 (xCst 0 (-2) xRi) (xLd 0 100037 (xGetC 35 5 4 4 (xLd 1 0 (xAld 4 12 xRi))))))))))))
theorem s_X12_count {η : zRn} {D : va_G} {cy : Nat → ClassId} {L : List Nat} {Θ : Nat → Option Nat} {p : Program} {l : Launch} {e : Env} {R : Room} {s : State} {m : MethodId} {args : Array Value} {below : List Frame} {meth : Method} {c : Code} {Q : State → Prop} {Qr : yQt} {n : Nat} (Z : yCz η zkdm D vwCl cy L Θ 2 p l e R s m args below meth c Q cX12_count (tyW cy) RX12 zTW zKPr tyW (some .int) 1 22 Qr) : yGo η zkdm D vwCl cy L Θ 2 p l e R s m args below meth c Q 0 (xw Qr 0 (xp_X12_count n)) := (yr_mono x_ld (yr_aload_n Z.1 rfl (by decide) yt_X12_count_0 (yr_mono x_cst (yr_iconst Z.1 yt_X12_count_1 (by decide) (yr_mono x_put0 (yr_put0 (lo := (-2147483648)) (hi := 2147483647) Z.1 yf_RX12_117 (by decide +kernel) (Or.inl ⟨rfl, rfl, rfl⟩) (by decide) yt_X12_count_2 (yr_mono x_ld (yr_iload_n Z.1 rfl yt_X12_count_5 (yr_mono x_cst (yr_iconst Z.1 yt_X12_count_6 (by decide) (yr_mono x_cst (yr_iconst Z.1 yt_X12_count_7 (by decide) (yr_mono x_calR (yr_calR rfl (y_hrunS Z (y := (yX12_in, cX12_in, 3, (some .boolean))) (m_X12_in l) (ycs_of yw_X12_in 129 yt_X12_count_8 yl_RX12_129 rfl (by decide) (by decide))) (yr_mono x_eq0 (yr_eq0 Z.1 yt_X12_count_11 (by decide) (yr_mono x_cst (yr_bipush Z.1 yt_X12_count_23 (by decide) (yr_mono x_ri (yr_ri Z rfl yt_X12_count_25)))) (yr_mono x_ld (yr_aload_n Z.1 rfl (by decide) yt_X12_count_14 (yr_mono x_getc (yr_getP (lo := 0) (hi := 2147483647) Z.1 yf_RX12_23 (by decide +kernel) yt_X12_count_15 (yr_mono x_ld (yr_iload_n Z.1 rfl yt_X12_count_18 (yr_mono x_ald (yr_iald (lo := 0) (hi := 2) Z.1 (by decide +kernel) yt_X12_count_19 (yr_goto Z.1 yt_X12_count_20 (by decide) (yr_mono x_ri (yr_ri Z rfl yt_X12_count_25)))))))))))))))))))))))))))
def f_X12_count : yFn := fun n ys h => (fun n => xp_X12_count n) n (yar 0 ([100037, 0].zip ys)) [] h
theorem m_X12_count (l : Launch) : yMet zkdm vwCl zTW zKPr l (yX12_count, cX12_count, 2, (some .int)) 1 22 [100037, 0] (yF 0 f_X12_count) := y_metF zkpr_ok zTW_good (yX12_count, cX12_count, 2, (some .int)) 1 22 [100037, 0] 0 (fun n => xp_X12_count n) (by decide +kernel) (by decide) (fun η D cy L Θ p e R s m args below meth c Q Qr n Z => s_X12_count (n := n) Z)
set_option maxRecDepth 100000 in
theorem e_X12_count {n : Nat} {x1 : Int} {h : yH} : f_X12_count n [35, x1] h = xb (f_X12_in n [x1, 0, 2] (zup h 35 0 0)) (fun v1 h1 => if v1 = 0 then (some ((-2), h1)) else (xg (h1 35 5 = 4) (xg (0 ≤ x1 ∧ x1 < 12) (some ((h1 4 x1.toNat), h1))))) := Eq.trans rfl rfl
set_option maxRecDepth 100000 in
theorem yq_X12_fault : lw_tbl[1616]? = some (.code yX12_fault cX12_fault 2 (some .int)) := rfl
theorem yw_X12_fault : zMV yX12_fault cX12_fault 2 (some .int) 1 := ⟨⟨zTin 113 (by decide +kernel) rfl, zTin 1616 yq_X12_fault rfl, ⟨by decide, by decide⟩, by decide +kernel⟩, zTin 1614 (by decide +kernel) rfl, zTin 1615 (by decide +kernel) rfl⟩
theorem yt_X12_fault_0 : decode cX12_fault 0 = .ok (.aload_n 0, 1) := by decide +kernel
theorem yt_X12_fault_1 : decode cX12_fault 1 = .ok (.iconst 0, 1) := by decide +kernel
theorem yt_X12_fault_2 : decode cX12_fault 2 = .ok (.putfield 117, 3) := by decide +kernel
theorem yt_X12_fault_5 : decode cX12_fault 5 = .ok (.iload_n 1, 1) := by decide +kernel
theorem yt_X12_fault_6 : decode cX12_fault 6 = .ok (.ifCond .ne 12, 3) := by decide +kernel
theorem yt_X12_fault_18 : decode cX12_fault 18 = .ok (.iload_n 1, 1) := by decide +kernel
theorem yt_X12_fault_19 : decode cX12_fault 19 = .ok (.iconst 1, 1) := by decide +kernel
theorem yt_X12_fault_20 : decode cX12_fault 20 = .ok (.if_icmp .ne 12, 3) := by decide +kernel
theorem yt_X12_fault_32 : decode cX12_fault 32 = .ok (.iconst (-1), 1) := by decide +kernel
theorem yt_X12_fault_33 : decode cX12_fault 33 = .ok (.ireturn, 1) := by decide +kernel
theorem yt_X12_fault_23 : decode cX12_fault 23 = .ok (.aload_n 0, 1) := by decide +kernel
theorem yt_X12_fault_24 : decode cX12_fault 24 = .ok (.getfield 20, 3) := by decide +kernel
theorem yt_X12_fault_27 : decode cX12_fault 27 = .ok (.iconst 0, 1) := by decide +kernel
theorem yt_X12_fault_28 : decode cX12_fault 28 = .ok (.iaload, 1) := by decide +kernel
theorem yt_X12_fault_29 : decode cX12_fault 29 = .ok (.goto 4, 3) := by decide +kernel
theorem yt_X12_fault_9 : decode cX12_fault 9 = .ok (.aload_n 0, 1) := by decide +kernel
theorem yt_X12_fault_10 : decode cX12_fault 10 = .ok (.getfield 17, 3) := by decide +kernel
theorem yt_X12_fault_13 : decode cX12_fault 13 = .ok (.iconst 0, 1) := by decide +kernel
theorem yt_X12_fault_14 : decode cX12_fault 14 = .ok (.iaload, 1) := by decide +kernel
theorem yt_X12_fault_15 : decode cX12_fault 15 = .ok (.goto 18, 3) := by decide +kernel
def xp_X12_fault (n : Nat) : yX := (xLd 0 100037 (xCst 0 0 (xPut0 35 0 0 (xLd 1 0 (xEq0 (xLd 0 100037 (xGetC 35 3 2 2 (xCst 0 0 (xAld 2 4 xRi)))) (xLd 1 0 (xCst 0 1 (xEq (xLd 0 100037 (xGetC 35 4 3 3 (xCst 0 0 (xAld 3 4 xRi)))) (xCst 0 (-1) xRi)))))))))
theorem s_X12_fault {η : zRn} {D : va_G} {cy : Nat → ClassId} {L : List Nat} {Θ : Nat → Option Nat} {p : Program} {l : Launch} {e : Env} {R : Room} {s : State} {m : MethodId} {args : Array Value} {below : List Frame} {meth : Method} {c : Code} {Q : State → Prop} {Qr : yQt} {n : Nat} (Z : yCz η zkdm D vwCl cy L Θ 2 p l e R s m args below meth c Q cX12_fault (tyW cy) RX12 zTW zKPr tyW (some .int) 0 0 Qr) : yGo η zkdm D vwCl cy L Θ 2 p l e R s m args below meth c Q 0 (xw Qr 0 (xp_X12_fault n)) := (yr_mono x_ld (yr_aload_n Z.1 rfl (by decide) yt_X12_fault_0 (yr_mono x_cst (yr_iconst Z.1 yt_X12_fault_1 (by decide) (yr_mono x_put0 (yr_put0 (lo := (-2147483648)) (hi := 2147483647) Z.1 yf_RX12_117 (by decide +kernel) (Or.inl ⟨rfl, rfl, rfl⟩) (by decide) yt_X12_fault_2 (yr_mono x_ld (yr_iload_n Z.1 rfl yt_X12_fault_5 (yr_mono x_eq0 (yr_ne0 Z.1 yt_X12_fault_6 (by decide) (yr_mono x_ld (yr_iload_n Z.1 rfl yt_X12_fault_18 (yr_mono x_cst (yr_iconst Z.1 yt_X12_fault_19 (by decide) (yr_mono x_eq (yr_ne Z.1 yt_X12_fault_20 (by decide) (yr_mono x_cst (yr_iconst Z.1 yt_X12_fault_32 (by decide) (yr_mono x_ri (yr_ri Z rfl yt_X12_fault_33)))) (yr_mono x_ld (yr_aload_n Z.1 rfl (by decide) yt_X12_fault_23 (yr_mono x_getc (yr_getP (lo := 0) (hi := 2147483647) Z.1 yf_RX12_20 (by decide +kernel) yt_X12_fault_24 (yr_mono x_cst (yr_iconst Z.1 yt_X12_fault_27 (by decide) (yr_mono x_ald (yr_iald (lo := (-2147483648)) (hi := 2147483647) Z.1 (by decide +kernel) yt_X12_fault_28 (yr_goto Z.1 yt_X12_fault_29 (by decide) (yr_mono x_ri (yr_ri Z rfl yt_X12_fault_33))))))))))))))))) (yr_mono x_ld (yr_aload_n Z.1 rfl (by decide) yt_X12_fault_9 (yr_mono x_getc (yr_getP (lo := 0) (hi := 2147483647) Z.1 yf_RX12_17 (by decide +kernel) yt_X12_fault_10 (yr_mono x_cst (yr_iconst Z.1 yt_X12_fault_13 (by decide) (yr_mono x_ald (yr_iald (lo := (-2147483648)) (hi := 2147483647) Z.1 (by decide +kernel) yt_X12_fault_14 (yr_goto Z.1 yt_X12_fault_15 (by decide) (yr_mono x_ri (yr_ri Z rfl yt_X12_fault_33)))))))))))))))))))))
def f_X12_fault : yFn := fun n ys h => (fun n => xp_X12_fault n) n (yar 0 ([100037, 0].zip ys)) [] h
theorem m_X12_fault (l : Launch) : yMet zkdm vwCl zTW zKPr l (yX12_fault, cX12_fault, 2, (some .int)) 0 0 [100037, 0] (yF 0 f_X12_fault) := y_metF zkpr_ok zTW_good (yX12_fault, cX12_fault, 2, (some .int)) 0 0 [100037, 0] 0 (fun n => xp_X12_fault n) (by decide +kernel) (by decide) (fun η D cy L Θ p e R s m args below meth c Q Qr n Z => s_X12_fault (n := n) Z)
set_option maxRecDepth 100000 in
theorem e_X12_fault {n : Nat} {x1 : Int} {h : yH} : f_X12_fault n [35, x1] h = if x1 = 0 then (xg (h 35 3 = 2) (some ((h 2 0), zup h 35 0 0))) else (if x1 = 1 then (xg (h 35 4 = 3) (some ((h 3 0), zup h 35 0 0))) else (some ((-1), zup h 35 0 0))) := Eq.trans rfl rfl
