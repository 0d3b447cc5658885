section
set_option maxRecDepth 100000 in
theorem yq_X12_shoalsFrom : lw_tbl[1823]? = some (.code yX12_shoalsFrom cX12_shoalsFrom 4 (some .int)) := rfl
theorem yw_X12_shoalsFrom : zMV yX12_shoalsFrom cX12_shoalsFrom 4 (some .int) 1 := ⟨⟨zTin 113 (by decide +kernel) rfl, zTin 1823 yq_X12_shoalsFrom rfl, ⟨by decide, by decide⟩, by decide +kernel⟩, zTin 1822 (by decide +kernel) rfl, zTin 85 (by decide +kernel) rfl⟩
theorem yt_X12_shoalsFrom_4 : decode cX12_shoalsFrom 4 = .ok (.iload_n 3, 1) := by decide +kernel
theorem yt_X12_shoalsFrom_5 : decode cX12_shoalsFrom 5 = .ok (.aload_n 0, 1) := by decide +kernel
theorem yt_X12_shoalsFrom_6 : decode cX12_shoalsFrom 6 = .ok (.getfield 354, 3) := by decide +kernel
theorem yt_X12_shoalsFrom_9 : decode cX12_shoalsFrom 9 = .ok (.if_icmp .ge 34, 3) := by decide +kernel
theorem yt_X12_shoalsFrom_43 : decode cX12_shoalsFrom 43 = .ok (.iload_n 2, 1) := by decide +kernel
theorem yt_X12_shoalsFrom_44 : decode cX12_shoalsFrom 44 = .ok (.ireturn, 1) := by decide +kernel
theorem yt_X12_shoalsFrom_12 : decode cX12_shoalsFrom 12 = .ok (.iload_n 2, 1) := by decide +kernel
theorem yt_X12_shoalsFrom_13 : decode cX12_shoalsFrom 13 = .ok (.aload_n 0, 1) := by decide +kernel
theorem yt_X12_shoalsFrom_14 : decode cX12_shoalsFrom 14 = .ok (.iload_n 1, 1) := by decide +kernel
theorem yt_X12_shoalsFrom_15 : decode cX12_shoalsFrom 15 = .ok (.aload_n 0, 1) := by decide +kernel
theorem yt_X12_shoalsFrom_16 : decode cX12_shoalsFrom 16 = .ok (.getfield 41, 3) := by decide +kernel
theorem yt_X12_shoalsFrom_19 : decode cX12_shoalsFrom 19 = .ok (.iload_n 1, 1) := by decide +kernel
theorem yt_X12_shoalsFrom_20 : decode cX12_shoalsFrom 20 = .ok (.iaload, 1) := by decide +kernel
theorem yt_X12_shoalsFrom_21 : decode cX12_shoalsFrom 21 = .ok (.iload_n 3, 1) := by decide +kernel
theorem yt_X12_shoalsFrom_22 : decode cX12_shoalsFrom 22 = .ok (.invokevirtual 418, 3) := by decide +kernel
theorem yt_X12_shoalsFrom_25 : decode cX12_shoalsFrom 25 = .ok (.ifCond .eq 9, 3) := by decide +kernel
theorem yt_X12_shoalsFrom_34 : decode cX12_shoalsFrom 34 = .ok (.iconst 0, 1) := by decide +kernel
theorem yt_X12_shoalsFrom_35 : decode cX12_shoalsFrom 35 = .ok (.ior, 1) := by decide +kernel
theorem yt_X12_shoalsFrom_36 : decode cX12_shoalsFrom 36 = .ok (.istore_n 2, 1) := by decide +kernel
theorem yt_X12_shoalsFrom_37 : decode cX12_shoalsFrom 37 = .ok (.iinc 3 1, 3) := by decide +kernel
theorem yt_X12_shoalsFrom_40 : decode cX12_shoalsFrom 40 = .ok (.goto (-36), 3) := by decide +kernel
theorem yt_X12_shoalsFrom_28 : decode cX12_shoalsFrom 28 = .ok (.iconst 1, 1) := by decide +kernel
theorem yt_X12_shoalsFrom_29 : decode cX12_shoalsFrom 29 = .ok (.iload_n 3, 1) := by decide +kernel
theorem yt_X12_shoalsFrom_30 : decode cX12_shoalsFrom 30 = .ok (.ishl, 1) := by decide +kernel
theorem yt_X12_shoalsFrom_31 : decode cX12_shoalsFrom 31 = .ok (.goto 4, 3) := by decide +kernel
def xq_X12_shoalsFrom_4 (n : Nat) (K : Nat → yK) : yK := xE [(0, 100037), (1, 0), (2, 0), (3, 0)] [] (xLd 3 0 (xLd 0 100037 (xGet 35 35 0 (xLt (xLd 2 0 (xLd 0 100037 (xLd 1 0 (xLd 0 100037 (xGetC 35 30 10 10 (xLd 1 0 (xAld 10 6 (xLd 3 0 (xCalR 4 [100037, 0, 0, 0] 0 (f_X12_couldFrom n) (xEq0 (xCst 0 0 (xAri 8 (xSt 2 0 (xInc 3 1 (xJ [(0, 100037), (1, 0), (2, 0), (3, 0)] [] (K 4)))))) (xCst 0 1 (xLd 3 0 (xAri 5 (xAri 8 (xSt 2 0 (xInc 3 1 (xJ [(0, 100037), (1, 0), (2, 0), (3, 0)] [] (K 4)))))))))))))))))) (xLd 2 0 xRi)))))
theorem s_X12_shoalsFrom_4 {η : zRn} {D : va_G} {cy : Nat → ClassId} {L : List Nat} {Θ : Nat → Option Nat} {p : Program} {l : Launch} {e : Env} {R : Room} {s : State} {m : MethodId} {args : Array Value} {below : List Frame} {meth : Method} {c : Code} {Q : State → Prop} {Qr : yQt} {n : Nat} {K : Nat → yK} (Z : yCz η zkdm D vwCl cy L Θ 4 p l e R s m args below meth c Q cX12_shoalsFrom (tyW cy) RX12 zTW zKPr tyW (some .int) 6 139 Qr) (hI4 : yGo η zkdm D vwCl cy L Θ 4 p l e R s m args below meth c Q 4 (xw Qr 0 (xJ [(0, 100037), (1, 0), (2, 0), (3, 0)] [] (K 4)))) : yGo η zkdm D vwCl cy L Θ 4 p l e R s m args below meth c Q 4 (xw Qr 0 (xJ [(0, 100037), (1, 0), (2, 0), (3, 0)] [] (xq_X12_shoalsFrom_4 n K))) := xr_E (yr_mono x_ld (yr_iload_n Z.1 rfl yt_X12_shoalsFrom_4 (yr_mono x_ld (yr_aload_n Z.1 rfl (by decide) yt_X12_shoalsFrom_5 (yr_mono x_get (yr_get (lo := 0) (hi := 6) Z.1 yf_RX12_354 (by decide +kernel) yt_X12_shoalsFrom_6 (yr_mono x_lt (yr_ge Z.1 yt_X12_shoalsFrom_9 (by first | decide | rfl) (yr_mono x_ld (yr_iload_n Z.1 rfl yt_X12_shoalsFrom_43 (yr_mono x_ri (yr_ri Z rfl yt_X12_shoalsFrom_44)))) (yr_mono x_ld (yr_iload_n Z.1 rfl yt_X12_shoalsFrom_12 (yr_mono x_ld (yr_aload_n Z.1 rfl (by decide) yt_X12_shoalsFrom_13 (yr_mono x_ld (yr_iload_n Z.1 rfl yt_X12_shoalsFrom_14 (yr_mono x_ld (yr_aload_n Z.1 rfl (by decide) yt_X12_shoalsFrom_15 (yr_mono x_getc (yr_getP (lo := 0) (hi := 2147483647) Z.1 yf_RX12_41 (by decide +kernel) yt_X12_shoalsFrom_16 (yr_mono x_ld (yr_iload_n Z.1 rfl yt_X12_shoalsFrom_19 (yr_mono x_ald (yr_iald (lo := 0) (hi := 63) Z.1 (by decide +kernel) yt_X12_shoalsFrom_20 (yr_mono x_ld (yr_iload_n Z.1 rfl yt_X12_shoalsFrom_21 (yr_mono x_calR (yr_calR rfl (y_hrunV Z (y := (yX12_couldFrom, cX12_couldFrom, 6, (some .boolean))) (m_X12_couldFrom l) (ycv_of yw_X12_couldFrom 418 yt_X12_shoalsFrom_22 yl_RX12_418 rfl (by decide) (by decide) ⟨35, _, _, _, _, rfl, zkdm_35, rfl, rfl⟩)) (yr_mono x_eq0 (yr_eq0 Z.1 yt_X12_shoalsFrom_25 (by first | decide | rfl) (yr_mono x_cst (yr_iconst Z.1 yt_X12_shoalsFrom_34 (by decide) (yr_mono x_ari (yr_or Z.1 yt_X12_shoalsFrom_35 (yr_mono x_st (yr_istore_n Z.1 rfl (by decide) yt_X12_shoalsFrom_36 (yr_mono x_inc (yr_inc Z.1 (by decide) (by decide) yt_X12_shoalsFrom_37 (yr_goto Z.1 yt_X12_shoalsFrom_40 (by first | decide | rfl) hI4))))))))) (yr_mono x_cst (yr_iconst Z.1 yt_X12_shoalsFrom_28 (by decide) (yr_mono x_ld (yr_iload_n Z.1 rfl yt_X12_shoalsFrom_29 (yr_mono x_ari (yr_shl Z.1 yt_X12_shoalsFrom_30 (yr_goto Z.1 yt_X12_shoalsFrom_31 (by first | decide | rfl) (yr_mono x_ari (yr_or Z.1 yt_X12_shoalsFrom_35 (yr_mono x_st (yr_istore_n Z.1 rfl (by decide) yt_X12_shoalsFrom_36 (yr_mono x_inc (yr_inc Z.1 (by decide) (by decide) yt_X12_shoalsFrom_37 (yr_goto Z.1 yt_X12_shoalsFrom_40 (by first | decide | rfl) hI4))))))))))))))))))))))))))))))))))))))))))
def xl_X12_shoalsFrom : Nat → Nat → yK
  | 0, _ => fun _ _ => none
  | n + 1, pc => (cond (Nat.beq pc 4) (xq_X12_shoalsFrom_4 n (xl_X12_shoalsFrom n)) (fun _ _ => none))
theorem l_X12_shoalsFrom {η : zRn} {D : va_G} {cy : Nat → ClassId} {L : List Nat} {Θ : Nat → Option Nat} {p : Program} {l : Launch} {e : Env} {R : Room} {s : State} {m : MethodId} {args : Array Value} {below : List Frame} {meth : Method} {c : Code} {Q : State → Prop} {Qr : yQt} (Z : yCz η zkdm D vwCl cy L Θ 4 p l e R s m args below meth c Q cX12_shoalsFrom (tyW cy) RX12 zTW zKPr tyW (some .int) 6 139 Qr) : ∀ n, yGo η zkdm D vwCl cy L Θ 4 p l e R s m args below meth c Q 4 (xw Qr 0 (xJ [(0, 100037), (1, 0), (2, 0), (3, 0)] [] (xl_X12_shoalsFrom n 4))) := fun n => by
  induction n with
  | zero => exact xr_J0
  | succ n ih => exact s_X12_shoalsFrom_4 (n := n) (K := xl_X12_shoalsFrom n) Z ih
theorem yt_X12_shoalsFrom_0 : decode cX12_shoalsFrom 0 = .ok (.iconst 0, 1) := by decide +kernel
theorem yt_X12_shoalsFrom_1 : decode cX12_shoalsFrom 1 = .ok (.istore_n 2, 1) := by decide +kernel
theorem yt_X12_shoalsFrom_2 : decode cX12_shoalsFrom 2 = .ok (.iconst 0, 1) := by decide +kernel
theorem yt_X12_shoalsFrom_3 : decode cX12_shoalsFrom 3 = .ok (.istore_n 3, 1) := by decide +kernel
def xp_X12_shoalsFrom (n : Nat) (K : Nat → yK) : yX := (xCst 0 0 (xSt 2 0 (xCst 0 0 (xSt 3 0 (xJ [(0, 100037), (1, 0), (2, 0), (3, 0)] [] (K 4))))))
theorem s_X12_shoalsFrom {η : zRn} {D : va_G} {cy : Nat → ClassId} {L : List Nat} {Θ : Nat → Option Nat} {p : Program} {l : Launch} {e : Env} {R : Room} {s : State} {m : MethodId} {args : Array Value} {below : List Frame} {meth : Method} {c : Code} {Q : State → Prop} {Qr : yQt} {n : Nat} {K : Nat → yK} (Z : yCz η zkdm D vwCl cy L Θ 4 p l e R s m args below meth c Q cX12_shoalsFrom (tyW cy) RX12 zTW zKPr tyW (some .int) 6 139 Qr) (hI4 : yGo η zkdm D vwCl cy L Θ 4 p l e R s m args below meth c Q 4 (xw Qr 0 (xJ [(0, 100037), (1, 0), (2, 0), (3, 0)] [] (K 4)))) : yGo η zkdm D vwCl cy L Θ 4 p l e R s m args below meth c Q 0 (xw Qr 0 (xp_X12_shoalsFrom n K)) := (yr_mono x_cst (yr_iconst Z.1 yt_X12_shoalsFrom_0 (by decide) (yr_mono x_st (yr_istore_n Z.1 rfl (by decide) yt_X12_shoalsFrom_1 (yr_mono x_cst (yr_iconst Z.1 yt_X12_shoalsFrom_2 (by decide) (yr_mono x_st (yr_istore_n Z.1 rfl (by decide) yt_X12_shoalsFrom_3 hI4))))))))
def f_X12_shoalsFrom : yFn := fun n ys h => (fun n => xp_X12_shoalsFrom n (xl_X12_shoalsFrom n)) n (yar 0 ([100037, 0].zip ys)) [] h
theorem m_X12_shoalsFrom (l : Launch) : yMet zkdm vwCl zTW zKPr l (yX12_shoalsFrom, cX12_shoalsFrom, 4, (some .int)) 6 139 [100037, 0] (yF 0 f_X12_shoalsFrom) := y_metF zkpr_ok zTW_good (yX12_shoalsFrom, cX12_shoalsFrom, 4, (some .int)) 6 139 [100037, 0] 0 (fun n => xp_X12_shoalsFrom n (xl_X12_shoalsFrom n)) (by decide +kernel) (by decide) (fun η D cy L Θ p e R s m args below meth c Q Qr n Z => s_X12_shoalsFrom (n := n) (K := xl_X12_shoalsFrom n) Z (l_X12_shoalsFrom Z n))
set_option maxRecDepth 100000 in
theorem e_X12_shoalsFrom_4 {n : Nat} {x1 x2 x3 : Int} {h : yH} : xl_X12_shoalsFrom (n + 1) 4 [35, x1, x2, x3] h = if x3 < (h 35 35) then (xg (h 35 30 = 10) (xg (0 ≤ x1 ∧ x1 < 6) (xb (f_X12_couldFrom n [35, x1, (h 10 x1.toNat), x3] h) (fun v1 h1 => if v1 = 0 then (xg (-2147483648 ≤ x3 + 1 ∧ x3 + 1 ≤ 2147483647) (xl_X12_shoalsFrom n 4 [35, x1, (yari 8 x2 0), (x3 + 1)] h1)) else (xg (-2147483648 ≤ x3 + 1 ∧ x3 + 1 ≤ 2147483647) (xl_X12_shoalsFrom n 4 [35, x1, (yari 8 x2 (yari 5 1 x3)), (x3 + 1)] h1)))))) else (some (x2, h)) := by rfl
set_option maxRecDepth 100000 in
theorem e_X12_shoalsFrom {n : Nat} {x1 : Int} {h : yH} : f_X12_shoalsFrom n [35, x1] h = xl_X12_shoalsFrom n 4 [35, x1, 0, 0] h := by rfl
set_option maxRecDepth 100000 in
theorem yq_X12_berth : lw_tbl[1819]? = some (.code yX12_berth cX12_berth 8 (some .int)) := rfl
theorem yw_X12_berth : zMV yX12_berth cX12_berth 8 (some .int) 3 := ⟨⟨zTin 113 (by decide +kernel) rfl, zTin 1819 yq_X12_berth rfl, ⟨by decide, by decide⟩, by decide +kernel⟩, zTin 1817 (by decide +kernel) rfl, zTin 1818 (by decide +kernel) rfl⟩
theorem yt_X12_berth_32 : decode cX12_berth 32 = .ok (.iload 6, 2) := by decide +kernel
theorem yt_X12_berth_34 : decode cX12_berth 34 = .ok (.aload_n 0, 1) := by decide +kernel
theorem yt_X12_berth_35 : decode cX12_berth 35 = .ok (.getfield 289, 3) := by decide +kernel
theorem yt_X12_berth_38 : decode cX12_berth 38 = .ok (.aload_n 0, 1) := by decide +kernel
theorem yt_X12_berth_39 : decode cX12_berth 39 = .ok (.getfield 292, 3) := by decide +kernel
theorem yt_X12_berth_42 : decode cX12_berth 42 = .ok (.imul, 1) := by decide +kernel
theorem yt_X12_berth_43 : decode cX12_berth 43 = .ok (.if_icmp .ge 53, 3) := by decide +kernel
theorem yt_X12_berth_96 : decode cX12_berth 96 = .ok (.iload_n 3, 1) := by decide +kernel
theorem yt_X12_berth_97 : decode cX12_berth 97 = .ok (.ifCond .eq 8, 3) := by decide +kernel
theorem yt_X12_berth_105 : decode cX12_berth 105 = .ok (.iload 4, 2) := by decide +kernel
theorem yt_X12_berth_107 : decode cX12_berth 107 = .ok (.ireturn, 1) := by decide +kernel
theorem yt_X12_berth_100 : decode cX12_berth 100 = .ok (.iload 5, 2) := by decide +kernel
theorem yt_X12_berth_102 : decode cX12_berth 102 = .ok (.goto 5, 3) := by decide +kernel
theorem yt_X12_berth_46 : decode cX12_berth 46 = .ok (.aload_n 0, 1) := by decide +kernel
theorem yt_X12_berth_47 : decode cX12_berth 47 = .ok (.getfield 41, 3) := by decide +kernel
theorem yt_X12_berth_50 : decode cX12_berth 50 = .ok (.iload_n 2, 1) := by decide +kernel
theorem yt_X12_berth_51 : decode cX12_berth 51 = .ok (.iload 6, 2) := by decide +kernel
theorem yt_X12_berth_53 : decode cX12_berth 53 = .ok (.iastore, 1) := by decide +kernel
theorem yt_X12_berth_54 : decode cX12_berth 54 = .ok (.aload_n 0, 1) := by decide +kernel
theorem yt_X12_berth_55 : decode cX12_berth 55 = .ok (.aload_n 0, 1) := by decide +kernel
theorem yt_X12_berth_56 : decode cX12_berth 56 = .ok (.iload_n 2, 1) := by decide +kernel
theorem yt_X12_berth_57 : decode cX12_berth 57 = .ok (.invokevirtual 430, 3) := by decide +kernel
theorem yl_RX12_430 : Cond.methodLink RX12 430 yX12_shoalsFrom ∈ zTW := zTin 1820 (by decide +kernel) rfl
theorem yt_X12_berth_60 : decode cX12_berth 60 = .ok (.invokevirtual 433, 3) := by decide +kernel
theorem yt_X12_berth_63 : decode cX12_berth 63 = .ok (.istore 7, 2) := by decide +kernel
theorem yt_X12_berth_65 : decode cX12_berth 65 = .ok (.iload 7, 2) := by decide +kernel
theorem yt_X12_berth_67 : decode cX12_berth 67 = .ok (.iload 5, 2) := by decide +kernel
theorem yt_X12_berth_69 : decode cX12_berth 69 = .ok (.if_icmp .le 8, 3) := by decide +kernel
theorem yt_X12_berth_77 : decode cX12_berth 77 = .ok (.iload 4, 2) := by decide +kernel
theorem yt_X12_berth_79 : decode cX12_berth 79 = .ok (.istore 4, 2) := by decide +kernel
theorem yt_X12_berth_81 : decode cX12_berth 81 = .ok (.iload 5, 2) := by decide +kernel
theorem yt_X12_berth_83 : decode cX12_berth 83 = .ok (.iload 7, 2) := by decide +kernel
theorem yt_X12_berth_85 : decode cX12_berth 85 = .ok (.invokestatic 194, 3) := by decide +kernel
theorem yt_X12_berth_88 : decode cX12_berth 88 = .ok (.istore 5, 2) := by decide +kernel
theorem yt_X12_berth_90 : decode cX12_berth 90 = .ok (.iinc 6 1, 3) := by decide +kernel
theorem yt_X12_berth_93 : decode cX12_berth 93 = .ok (.goto (-61), 3) := by decide +kernel
theorem yt_X12_berth_72 : decode cX12_berth 72 = .ok (.iload 6, 2) := by decide +kernel
theorem yt_X12_berth_74 : decode cX12_berth 74 = .ok (.goto 5, 3) := by decide +kernel
def xq_X12_berth_32 (n : Nat) (K : Nat → yK) : yK := xE [(0, 100037), (1, 0), (2, 0), (3, 0), (4, 0), (5, 0), (6, 0)] [] (xLd 6 0 (xLd 0 100037 (xGet 35 24 0 (xLd 0 100037 (xGet 35 25 0 (xMul (xLt (xLd 0 100037 (xGetC 35 30 10 10 (xLd 2 0 (xLd 6 0 (xAst 10 6 (fun _ => 0) (fun _ => 63) (xLd 0 100037 (xLd 0 100037 (xLd 2 0 (xCalR 2 [100037, 0] 0 (f_X12_shoalsFrom n) (xCalR 2 [100037, 0] 0 (f_X12_fishOf n) (xSt 7 0 (xLd 7 0 (xLd 5 0 (xGt (xLd 6 0 (xSt 4 0 (xLd 5 0 (xLd 7 0 (xCalR 2 [0, 0] 0 (f_X12_greater n) (xSt 5 0 (xInc 6 1 (xJ [(0, 100037), (1, 0), (2, 0), (3, 0), (4, 0), (5, 0), (6, 0)] [] (K 32))))))))) (xLd 4 0 (xSt 4 0 (xLd 5 0 (xLd 7 0 (xCalR 2 [0, 0] 0 (f_X12_greater n) (xSt 5 0 (xInc 6 1 (xJ [(0, 100037), (1, 0), (2, 0), (3, 0), (4, 0), (5, 0), (6, 0)] [] (K 32))))))))))))))))))))))) (xLd 3 0 (xEq0 (xLd 4 0 xRi) (xLd 5 0 xRi))))))))))
theorem s_X12_berth_32 {η : zRn} {D : va_G} {cy : Nat → ClassId} {L : List Nat} {Θ : Nat → Option Nat} {p : Program} {l : Launch} {e : Env} {R : Room} {s : State} {m : MethodId} {args : Array Value} {below : List Frame} {meth : Method} {c : Code} {Q : State → Prop} {Qr : yQt} {n : Nat} {K : Nat → yK} (Z : yCz η zkdm D vwCl cy L Θ 8 p l e R s m args below meth c Q cX12_berth (tyW cy) RX12 zTW zKPr tyW (some .int) 7 162 Qr) (hI32 : yGo η zkdm D vwCl cy L Θ 8 p l e R s m args below meth c Q 32 (xw Qr 0 (xJ [(0, 100037), (1, 0), (2, 0), (3, 0), (4, 0), (5, 0), (6, 0)] [] (K 32)))) : yGo η zkdm D vwCl cy L Θ 8 p l e R s m args below meth c Q 32 (xw Qr 0 (xJ [(0, 100037), (1, 0), (2, 0), (3, 0), (4, 0), (5, 0), (6, 0)] [] (xq_X12_berth_32 n K))) := xr_E (yr_mono x_ld (yr_iload Z.1 yt_X12_berth_32 (yr_mono x_ld (yr_aload_n Z.1 rfl (by decide) yt_X12_berth_34 (yr_mono x_get (yr_get (lo := 0) (hi := 8) Z.1 yf_RX12_289 (by decide +kernel) yt_X12_berth_35 (yr_mono x_ld (yr_aload_n Z.1 rfl (by decide) yt_X12_berth_38 (yr_mono x_get (yr_get (lo := 0) (hi := 8) Z.1 yf_RX12_292 (by decide +kernel) yt_X12_berth_39 (yr_mono x_mul (yr_mul Z.1 yt_X12_berth_42 (yr_mono x_lt (yr_ge Z.1 yt_X12_berth_43 (by first | decide | rfl) (yr_mono x_ld (yr_iload_n Z.1 rfl yt_X12_berth_96 (yr_mono x_eq0 (yr_eq0 Z.1 yt_X12_berth_97 (by first | decide | rfl) (yr_mono x_ld (yr_iload Z.1 yt_X12_berth_105 (yr_mono x_ri (yr_ri Z rfl yt_X12_berth_107)))) (yr_mono x_ld (yr_iload Z.1 yt_X12_berth_100 (yr_goto Z.1 yt_X12_berth_102 (by first | decide | rfl) (yr_mono x_ri (yr_ri Z rfl yt_X12_berth_107))))))))) (yr_mono x_ld (yr_aload_n Z.1 rfl (by decide) yt_X12_berth_46 (yr_mono x_getc (yr_getP (lo := 0) (hi := 2147483647) Z.1 yf_RX12_41 (by decide +kernel) yt_X12_berth_47 (yr_mono x_ld (yr_iload_n Z.1 rfl yt_X12_berth_50 (yr_mono x_ld (yr_iload Z.1 yt_X12_berth_51 (yr_mono x_ast (yr_iast (lo := 0) (hi := 63) Z.1 (by decide +kernel) yt_X12_berth_53 (yr_mono x_ld (yr_aload_n Z.1 rfl (by decide) yt_X12_berth_54 (yr_mono x_ld (yr_aload_n Z.1 rfl (by decide) yt_X12_berth_55 (yr_mono x_ld (yr_iload_n Z.1 rfl yt_X12_berth_56 (yr_mono x_calR (yr_calR rfl (y_hrunV Z (y := (yX12_shoalsFrom, cX12_shoalsFrom, 4, (some .int))) (m_X12_shoalsFrom l) (ycv_of yw_X12_shoalsFrom 430 yt_X12_berth_57 yl_RX12_430 rfl (by decide) (by decide) ⟨35, _, _, _, _, rfl, zkdm_35, rfl, rfl⟩)) (yr_mono x_calR (yr_calR rfl (y_hrunV Z (y := (yX12_fishOf, cX12_fishOf, 4, (some .int))) (m_X12_fishOf l) (ycv_of yw_X12_fishOf 433 yt_X12_berth_60 yl_RX12_433 rfl (by decide) (by decide) ⟨35, _, _, _, _, rfl, zkdm_35, rfl, rfl⟩)) (yr_mono x_st (yr_istore Z.1 (by decide) yt_X12_berth_63 (yr_mono x_ld (yr_iload Z.1 yt_X12_berth_65 (yr_mono x_ld (yr_iload Z.1 yt_X12_berth_67 (yr_mono x_gt (yr_le Z.1 yt_X12_berth_69 (by first | decide | rfl) (yr_mono x_ld (yr_iload Z.1 yt_X12_berth_77 (yr_mono x_st (yr_istore Z.1 (by decide) yt_X12_berth_79 (yr_mono x_ld (yr_iload Z.1 yt_X12_berth_81 (yr_mono x_ld (yr_iload Z.1 yt_X12_berth_83 (yr_mono x_calR (yr_calR rfl (y_hrunS Z (y := (yX12_greater, cX12_greater, 2, (some .int))) (m_X12_greater l) (ycs_of yw_X12_greater 194 yt_X12_berth_85 yl_RX12_194 rfl (by decide) (by decide))) (yr_mono x_st (yr_istore Z.1 (by decide) yt_X12_berth_88 (yr_mono x_inc (yr_inc Z.1 (by decide) (by decide) yt_X12_berth_90 (yr_goto Z.1 yt_X12_berth_93 (by first | decide | rfl) hI32))))))))))))))) (yr_mono x_ld (yr_iload Z.1 yt_X12_berth_72 (yr_goto Z.1 yt_X12_berth_74 (by first | decide | rfl) (yr_mono x_st (yr_istore Z.1 (by decide) yt_X12_berth_79 (yr_mono x_ld (yr_iload Z.1 yt_X12_berth_81 (yr_mono x_ld (yr_iload Z.1 yt_X12_berth_83 (yr_mono x_calR (yr_calR rfl (y_hrunS Z (y := (yX12_greater, cX12_greater, 2, (some .int))) (m_X12_greater l) (ycs_of yw_X12_greater 194 yt_X12_berth_85 yl_RX12_194 rfl (by decide) (by decide))) (yr_mono x_st (yr_istore Z.1 (by decide) yt_X12_berth_88 (yr_mono x_inc (yr_inc Z.1 (by decide) (by decide) yt_X12_berth_90 (yr_goto Z.1 yt_X12_berth_93 (by first | decide | rfl) hI32))))))))))))))))))))))))))))))))))))))))))))))))))))))))))
def xl_X12_berth : Nat → Nat → yK
  | 0, _ => fun _ _ => none
  | n + 1, pc => (cond (Nat.beq pc 32) (xq_X12_berth_32 n (xl_X12_berth n)) (fun _ _ => none))
theorem l_X12_berth {η : zRn} {D : va_G} {cy : Nat → ClassId} {L : List Nat} {Θ : Nat → Option Nat} {p : Program} {l : Launch} {e : Env} {R : Room} {s : State} {m : MethodId} {args : Array Value} {below : List Frame} {meth : Method} {c : Code} {Q : State → Prop} {Qr : yQt} (Z : yCz η zkdm D vwCl cy L Θ 8 p l e R s m args below meth c Q cX12_berth (tyW cy) RX12 zTW zKPr tyW (some .int) 7 162 Qr) : ∀ n, yGo η zkdm D vwCl cy L Θ 8 p l e R s m args below meth c Q 32 (xw Qr 0 (xJ [(0, 100037), (1, 0), (2, 0), (3, 0), (4, 0), (5, 0), (6, 0)] [] (xl_X12_berth n 32))) := fun n => by
  induction n with
  | zero => exact xr_J0
  | succ n ih => exact s_X12_berth_32 (n := n) (K := xl_X12_berth n) Z ih
theorem yt_X12_berth_0 : decode cX12_berth 0 = .ok (.aload_n 0, 1) := by decide +kernel
theorem yt_X12_berth_1 : decode cX12_berth 1 = .ok (.iconst 0, 1) := by decide +kernel
theorem yt_X12_berth_2 : decode cX12_berth 2 = .ok (.putfield 117, 3) := by decide +kernel
theorem yt_X12_berth_5 : decode cX12_berth 5 = .ok (.aload_n 0, 1) := by decide +kernel
theorem yt_X12_berth_6 : decode cX12_berth 6 = .ok (.iload_n 1, 1) := by decide +kernel
theorem yt_X12_berth_7 : decode cX12_berth 7 = .ok (.invokevirtual 424, 3) := by decide +kernel
theorem yt_X12_berth_10 : decode cX12_berth 10 = .ok (.ifCond .eq 11, 3) := by decide +kernel
theorem yt_X12_berth_21 : decode cX12_berth 21 = .ok (.iconst (-1), 1) := by decide +kernel
theorem yt_X12_berth_22 : decode cX12_berth 22 = .ok (.ireturn, 1) := by decide +kernel
theorem yt_X12_berth_13 : decode cX12_berth 13 = .ok (.aload_n 0, 1) := by decide +kernel
theorem yt_X12_berth_14 : decode cX12_berth 14 = .ok (.iload_n 2, 1) := by decide +kernel
theorem yt_X12_berth_15 : decode cX12_berth 15 = .ok (.invokevirtual 320, 3) := by decide +kernel
theorem yt_X12_berth_18 : decode cX12_berth 18 = .ok (.ifCond .ne 5, 3) := by decide +kernel
theorem yt_X12_berth_23 : decode cX12_berth 23 = .ok (.iconst 0, 1) := by decide +kernel
theorem yt_X12_berth_24 : decode cX12_berth 24 = .ok (.istore 4, 2) := by decide +kernel
theorem yt_X12_berth_26 : decode cX12_berth 26 = .ok (.iconst (-1), 1) := by decide +kernel
theorem yt_X12_berth_27 : decode cX12_berth 27 = .ok (.istore 5, 2) := by decide +kernel
theorem yt_X12_berth_29 : decode cX12_berth 29 = .ok (.iconst 0, 1) := by decide +kernel
theorem yt_X12_berth_30 : decode cX12_berth 30 = .ok (.istore 6, 2) := by decide +kernel
def xp_X12_berth (n : Nat) (K : Nat → yK) : yX := (xLd 0 100037 (xCst 0 0 (xPut0 35 0 0 (xLd 0 100037 (xLd 1 0 (xCalR 2 [100037, 0] 0 (f_X12_layTold n) (xEq0 (xCst 0 (-1) xRi) (xLd 0 100037 (xLd 2 0 (xCalR 2 [100037, 0] 0 (f_X12_isBoat n) (xEq0 (xCst 0 (-1) xRi) (xCst 0 0 (xSt 4 0 (xCst 0 (-1) (xSt 5 0 (xCst 0 0 (xSt 6 0 (xJ [(0, 100037), (1, 0), (2, 0), (3, 0), (4, 0), (5, 0), (6, 0)] [] (K 32)))))))))))))))))))
theorem s_X12_berth {η : zRn} {D : va_G} {cy : Nat → ClassId} {L : List Nat} {Θ : Nat → Option Nat} {p : Program} {l : Launch} {e : Env} {R : Room} {s : State} {m : MethodId} {args : Array Value} {below : List Frame} {meth : Method} {c : Code} {Q : State → Prop} {Qr : yQt} {n : Nat} {K : Nat → yK} (Z : yCz η zkdm D vwCl cy L Θ 8 p l e R s m args below meth c Q cX12_berth (tyW cy) RX12 zTW zKPr tyW (some .int) 7 162 Qr) (hI32 : yGo η zkdm D vwCl cy L Θ 8 p l e R s m args below meth c Q 32 (xw Qr 0 (xJ [(0, 100037), (1, 0), (2, 0), (3, 0), (4, 0), (5, 0), (6, 0)] [] (K 32)))) : yGo η zkdm D vwCl cy L Θ 8 p l e R s m args below meth c Q 0 (xw Qr 0 (xp_X12_berth n K)) := (yr_mono x_ld (yr_aload_n Z.1 rfl (by decide) yt_X12_berth_0 (yr_mono x_cst (yr_iconst Z.1 yt_X12_berth_1 (by decide) (yr_mono x_put0 (yr_put0 (lo := (-2147483648)) (hi := 2147483647) Z.1 yf_RX12_117 (by decide +kernel) (Or.inl ⟨rfl, rfl, rfl⟩) (by decide) yt_X12_berth_2 (yr_mono x_ld (yr_aload_n Z.1 rfl (by decide) yt_X12_berth_5 (yr_mono x_ld (yr_iload_n Z.1 rfl yt_X12_berth_6 (yr_mono x_calR (yr_calR rfl (y_hrunV Z (y := (yX12_layTold, cX12_layTold, 2, (some .boolean))) (m_X12_layTold l) (ycv_of yw_X12_layTold 424 yt_X12_berth_7 yl_RX12_424 rfl (by decide) (by decide) ⟨35, _, _, _, _, rfl, zkdm_35, rfl, rfl⟩)) (yr_mono x_eq0 (yr_eq0 Z.1 yt_X12_berth_10 (by first | decide | rfl) (yr_mono x_cst (yr_iconst Z.1 yt_X12_berth_21 (by decide) (yr_mono x_ri (yr_ri Z rfl yt_X12_berth_22)))) (yr_mono x_ld (yr_aload_n Z.1 rfl (by decide) yt_X12_berth_13 (yr_mono x_ld (yr_iload_n Z.1 rfl yt_X12_berth_14 (yr_mono x_calR (yr_calR rfl (y_hrunV Z (y := (yX12_isBoat, cX12_isBoat, 2, (some .boolean))) (m_X12_isBoat l) (ycv_of yw_X12_isBoat 320 yt_X12_berth_15 yl_RX12_320 rfl (by decide) (by decide) ⟨35, _, _, _, _, rfl, zkdm_35, rfl, rfl⟩)) (yr_mono x_eq0 (yr_ne0 Z.1 yt_X12_berth_18 (by first | decide | rfl) (yr_mono x_cst (yr_iconst Z.1 yt_X12_berth_23 (by decide) (yr_mono x_st (yr_istore Z.1 (by decide) yt_X12_berth_24 (yr_mono x_cst (yr_iconst Z.1 yt_X12_berth_26 (by decide) (yr_mono x_st (yr_istore Z.1 (by decide) yt_X12_berth_27 (yr_mono x_cst (yr_iconst Z.1 yt_X12_berth_29 (by decide) (yr_mono x_st (yr_istore Z.1 (by decide) yt_X12_berth_30 hI32)))))))))))) (yr_mono x_cst (yr_iconst Z.1 yt_X12_berth_21 (by decide) (yr_mono x_ri (yr_ri Z rfl yt_X12_berth_22))))))))))))))))))))))))))
def f_X12_berth : yFn := fun n ys h => (fun n => xp_X12_berth n (xl_X12_berth n)) n (yar 0 ([100037, 0, 0, 0].zip ys)) [] h
theorem m_X12_berth (l : Launch) : yMet zkdm vwCl zTW zKPr l (yX12_berth, cX12_berth, 8, (some .int)) 7 162 [100037, 0, 0, 0] (yF 0 f_X12_berth) := y_metF zkpr_ok zTW_good (yX12_berth, cX12_berth, 8, (some .int)) 7 162 [100037, 0, 0, 0] 0 (fun n => xp_X12_berth n (xl_X12_berth n)) (by decide +kernel) (by decide) (fun η D cy L Θ p e R s m args below meth c Q Qr n Z => s_X12_berth (n := n) (K := xl_X12_berth n) Z (l_X12_berth Z n))
set_option maxRecDepth 100000 in
theorem e_X12_berth_32 {n : Nat} {x1 x2 x3 x4 x5 x6 : Int} {h : yH} : xl_X12_berth (n + 1) 32 [35, x1, x2, x3, x4, x5, x6] h = xg (-2147483648 ≤ (h 35 24) * (h 35 25) ∧ (h 35 24) * (h 35 25) ≤ 2147483647) (if x6 < ((h 35 24) * (h 35 25)) then (xg (h 35 30 = 10) (xg (0 ≤ x2 ∧ x2 < 6) (xg (0 ≤ x6 ∧ x6 ≤ 63) (xb (f_X12_shoalsFrom n [35, x2] (zup h 10 x2.toNat x6)) (fun v1 h1 => xb (f_X12_fishOf n [35, v1] h1) (fun v2 h2 => if x5 < v2 then (xb (f_X12_greater n [x5, v2] h2) (fun v4 h4 => xg (-2147483648 ≤ x6 + 1 ∧ x6 + 1 ≤ 2147483647) (xl_X12_berth n 32 [35, x1, x2, x3, x6, v4, (x6 + 1)] h4))) else (xb (f_X12_greater n [x5, v2] h2) (fun v3 h3 => xg (-2147483648 ≤ x6 + 1 ∧ x6 + 1 ≤ 2147483647) (xl_X12_berth n 32 [35, x1, x2, x3, x4, v3, (x6 + 1)] h3))))))))) else (if x3 = 0 then (some (x4, h)) else (some (x5, h)))) := by rfl
set_option maxRecDepth 100000 in
theorem e_X12_berth {n : Nat} {x1 x2 x3 : Int} {h : yH} : f_X12_berth n [35, x1, x2, x3] h = xb (f_X12_layTold n [35, x1] (zup h 35 0 0)) (fun v5 h5 => if v5 = 0 then (some ((-1), h5)) else (xb (f_X12_isBoat n [35, x2] h5) (fun v6 h6 => if v6 = 0 then (some ((-1), h6)) else (xl_X12_berth n 32 [35, x1, x2, x3, 0, (-1), 0] h6)))) := by rfl
set_option maxRecDepth 100000 in
theorem yq_X12_pair : lw_tbl[1831]? = some (.code yX12_pair cX12_pair 9 (some .int)) := rfl
theorem yw_X12_pair : zMV yX12_pair cX12_pair 9 (some .int) 4 := ⟨⟨zTin 113 (by decide +kernel) rfl, zTin 1831 yq_X12_pair rfl, ⟨by decide, by decide⟩, by decide +kernel⟩, zTin 1829 (by decide +kernel) rfl, zTin 1830 (by decide +kernel) rfl⟩
theorem yt_X12_pair_55 : decode cX12_pair 55 = .ok (.iload 7, 2) := by decide +kernel
theorem yt_X12_pair_57 : decode cX12_pair 57 = .ok (.bipush 64, 2) := by decide +kernel
theorem yt_X12_pair_59 : decode cX12_pair 59 = .ok (.aload_n 0, 1) := by decide +kernel
theorem yt_X12_pair_60 : decode cX12_pair 60 = .ok (.getfield 289, 3) := by decide +kernel
theorem yt_X12_pair_63 : decode cX12_pair 63 = .ok (.imul, 1) := by decide +kernel
theorem yt_X12_pair_64 : decode cX12_pair 64 = .ok (.aload_n 0, 1) := by decide +kernel
theorem yt_X12_pair_65 : decode cX12_pair 65 = .ok (.getfield 292, 3) := by decide +kernel
theorem yt_X12_pair_68 : decode cX12_pair 68 = .ok (.imul, 1) := by decide +kernel
theorem yt_X12_pair_69 : decode cX12_pair 69 = .ok (.if_icmp .ge 90, 3) := by decide +kernel
theorem yt_X12_pair_159 : decode cX12_pair 159 = .ok (.iload 4, 2) := by decide +kernel
theorem yt_X12_pair_161 : decode cX12_pair 161 = .ok (.ifCond .ne 11, 3) := by decide +kernel
theorem yt_X12_pair_172 : decode cX12_pair 172 = .ok (.iload 4, 2) := by decide +kernel
theorem yt_X12_pair_174 : decode cX12_pair 174 = .ok (.iconst 1, 1) := by decide +kernel
theorem yt_X12_pair_175 : decode cX12_pair 175 = .ok (.if_icmp .ne 11, 3) := by decide +kernel
theorem yt_X12_pair_186 : decode cX12_pair 186 = .ok (.iload 6, 2) := by decide +kernel
theorem yt_X12_pair_188 : decode cX12_pair 188 = .ok (.ireturn, 1) := by decide +kernel
theorem yt_X12_pair_178 : decode cX12_pair 178 = .ok (.iload 5, 2) := by decide +kernel
theorem yt_X12_pair_180 : decode cX12_pair 180 = .ok (.bipush 64, 2) := by decide +kernel
theorem yt_X12_pair_182 : decode cX12_pair 182 = .ok (.irem, 1) := by decide +kernel
theorem yt_X12_pair_183 : decode cX12_pair 183 = .ok (.goto 5, 3) := by decide +kernel
theorem yt_X12_pair_164 : decode cX12_pair 164 = .ok (.iload 5, 2) := by decide +kernel
theorem yt_X12_pair_166 : decode cX12_pair 166 = .ok (.bipush 64, 2) := by decide +kernel
theorem yt_X12_pair_168 : decode cX12_pair 168 = .ok (.idiv, 1) := by decide +kernel
theorem yt_X12_pair_169 : decode cX12_pair 169 = .ok (.goto 19, 3) := by decide +kernel
theorem yt_X12_pair_72 : decode cX12_pair 72 = .ok (.iload 7, 2) := by decide +kernel
theorem yt_X12_pair_74 : decode cX12_pair 74 = .ok (.bipush 64, 2) := by decide +kernel
theorem yt_X12_pair_76 : decode cX12_pair 76 = .ok (.irem, 1) := by decide +kernel
theorem yt_X12_pair_77 : decode cX12_pair 77 = .ok (.aload_n 0, 1) := by decide +kernel
theorem yt_X12_pair_78 : decode cX12_pair 78 = .ok (.getfield 289, 3) := by decide +kernel
theorem yt_X12_pair_81 : decode cX12_pair 81 = .ok (.aload_n 0, 1) := by decide +kernel
theorem yt_X12_pair_82 : decode cX12_pair 82 = .ok (.getfield 292, 3) := by decide +kernel
theorem yt_X12_pair_85 : decode cX12_pair 85 = .ok (.imul, 1) := by decide +kernel
theorem yt_X12_pair_86 : decode cX12_pair 86 = .ok (.if_icmp .ge 67, 3) := by decide +kernel
theorem yt_X12_pair_153 : decode cX12_pair 153 = .ok (.iinc 7 1, 3) := by decide +kernel
theorem yt_X12_pair_156 : decode cX12_pair 156 = .ok (.goto (-101), 3) := by decide +kernel
theorem yt_X12_pair_89 : decode cX12_pair 89 = .ok (.aload_n 0, 1) := by decide +kernel
theorem yt_X12_pair_90 : decode cX12_pair 90 = .ok (.getfield 41, 3) := by decide +kernel
theorem yt_X12_pair_93 : decode cX12_pair 93 = .ok (.iload_n 2, 1) := by decide +kernel
theorem yt_X12_pair_94 : decode cX12_pair 94 = .ok (.iload 7, 2) := by decide +kernel
theorem yt_X12_pair_96 : decode cX12_pair 96 = .ok (.bipush 64, 2) := by decide +kernel
theorem yt_X12_pair_98 : decode cX12_pair 98 = .ok (.idiv, 1) := by decide +kernel
theorem yt_X12_pair_99 : decode cX12_pair 99 = .ok (.iastore, 1) := by decide +kernel
theorem yt_X12_pair_100 : decode cX12_pair 100 = .ok (.aload_n 0, 1) := by decide +kernel
theorem yt_X12_pair_101 : decode cX12_pair 101 = .ok (.getfield 41, 3) := by decide +kernel
theorem yt_X12_pair_104 : decode cX12_pair 104 = .ok (.iload_n 3, 1) := by decide +kernel
theorem yt_X12_pair_105 : decode cX12_pair 105 = .ok (.iload 7, 2) := by decide +kernel
theorem yt_X12_pair_107 : decode cX12_pair 107 = .ok (.bipush 64, 2) := by decide +kernel
theorem yt_X12_pair_109 : decode cX12_pair 109 = .ok (.irem, 1) := by decide +kernel
theorem yt_X12_pair_110 : decode cX12_pair 110 = .ok (.iastore, 1) := by decide +kernel
theorem yt_X12_pair_111 : decode cX12_pair 111 = .ok (.aload_n 0, 1) := by decide +kernel
theorem yt_X12_pair_112 : decode cX12_pair 112 = .ok (.aload_n 0, 1) := by decide +kernel
theorem yt_X12_pair_113 : decode cX12_pair 113 = .ok (.iload_n 2, 1) := by decide +kernel
theorem yt_X12_pair_114 : decode cX12_pair 114 = .ok (.invokevirtual 430, 3) := by decide +kernel
theorem yt_X12_pair_117 : decode cX12_pair 117 = .ok (.aload_n 0, 1) := by decide +kernel
theorem yt_X12_pair_118 : decode cX12_pair 118 = .ok (.iload_n 3, 1) := by decide +kernel
theorem yt_X12_pair_119 : decode cX12_pair 119 = .ok (.invokevirtual 430, 3) := by decide +kernel
theorem yt_X12_pair_122 : decode cX12_pair 122 = .ok (.ior, 1) := by decide +kernel
theorem yt_X12_pair_123 : decode cX12_pair 123 = .ok (.invokevirtual 433, 3) := by decide +kernel
theorem yt_X12_pair_126 : decode cX12_pair 126 = .ok (.istore 8, 2) := by decide +kernel
theorem yt_X12_pair_128 : decode cX12_pair 128 = .ok (.iload 8, 2) := by decide +kernel
theorem yt_X12_pair_130 : decode cX12_pair 130 = .ok (.iload 6, 2) := by decide +kernel
theorem yt_X12_pair_132 : decode cX12_pair 132 = .ok (.if_icmp .le 8, 3) := by decide +kernel
theorem yt_X12_pair_140 : decode cX12_pair 140 = .ok (.iload 5, 2) := by decide +kernel
theorem yt_X12_pair_142 : decode cX12_pair 142 = .ok (.istore 5, 2) := by decide +kernel
theorem yt_X12_pair_144 : decode cX12_pair 144 = .ok (.iload 6, 2) := by decide +kernel
theorem yt_X12_pair_146 : decode cX12_pair 146 = .ok (.iload 8, 2) := by decide +kernel
theorem yt_X12_pair_148 : decode cX12_pair 148 = .ok (.invokestatic 194, 3) := by decide +kernel
theorem yt_X12_pair_151 : decode cX12_pair 151 = .ok (.istore 6, 2) := by decide +kernel
theorem yt_X12_pair_135 : decode cX12_pair 135 = .ok (.iload 7, 2) := by decide +kernel
theorem yt_X12_pair_137 : decode cX12_pair 137 = .ok (.goto 5, 3) := by decide +kernel
def xq_X12_pair_55 (n : Nat) (K : Nat → yK) : yK := xE [(0, 100037), (1, 0), (2, 0), (3, 0), (4, 0), (5, 0), (6, 0), (7, 0)] [] (xLd 7 0 (xCst 0 64 (xLd 0 100037 (xGet 35 24 0 (xMul (xLd 0 100037 (xGet 35 25 0 (xMul (xLt (xLd 7 0 (xCst 0 64 (xArg 4 (xLd 0 100037 (xGet 35 24 0 (xLd 0 100037 (xGet 35 25 0 (xMul (xLt (xLd 0 100037 (xGetC 35 30 10 10 (xLd 2 0 (xLd 7 0 (xCst 0 64 (xArg 3 (xAst 10 6 (fun _ => 0) (fun _ => 63) (xLd 0 100037 (xGetC 35 30 10 10 (xLd 3 0 (xLd 7 0 (xCst 0 64 (xArg 4 (xAst 10 6 (fun _ => 0) (fun _ => 63) (xLd 0 100037 (xLd 0 100037 (xLd 2 0 (xCalR 2 [100037, 0] 0 (f_X12_shoalsFrom n) (xLd 0 100037 (xLd 3 0 (xCalR 2 [100037, 0] 0 (f_X12_shoalsFrom n) (xAri 8 (xCalR 2 [100037, 0] 0 (f_X12_fishOf n) (xSt 8 0 (xLd 8 0 (xLd 6 0 (xGt (xLd 7 0 (xSt 5 0 (xLd 6 0 (xLd 8 0 (xCalR 2 [0, 0] 0 (f_X12_greater n) (xSt 6 0 (xInc 7 1 (xJ [(0, 100037), (1, 0), (2, 0), (3, 0), (4, 0), (5, 0), (6, 0), (7, 0)] [] (K 55))))))))) (xLd 5 0 (xSt 5 0 (xLd 6 0 (xLd 8 0 (xCalR 2 [0, 0] 0 (f_X12_greater n) (xSt 6 0 (xInc 7 1 (xJ [(0, 100037), (1, 0), (2, 0), (3, 0), (4, 0), (5, 0), (6, 0), (7, 0)] [] (K 55)))))))))))))))))))))))))))))))))))) (xInc 7 1 (xJ [(0, 100037), (1, 0), (2, 0), (3, 0), (4, 0), (5, 0), (6, 0), (7, 0)] [] (K 55)))))))))))) (xLd 4 0 (xEq0 (xLd 5 0 (xCst 0 64 (xArg 3 xRi))) (xLd 4 0 (xCst 0 1 (xEq (xLd 5 0 (xCst 0 64 (xArg 4 xRi))) (xLd 6 0 xRi)))))))))))))))
theorem s_X12_pair_55 {η : zRn} {D : va_G} {cy : Nat → ClassId} {L : List Nat} {Θ : Nat → Option Nat} {p : Program} {l : Launch} {e : Env} {R : Room} {s : State} {m : MethodId} {args : Array Value} {below : List Frame} {meth : Method} {c : Code} {Q : State → Prop} {Qr : yQt} {n : Nat} {K : Nat → yK} (Z : yCz η zkdm D vwCl cy L Θ 9 p l e R s m args below meth c Q cX12_pair (tyW cy) RX12 zTW zKPr tyW (some .int) 7 162 Qr) (hI55 : yGo η zkdm D vwCl cy L Θ 9 p l e R s m args below meth c Q 55 (xw Qr 0 (xJ [(0, 100037), (1, 0), (2, 0), (3, 0), (4, 0), (5, 0), (6, 0), (7, 0)] [] (K 55)))) : yGo η zkdm D vwCl cy L Θ 9 p l e R s m args below meth c Q 55 (xw Qr 0 (xJ [(0, 100037), (1, 0), (2, 0), (3, 0), (4, 0), (5, 0), (6, 0), (7, 0)] [] (xq_X12_pair_55 n K))) := xr_E (yr_mono x_ld (yr_iload Z.1 yt_X12_pair_55 (yr_mono x_cst (yr_bipush Z.1 yt_X12_pair_57 (by decide) (yr_mono x_ld (yr_aload_n Z.1 rfl (by decide) yt_X12_pair_59 (yr_mono x_get (yr_get (lo := 0) (hi := 8) Z.1 yf_RX12_289 (by decide +kernel) yt_X12_pair_60 (yr_mono x_mul (yr_mul Z.1 yt_X12_pair_63 (yr_mono x_ld (yr_aload_n Z.1 rfl (by decide) yt_X12_pair_64 (yr_mono x_get (yr_get (lo := 0) (hi := 8) Z.1 yf_RX12_292 (by decide +kernel) yt_X12_pair_65 (yr_mono x_mul (yr_mul Z.1 yt_X12_pair_68 (yr_mono x_lt (yr_ge Z.1 yt_X12_pair_69 (by first | decide | rfl) (yr_mono x_ld (yr_iload Z.1 yt_X12_pair_159 (yr_mono x_eq0 (yr_ne0 Z.1 yt_X12_pair_161 (by first | decide | rfl) (yr_mono x_ld (yr_iload Z.1 yt_X12_pair_172 (yr_mono x_cst (yr_iconst Z.1 yt_X12_pair_174 (by decide) (yr_mono x_eq (yr_ne Z.1 yt_X12_pair_175 (by first | decide | rfl) (yr_mono x_ld (yr_iload Z.1 yt_X12_pair_186 (yr_mono x_ri (yr_ri Z rfl yt_X12_pair_188)))) (yr_mono x_ld (yr_iload Z.1 yt_X12_pair_178 (yr_mono x_cst (yr_bipush Z.1 yt_X12_pair_180 (by decide) (yr_mono x_arg (yr_rem Z.1 yt_X12_pair_182 (yr_goto Z.1 yt_X12_pair_183 (by first | decide | rfl) (yr_mono x_ri (yr_ri Z rfl yt_X12_pair_188))))))))))))))) (yr_mono x_ld (yr_iload Z.1 yt_X12_pair_164 (yr_mono x_cst (yr_bipush Z.1 yt_X12_pair_166 (by decide) (yr_mono x_arg (yr_div Z.1 yt_X12_pair_168 (yr_goto Z.1 yt_X12_pair_169 (by first | decide | rfl) (yr_mono x_ri (yr_ri Z rfl yt_X12_pair_188))))))))))))) (yr_mono x_ld (yr_iload Z.1 yt_X12_pair_72 (yr_mono x_cst (yr_bipush Z.1 yt_X12_pair_74 (by decide) (yr_mono x_arg (yr_rem Z.1 yt_X12_pair_76 (yr_mono x_ld (yr_aload_n Z.1 rfl (by decide) yt_X12_pair_77 (yr_mono x_get (yr_get (lo := 0) (hi := 8) Z.1 yf_RX12_289 (by decide +kernel) yt_X12_pair_78 (yr_mono x_ld (yr_aload_n Z.1 rfl (by decide) yt_X12_pair_81 (yr_mono x_get (yr_get (lo := 0) (hi := 8) Z.1 yf_RX12_292 (by decide +kernel) yt_X12_pair_82 (yr_mono x_mul (yr_mul Z.1 yt_X12_pair_85 (yr_mono x_lt (yr_ge Z.1 yt_X12_pair_86 (by first | decide | rfl) (yr_mono x_inc (yr_inc Z.1 (by decide) (by decide) yt_X12_pair_153 (yr_goto Z.1 yt_X12_pair_156 (by first | decide | rfl) hI55))) (yr_mono x_ld (yr_aload_n Z.1 rfl (by decide) yt_X12_pair_89 (yr_mono x_getc (yr_getP (lo := 0) (hi := 2147483647) Z.1 yf_RX12_41 (by decide +kernel) yt_X12_pair_90 (yr_mono x_ld (yr_iload_n Z.1 rfl yt_X12_pair_93 (yr_mono x_ld (yr_iload Z.1 yt_X12_pair_94 (yr_mono x_cst (yr_bipush Z.1 yt_X12_pair_96 (by decide) (yr_mono x_arg (yr_div Z.1 yt_X12_pair_98 (yr_mono x_ast (yr_iast (lo := 0) (hi := 63) Z.1 (by decide +kernel) yt_X12_pair_99 (yr_mono x_ld (yr_aload_n Z.1 rfl (by decide) yt_X12_pair_100 (yr_mono x_getc (yr_getP (lo := 0) (hi := 2147483647) Z.1 yf_RX12_41 (by decide +kernel) yt_X12_pair_101 (yr_mono x_ld (yr_iload_n Z.1 rfl yt_X12_pair_104 (yr_mono x_ld (yr_iload Z.1 yt_X12_pair_105 (yr_mono x_cst (yr_bipush Z.1 yt_X12_pair_107 (by decide) (yr_mono x_arg (yr_rem Z.1 yt_X12_pair_109 (yr_mono x_ast (yr_iast (lo := 0) (hi := 63) Z.1 (by decide +kernel) yt_X12_pair_110 (yr_mono x_ld (yr_aload_n Z.1 rfl (by decide) yt_X12_pair_111 (yr_mono x_ld (yr_aload_n Z.1 rfl (by decide) yt_X12_pair_112 (yr_mono x_ld (yr_iload_n Z.1 rfl yt_X12_pair_113 (yr_mono x_calR (yr_calR rfl (y_hrunV Z (y := (yX12_shoalsFrom, cX12_shoalsFrom, 4, (some .int))) (m_X12_shoalsFrom l) (ycv_of yw_X12_shoalsFrom 430 yt_X12_pair_114 yl_RX12_430 rfl (by decide) (by decide) ⟨35, _, _, _, _, rfl, zkdm_35, rfl, rfl⟩)) (yr_mono x_ld (yr_aload_n Z.1 rfl (by decide) yt_X12_pair_117 (yr_mono x_ld (yr_iload_n Z.1 rfl yt_X12_pair_118 (yr_mono x_calR (yr_calR rfl (y_hrunV Z (y := (yX12_shoalsFrom, cX12_shoalsFrom, 4, (some .int))) (m_X12_shoalsFrom l) (ycv_of yw_X12_shoalsFrom 430 yt_X12_pair_119 yl_RX12_430 rfl (by decide) (by decide) ⟨35, _, _, _, _, rfl, zkdm_35, rfl, rfl⟩)) (yr_mono x_ari (yr_or Z.1 yt_X12_pair_122 (yr_mono x_calR (yr_calR rfl (y_hrunV Z (y := (yX12_fishOf, cX12_fishOf, 4, (some .int))) (m_X12_fishOf l) (ycv_of yw_X12_fishOf 433 yt_X12_pair_123 yl_RX12_433 rfl (by decide) (by decide) ⟨35, _, _, _, _, rfl, zkdm_35, rfl, rfl⟩)) (yr_mono x_st (yr_istore Z.1 (by decide) yt_X12_pair_126 (yr_mono x_ld (yr_iload Z.1 yt_X12_pair_128 (yr_mono x_ld (yr_iload Z.1 yt_X12_pair_130 (yr_mono x_gt (yr_le Z.1 yt_X12_pair_132 (by first | decide | rfl) (yr_mono x_ld (yr_iload Z.1 yt_X12_pair_140 (yr_mono x_st (yr_istore Z.1 (by decide) yt_X12_pair_142 (yr_mono x_ld (yr_iload Z.1 yt_X12_pair_144 (yr_mono x_ld (yr_iload Z.1 yt_X12_pair_146 (yr_mono x_calR (yr_calR rfl (y_hrunS Z (y := (yX12_greater, cX12_greater, 2, (some .int))) (m_X12_greater l) (ycs_of yw_X12_greater 194 yt_X12_pair_148 yl_RX12_194 rfl (by decide) (by decide))) (yr_mono x_st (yr_istore Z.1 (by decide) yt_X12_pair_151 (yr_mono x_inc (yr_inc Z.1 (by decide) (by decide) yt_X12_pair_153 (yr_goto Z.1 yt_X12_pair_156 (by first | decide | rfl) hI55))))))))))))))) (yr_mono x_ld (yr_iload Z.1 yt_X12_pair_135 (yr_goto Z.1 yt_X12_pair_137 (by first | decide | rfl) (yr_mono x_st (yr_istore Z.1 (by decide) yt_X12_pair_142 (yr_mono x_ld (yr_iload Z.1 yt_X12_pair_144 (yr_mono x_ld (yr_iload Z.1 yt_X12_pair_146 (yr_mono x_calR (yr_calR rfl (y_hrunS Z (y := (yX12_greater, cX12_greater, 2, (some .int))) (m_X12_greater l) (ycs_of yw_X12_greater 194 yt_X12_pair_148 yl_RX12_194 rfl (by decide) (by decide))) (yr_mono x_st (yr_istore Z.1 (by decide) yt_X12_pair_151 (yr_mono x_inc (yr_inc Z.1 (by decide) (by decide) yt_X12_pair_153 (yr_goto Z.1 yt_X12_pair_156 (by first | decide | rfl) hI55))))))))))))))))))))))))))))))))))))))))))))))))))))))))))))))))))))))))))))))))))))))))))))))))))))))))))
def xl_X12_pair : Nat → Nat → yK
  | 0, _ => fun _ _ => none
  | n + 1, pc => (cond (Nat.beq pc 55) (xq_X12_pair_55 n (xl_X12_pair n)) (fun _ _ => none))
theorem l_X12_pair {η : zRn} {D : va_G} {cy : Nat → ClassId} {L : List Nat} {Θ : Nat → Option Nat} {p : Program} {l : Launch} {e : Env} {R : Room} {s : State} {m : MethodId} {args : Array Value} {below : List Frame} {meth : Method} {c : Code} {Q : State → Prop} {Qr : yQt} (Z : yCz η zkdm D vwCl cy L Θ 9 p l e R s m args below meth c Q cX12_pair (tyW cy) RX12 zTW zKPr tyW (some .int) 7 162 Qr) : ∀ n, yGo η zkdm D vwCl cy L Θ 9 p l e R s m args below meth c Q 55 (xw Qr 0 (xJ [(0, 100037), (1, 0), (2, 0), (3, 0), (4, 0), (5, 0), (6, 0), (7, 0)] [] (xl_X12_pair n 55))) := fun n => by
  induction n with
  | zero => exact xr_J0
  | succ n ih => exact s_X12_pair_55 (n := n) (K := xl_X12_pair n) Z ih
theorem yt_X12_pair_0 : decode cX12_pair 0 = .ok (.aload_n 0, 1) := by decide +kernel
theorem yt_X12_pair_1 : decode cX12_pair 1 = .ok (.iconst 0, 1) := by decide +kernel
theorem yt_X12_pair_2 : decode cX12_pair 2 = .ok (.putfield 117, 3) := by decide +kernel
theorem yt_X12_pair_5 : decode cX12_pair 5 = .ok (.iload 4, 2) := by decide +kernel
theorem yt_X12_pair_7 : decode cX12_pair 7 = .ok (.iconst 0, 1) := by decide +kernel
theorem yt_X12_pair_8 : decode cX12_pair 8 = .ok (.iconst 2, 1) := by decide +kernel
theorem yt_X12_pair_9 : decode cX12_pair 9 = .ok (.invokestatic 129, 3) := by decide +kernel
theorem yt_X12_pair_12 : decode cX12_pair 12 = .ok (.ifCond .eq 32, 3) := by decide +kernel
theorem yt_X12_pair_44 : decode cX12_pair 44 = .ok (.iconst (-1), 1) := by decide +kernel
theorem yt_X12_pair_45 : decode cX12_pair 45 = .ok (.ireturn, 1) := by decide +kernel
theorem yt_X12_pair_15 : decode cX12_pair 15 = .ok (.aload_n 0, 1) := by decide +kernel
theorem yt_X12_pair_16 : decode cX12_pair 16 = .ok (.iload_n 1, 1) := by decide +kernel
theorem yt_X12_pair_17 : decode cX12_pair 17 = .ok (.invokevirtual 424, 3) := by decide +kernel
theorem yt_X12_pair_20 : decode cX12_pair 20 = .ok (.ifCond .eq 24, 3) := by decide +kernel
theorem yt_X12_pair_23 : decode cX12_pair 23 = .ok (.aload_n 0, 1) := by decide +kernel
theorem yt_X12_pair_24 : decode cX12_pair 24 = .ok (.iload_n 2, 1) := by decide +kernel
theorem yt_X12_pair_25 : decode cX12_pair 25 = .ok (.invokevirtual 320, 3) := by decide +kernel
theorem yt_X12_pair_28 : decode cX12_pair 28 = .ok (.ifCond .eq 16, 3) := by decide +kernel
theorem yt_X12_pair_31 : decode cX12_pair 31 = .ok (.aload_n 0, 1) := by decide +kernel
theorem yt_X12_pair_32 : decode cX12_pair 32 = .ok (.iload_n 3, 1) := by decide +kernel
theorem yt_X12_pair_33 : decode cX12_pair 33 = .ok (.invokevirtual 320, 3) := by decide +kernel
theorem yt_X12_pair_36 : decode cX12_pair 36 = .ok (.ifCond .eq 8, 3) := by decide +kernel
theorem yt_X12_pair_39 : decode cX12_pair 39 = .ok (.iload_n 2, 1) := by decide +kernel
theorem yt_X12_pair_40 : decode cX12_pair 40 = .ok (.iload_n 3, 1) := by decide +kernel
theorem yt_X12_pair_41 : decode cX12_pair 41 = .ok (.if_icmp .ne 5, 3) := by decide +kernel
theorem yt_X12_pair_46 : decode cX12_pair 46 = .ok (.iconst 0, 1) := by decide +kernel
theorem yt_X12_pair_47 : decode cX12_pair 47 = .ok (.istore 5, 2) := by decide +kernel
theorem yt_X12_pair_49 : decode cX12_pair 49 = .ok (.iconst (-1), 1) := by decide +kernel
theorem yt_X12_pair_50 : decode cX12_pair 50 = .ok (.istore 6, 2) := by decide +kernel
theorem yt_X12_pair_52 : decode cX12_pair 52 = .ok (.iconst 0, 1) := by decide +kernel
theorem yt_X12_pair_53 : decode cX12_pair 53 = .ok (.istore 7, 2) := by decide +kernel
def xp_X12_pair (n : Nat) (K : Nat → yK) : yX := (xLd 0 100037 (xCst 0 0 (xPut0 35 0 0 (xLd 4 0 (xCst 0 0 (xCst 0 2 (xCalR 3 [0, 0, 0] 0 (f_X12_in n) (xEq0 (xCst 0 (-1) xRi) (xLd 0 100037 (xLd 1 0 (xCalR 2 [100037, 0] 0 (f_X12_layTold n) (xEq0 (xCst 0 (-1) xRi) (xLd 0 100037 (xLd 2 0 (xCalR 2 [100037, 0] 0 (f_X12_isBoat n) (xEq0 (xCst 0 (-1) xRi) (xLd 0 100037 (xLd 3 0 (xCalR 2 [100037, 0] 0 (f_X12_isBoat n) (xEq0 (xCst 0 (-1) xRi) (xLd 2 0 (xLd 3 0 (xEq (xCst 0 (-1) xRi) (xCst 0 0 (xSt 5 0 (xCst 0 (-1) (xSt 6 0 (xCst 0 0 (xSt 7 0 (xJ [(0, 100037), (1, 0), (2, 0), (3, 0), (4, 0), (5, 0), (6, 0), (7, 0)] [] (K 55)))))))))))))))))))))))))))))))
theorem s_X12_pair {η : zRn} {D : va_G} {cy : Nat → ClassId} {L : List Nat} {Θ : Nat → Option Nat} {p : Program} {l : Launch} {e : Env} {R : Room} {s : State} {m : MethodId} {args : Array Value} {below : List Frame} {meth : Method} {c : Code} {Q : State → Prop} {Qr : yQt} {n : Nat} {K : Nat → yK} (Z : yCz η zkdm D vwCl cy L Θ 9 p l e R s m args below meth c Q cX12_pair (tyW cy) RX12 zTW zKPr tyW (some .int) 7 162 Qr) (hI55 : yGo η zkdm D vwCl cy L Θ 9 p l e R s m args below meth c Q 55 (xw Qr 0 (xJ [(0, 100037), (1, 0), (2, 0), (3, 0), (4, 0), (5, 0), (6, 0), (7, 0)] [] (K 55)))) : yGo η zkdm D vwCl cy L Θ 9 p l e R s m args below meth c Q 0 (xw Qr 0 (xp_X12_pair n K)) := (yr_mono x_ld (yr_aload_n Z.1 rfl (by decide) yt_X12_pair_0 (yr_mono x_cst (yr_iconst Z.1 yt_X12_pair_1 (by decide) (yr_mono x_put0 (yr_put0 (lo := (-2147483648)) (hi := 2147483647) Z.1 yf_RX12_117 (by decide +kernel) (Or.inl ⟨rfl, rfl, rfl⟩) (by decide) yt_X12_pair_2 (yr_mono x_ld (yr_iload Z.1 yt_X12_pair_5 (yr_mono x_cst (yr_iconst Z.1 yt_X12_pair_7 (by decide) (yr_mono x_cst (yr_iconst Z.1 yt_X12_pair_8 (by decide) (yr_mono x_calR (yr_calR rfl (y_hrunS Z (y := (yX12_in, cX12_in, 3, (some .boolean))) (m_X12_in l) (ycs_of yw_X12_in 129 yt_X12_pair_9 yl_RX12_129 rfl (by decide) (by decide))) (yr_mono x_eq0 (yr_eq0 Z.1 yt_X12_pair_12 (by first | decide | rfl) (yr_mono x_cst (yr_iconst Z.1 yt_X12_pair_44 (by decide) (yr_mono x_ri (yr_ri Z rfl yt_X12_pair_45)))) (yr_mono x_ld (yr_aload_n Z.1 rfl (by decide) yt_X12_pair_15 (yr_mono x_ld (yr_iload_n Z.1 rfl yt_X12_pair_16 (yr_mono x_calR (yr_calR rfl (y_hrunV Z (y := (yX12_layTold, cX12_layTold, 2, (some .boolean))) (m_X12_layTold l) (ycv_of yw_X12_layTold 424 yt_X12_pair_17 yl_RX12_424 rfl (by decide) (by decide) ⟨35, _, _, _, _, rfl, zkdm_35, rfl, rfl⟩)) (yr_mono x_eq0 (yr_eq0 Z.1 yt_X12_pair_20 (by first | decide | rfl) (yr_mono x_cst (yr_iconst Z.1 yt_X12_pair_44 (by decide) (yr_mono x_ri (yr_ri Z rfl yt_X12_pair_45)))) (yr_mono x_ld (yr_aload_n Z.1 rfl (by decide) yt_X12_pair_23 (yr_mono x_ld (yr_iload_n Z.1 rfl yt_X12_pair_24 (yr_mono x_calR (yr_calR rfl (y_hrunV Z (y := (yX12_isBoat, cX12_isBoat, 2, (some .boolean))) (m_X12_isBoat l) (ycv_of yw_X12_isBoat 320 yt_X12_pair_25 yl_RX12_320 rfl (by decide) (by decide) ⟨35, _, _, _, _, rfl, zkdm_35, rfl, rfl⟩)) (yr_mono x_eq0 (yr_eq0 Z.1 yt_X12_pair_28 (by first | decide | rfl) (yr_mono x_cst (yr_iconst Z.1 yt_X12_pair_44 (by decide) (yr_mono x_ri (yr_ri Z rfl yt_X12_pair_45)))) (yr_mono x_ld (yr_aload_n Z.1 rfl (by decide) yt_X12_pair_31 (yr_mono x_ld (yr_iload_n Z.1 rfl yt_X12_pair_32 (yr_mono x_calR (yr_calR rfl (y_hrunV Z (y := (yX12_isBoat, cX12_isBoat, 2, (some .boolean))) (m_X12_isBoat l) (ycv_of yw_X12_isBoat 320 yt_X12_pair_33 yl_RX12_320 rfl (by decide) (by decide) ⟨35, _, _, _, _, rfl, zkdm_35, rfl, rfl⟩)) (yr_mono x_eq0 (yr_eq0 Z.1 yt_X12_pair_36 (by first | decide | rfl) (yr_mono x_cst (yr_iconst Z.1 yt_X12_pair_44 (by decide) (yr_mono x_ri (yr_ri Z rfl yt_X12_pair_45)))) (yr_mono x_ld (yr_iload_n Z.1 rfl yt_X12_pair_39 (yr_mono x_ld (yr_iload_n Z.1 rfl yt_X12_pair_40 (yr_mono x_eq (yr_ne Z.1 yt_X12_pair_41 (by first | decide | rfl) (yr_mono x_cst (yr_iconst Z.1 yt_X12_pair_46 (by decide) (yr_mono x_st (yr_istore Z.1 (by decide) yt_X12_pair_47 (yr_mono x_cst (yr_iconst Z.1 yt_X12_pair_49 (by decide) (yr_mono x_st (yr_istore Z.1 (by decide) yt_X12_pair_50 (yr_mono x_cst (yr_iconst Z.1 yt_X12_pair_52 (by decide) (yr_mono x_st (yr_istore Z.1 (by decide) yt_X12_pair_53 hI55)))))))))))) (yr_mono x_cst (yr_iconst Z.1 yt_X12_pair_44 (by decide) (yr_mono x_ri (yr_ri Z rfl yt_X12_pair_45))))))))))))))))))))))))))))))))))))))))))))))))))
def f_X12_pair : yFn := fun n ys h => (fun n => xp_X12_pair n (xl_X12_pair n)) n (yar 0 ([100037, 0, 0, 0, 0].zip ys)) [] h
theorem m_X12_pair (l : Launch) : yMet zkdm vwCl zTW zKPr l (yX12_pair, cX12_pair, 9, (some .int)) 7 162 [100037, 0, 0, 0, 0] (yF 0 f_X12_pair) := y_metF zkpr_ok zTW_good (yX12_pair, cX12_pair, 9, (some .int)) 7 162 [100037, 0, 0, 0, 0] 0 (fun n => xp_X12_pair n (xl_X12_pair n)) (by decide +kernel) (by decide) (fun η D cy L Θ p e R s m args below meth c Q Qr n Z => s_X12_pair (n := n) (K := xl_X12_pair n) Z (l_X12_pair Z n))
set_option maxRecDepth 100000 in
theorem e_X12_pair_55 {n : Nat} {x1 x2 x3 x4 x5 x6 x7 : Int} {h : yH} : xl_X12_pair (n + 1) 55 [35, x1, x2, x3, x4, x5, x6, x7] h = xg (-2147483648 ≤ 64 * (h 35 24) ∧ 64 * (h 35 24) ≤ 2147483647) (xg (-2147483648 ≤ (64 * (h 35 24)) * (h 35 25) ∧ (64 * (h 35 24)) * (h 35 25) ≤ 2147483647) (if x7 < ((64 * (h 35 24)) * (h 35 25)) then (xg (-2147483648 ≤ (h 35 24) * (h 35 25) ∧ (h 35 24) * (h 35 25) ≤ 2147483647) (if (yari 4 x7 64) < ((h 35 24) * (h 35 25)) then (xg (h 35 30 = 10) (xg (0 ≤ x2 ∧ x2 < 6) (xg (0 ≤ (yari 3 x7 64) ∧ (yari 3 x7 64) ≤ 63) (xg (h 35 30 = 10) (xg (0 ≤ x3 ∧ x3 < 6) (xg (0 ≤ (yari 4 x7 64) ∧ (yari 4 x7 64) ≤ 63) (xb (f_X12_shoalsFrom n [35, x2] (zup (zup h 10 x2.toNat (yari 3 x7 64)) 10 x3.toNat (yari 4 x7 64))) (fun v1 h1 => xb (f_X12_shoalsFrom n [35, x3] h1) (fun v2 h2 => xb (f_X12_fishOf n [35, (yari 8 v1 v2)] h2) (fun v3 h3 => if x6 < v3 then (xb (f_X12_greater n [x6, v3] h3) (fun v5 h5 => xg (-2147483648 ≤ x7 + 1 ∧ x7 + 1 ≤ 2147483647) (xl_X12_pair n 55 [35, x1, x2, x3, x4, x7, v5, (x7 + 1)] h5))) else (xb (f_X12_greater n [x6, v3] h3) (fun v4 h4 => xg (-2147483648 ≤ x7 + 1 ∧ x7 + 1 ≤ 2147483647) (xl_X12_pair n 55 [35, x1, x2, x3, x4, x5, v4, (x7 + 1)] h4))))))))))))) else (xg (-2147483648 ≤ x7 + 1 ∧ x7 + 1 ≤ 2147483647) (xl_X12_pair n 55 [35, x1, x2, x3, x4, x5, x6, (x7 + 1)] h)))) else (if x4 = 0 then (some ((yari 3 x5 64), h)) else (if x4 = 1 then (some ((yari 4 x5 64), h)) else (some (x6, h)))))) := by rfl
set_option maxRecDepth 100000 in
theorem e_X12_pair {n : Nat} {x1 x2 x3 x4 : Int} {h : yH} : f_X12_pair n [35, x1, x2, x3, x4] h = xb (f_X12_in n [x4, 0, 2] (zup h 35 0 0)) (fun v6 h6 => if v6 = 0 then (some ((-1), h6)) else (xb (f_X12_layTold n [35, x1] h6) (fun v7 h7 => if v7 = 0 then (some ((-1), h7)) else (xb (f_X12_isBoat n [35, x2] h7) (fun v8 h8 => if v8 = 0 then (some ((-1), h8)) else (xb (f_X12_isBoat n [35, x3] h8) (fun v9 h9 => if v9 = 0 then (some ((-1), h9)) else (if x2 = x3 then (some ((-1), h9)) else (xl_X12_pair n 55 [35, x1, x2, x3, x4, 0, (-1), 0] h9))))))))) := by rfl
end
section
/-! a day begins: class and reference -/
def cPr (h : yH) : Prop := h 130 2 = 131 ∧ h 130 3 = 138 ∧ h 130 4 = 139 ∧ h 130 5 = 140 ∧ h 130 15 = 141 ∧ h 131 0 = 132 ∧ h 131 1 = 133 ∧ h 131 2 = 134 ∧ h 131 3 = 135 ∧ h 131 4 = 136 ∧ h 131 5 = 137
theorem cPr.fr {h h2 : yH} (hp : cPr h) (e : ∀ a j, (a = 130 ∧ (j = 2 ∨ j = 3 ∨ j = 4 ∨ j = 5 ∨ j = 15)) ∨ (a = 131 ∧ j ≤ 5) → h2 a j = h a j) : cPr h2 := by
  obtain ⟨p1, p2, p3, p4, p5, p6, p7, p8, p9, p10, p11⟩ := hp
  exact ⟨by rw [e _ _ (by omega)]; exact p1, by rw [e _ _ (by omega)]; exact p2, by rw [e _ _ (by omega)]; exact p3, by rw [e _ _ (by omega)]; exact p4, by rw [e _ _ (by omega)]; exact p5, by rw [e _ _ (by omega)]; exact p6, by rw [e _ _ (by omega)]; exact p7, by rw [e _ _ (by omega)]; exact p8, by rw [e _ _ (by omega)]; exact p9, by rw [e _ _ (by omega)]; exact p10, by rw [e _ _ (by omega)]; exact p11⟩
/-- a shoal more -/
def adH (S : Nat) (c f d : Int) (h : yH) : yH := zup (zup (zup (zup (zup (zup (zup (zup h 132 S c) 133 S f) 134 S d) 137 S (-1)) 135 S 0) 136 S (-1)) 131 6 (yari 8 (h 131 6) (yari 5 1 (S : Int)))) 131 7 ((S : Int) + 1)
theorem add_e {n S : Nat} {c f d : Int} {h : yH} (hp : cPr h) (h7 : h 131 7 = (S : Int)) (hS : S < 6) : f_X7_add n [131, c, f, d] h = some (0, adH S c f d h) := by
  obtain ⟨p1, p2, p3, p4, p5, p6, p7, p8, p9, p10, p11⟩ := hp
  rw [e_X7_add, h7, if_pos (by omega), xg_pos p6, xg_pos (by omega), xg_pos p7, xg_pos (by omega), xg_pos p8, xg_pos (by omega), xg_pos p11, xg_pos (by omega), xg_pos p9, xg_pos (by omega), xg_pos p10, xg_pos (by omega), xg_pos (by omega), xg_pos (by omega), Int.toNat_natCast]
  rfl
/-- so many shoals added -/
def adI (t : Nat → Int) (k : Nat) (h : yH) : Prop := h 131 7 = (k : Int) ∧ (0 ≤ h 131 6 ∧ h 131 6 ≤ 63) ∧ (∀ i, i < 6 → (bt (h 131 6) i = true ↔ i < k)) ∧ ∀ i, i < k → h 132 i = t (19 + 3 * i) ∧ h 133 i = t (20 + 3 * i) ∧ h 134 i = t (21 + 3 * i) ∧ h 137 i = -1 ∧ h 135 i = 0 ∧ h 136 i = -1
theorem adH_fr {S : Nat} {c f d : Int} {h : yH} {a j : Nat} (w : ¬ (a = 131 ∧ (j = 6 ∨ j = 7)) ∧ ¬ ((a = 132 ∨ a = 133 ∨ a = 134 ∨ a = 135 ∨ a = 136 ∨ a = 137) ∧ j = S)) : adH S c f d h a j = h a j := by
  unfold adH
  rw [zup_ne (by omega), zup_ne (by omega), zup_ne (by omega), zup_ne (by omega), zup_ne (by omega), zup_ne (by omega), zup_ne (by omega), zup_ne (by omega)]
theorem adH_v {S : Nat} {c f d : Int} {h : yH} : adH S c f d h 131 7 = (S : Int) + 1 ∧ adH S c f d h 131 6 = yari 8 (h 131 6) (yari 5 1 (S : Int)) ∧ adH S c f d h 132 S = c ∧ adH S c f d h 133 S = f ∧ adH S c f d h 134 S = d ∧ adH S c f d h 137 S = -1 ∧ adH S c f d h 135 S = 0 ∧ adH S c f d h 136 S = -1 := by
  unfold adH
  refine ⟨?_, ?_, ?_, ?_, ?_, ?_, ?_, ?_⟩ <;> simp [zup]
theorem bit_add {m : Int} {S : Nat} (hm : 0 ≤ m ∧ m ≤ 63) (hS : S < 6) : (0 ≤ yari 8 m (yari 5 1 (S : Int)) ∧ yari 8 m (yari 5 1 (S : Int)) ≤ 63) ∧ ∀ i, i < 6 → (bt (yari 8 m (yari 5 1 (S : Int))) i = true ↔ bt m i = true ∨ i = S) := by
  obtain ⟨s1, s2, s3, s4⟩ := shF ⟨S, hS⟩
  obtain ⟨o1, o2, o3, o4⟩ := or_b hm s1
  refine ⟨o1, fun i hi => ?_⟩
  have q := s4 ⟨i, hi⟩
  simp only at q
  rw [o2 i hi, Bool.or_eq_true, q, decide_eq_true_iff]
theorem adI_s {t : Nat → Int} {k : Nat} {h : yH} (I : adI t k h) (hk : k < 6) : adI t (k + 1) (adH k (t (19 + 3 * k)) (t (20 + 3 * k)) (t (21 + 3 * k)) h) := by
  obtain ⟨i1, i2, i3, i4⟩ := I
  obtain ⟨v1, v2, v3, v4, v5, v6, v7, v8⟩ := adH_v (S := k) (c := t (19 + 3 * k)) (f := t (20 + 3 * k)) (d := t (21 + 3 * k)) (h := h)
  obtain ⟨b1, b2⟩ := bit_add i2 hk
  refine ⟨by rw [v1]; omega, by rw [v2]; exact b1, fun i hi => ?_, fun i hi => ?_⟩
  · rw [v2, b2 i hi, i3 i hi]
    omega
  · by_cases q : i = k
    · rw [q]
      exact ⟨v3, v4, v5, v6, v7, v8⟩
    · rw [adH_fr (by omega), adH_fr (by omega), adH_fr (by omega), adH_fr (by omega), adH_fr (by omega), adH_fr (by omega)]
      exact i4 i (by omega)
theorem sbeg_l {b : Nat} {t : Nat → Int} (hb : b + 8 ≤ 130) (hW : tW0 t) : ∀ (m k n : Nat) (h : yH), 5 - k = m → (k : Int) ≤ t 5 → m ≤ n → cPr h → cS b t h → cSp b h → adI t k h →
    ∃ h2, xl_X7_begin n 12 [131, (b : Int), (k : Int)] h = some (0, h2) ∧ adI t (t 5).toNat h2 ∧ ∀ a j, ¬ (a = 131 ∧ (j = 6 ∨ j = 7)) → ¬ (132 ≤ a ∧ a ≤ 137) → h2 a j = h a j := by
  have w5 := hW.sl
  intro m
  induction m with
  | zero => intro k n h e1 e2; omega
  | succ m ih =>
    intro k n h e1 e2 e3 hp hS hsp I
    obtain ⟨n, rfl⟩ : ∃ n', n = n' + 1 := ⟨n - 1, by omega⟩
    obtain ⟨a0, a1, a2, a3, a4, a5, a6, a7, a8, a9, a10⟩ := id hS
    rw [e_X7_begin_12, Int.toNat_natCast, a5]
    by_cases c : (k : Int) < t 5
    · obtain ⟨q1, q2, q3⟩ := a9 k c
      have e2' : ((b : Int) + 2).toNat = b + 2 := by omega
      have e3' : ((b : Int) + 3).toNat = b + 3 := by omega
      have e4' : ((b : Int) + 4).toNat = b + 4 := by omega
      rw [if_pos c, xg_pos hsp.2.1, xg_pos (by omega), xg_pos hsp.2.2.1, xg_pos (by omega), xg_pos hsp.2.2.2.1, xg_pos (by omega), e2', e3', e4', Int.toNat_natCast, q1, q2, q3, add_e hp I.1 (by omega), xb_some, xg_pos (by omega), show (k : Int) + 1 = ((k + 1 : Nat) : Int) by omega]
      have fr : ∀ a j, ¬ (a = 131 ∧ (j = 6 ∨ j = 7)) → ¬ (132 ≤ a ∧ a ≤ 137) → adH k (t (19 + 3 * k)) (t (20 + 3 * k)) (t (21 + 3 * k)) h a j = h a j := fun a j w1 w2 => adH_fr (by omega)
      obtain ⟨h2, f1, f2, f3⟩ := ih (k + 1) n _ (by omega) (by omega) (by omega) (hp.fr (fun a j w => fr a j (by omega) (by omega))) (hS.fr (fun a j w1 w2 => fr a j (by omega) (by omega))) (hsp.fr (fun j _ => fr b j (by omega) (by omega))) (adI_s I (by omega))
      exact ⟨h2, f1, f2, fun a j w1 w2 => (f3 a j w1 w2).trans (fr a j w1 w2)⟩
    · refine ⟨h, ?_, ?_, fun _ _ _ _ => rfl⟩
      · rw [if_neg c]
      · rw [show (t 5).toNat = k by omega]
        exact I
/-- so many boats laid -/
theorem rbeg_l {b : Nat} {x2 x3 x4 : Int} {t : Nat → Int} (hb : b + 8 ≤ 130) : ∀ (m k n : Nat) (h : yH), m + k = 6 → m < n → cPr h → cSp b h → (∀ i : Nat, (i : Int) < t 6 → h (b + 5) i = t (31 + 3 * i)) → (∀ i : Nat, i < k → (i : Int) < t 6 → h 138 i = t (31 + 3 * i) ∧ h 139 i = 0 ∧ h 140 i = 0) →
    ∃ h2, xl_X5_begin n 21 [130, (b : Int), x2, x3, x4, (k : Int)] h = some (0, h2) ∧ (h2 130 6 = 0 ∧ h2 130 7 = 0 ∧ h2 130 13 = x3 ∧ h2 130 14 = x4) ∧ (∀ i : Nat, i < 6 → (i : Int) < t 6 → h2 138 i = t (31 + 3 * i) ∧ h2 139 i = 0 ∧ h2 140 i = 0) ∧ ∀ a j, ¬ (a = 130 ∧ (j = 6 ∨ j = 7 ∨ j = 13 ∨ j = 14)) → ¬ (138 ≤ a ∧ a ≤ 140) → h2 a j = h a j := by
  intro m
  induction m with
  | zero =>
    intro k n h e1 e2 hp hsp hc hk
    obtain ⟨n, rfl⟩ : ∃ n', n = n' + 1 := ⟨n - 1, by omega⟩
    refine ⟨zup (zup (zup (zup h 130 6 0) 130 7 0) 130 13 x3) 130 14 x4, ?_, ?_, fun i h1 h2 => ?_, fun a j w1 w2 => ?_⟩
    · rw [e_X5_begin_21, if_neg (by omega)]
    · refine ⟨?_, ?_, ?_, ?_⟩ <;> simp [zup]
    · rw [zup_ne (by omega), zup_ne (by omega), zup_ne (by omega), zup_ne (by omega), zup_ne (by omega), zup_ne (by omega), zup_ne (by omega), zup_ne (by omega), zup_ne (by omega), zup_ne (by omega), zup_ne (by omega), zup_ne (by omega)]
      exact hk i (by omega) h2
    · rw [zup_ne (by omega), zup_ne (by omega), zup_ne (by omega), zup_ne (by omega)]
  | succ m ih =>
    intro k n h e1 e2 hp hsp hc hk
    obtain ⟨n, rfl⟩ : ∃ n', n = n' + 1 := ⟨n - 1, by omega⟩
    obtain ⟨p1, p2, p3, p4, p5, p6, p7, p8, p9, p10, p11⟩ := id hp
    have e5 : ((b : Int) + 5).toNat = b + 5 := by omega
    rw [e_X5_begin_21, if_pos (by omega), xg_pos p2, Int.toNat_natCast, xg_pos hsp.2.2.2.2.1, xg_pos (by omega), xg_pos (by omega), xg_pos p3, xg_pos (by omega), xg_pos p4, xg_pos (by omega), xg_pos (by omega), e5, Int.toNat_natCast, show (k : Int) + 1 = ((k + 1 : Nat) : Int) by omega]
    have fr : ∀ a j, ¬ ((a = 138 ∨ a = 139 ∨ a = 140) ∧ j = k) → (zup (zup (zup h 138 k (h (b + 5) k)) 139 k 0) 140 k 0) a j = h a j := fun a j w => by
      rw [zup_ne (by omega), zup_ne (by omega), zup_ne (by omega)]
    have vk : (zup (zup (zup h 138 k (h (b + 5) k)) 139 k 0) 140 k 0) 138 k = h (b + 5) k ∧ (zup (zup (zup h 138 k (h (b + 5) k)) 139 k 0) 140 k 0) 139 k = 0 ∧ (zup (zup (zup h 138 k (h (b + 5) k)) 139 k 0) 140 k 0) 140 k = 0 := by
      refine ⟨?_, ?_, ?_⟩ <;> simp [zup]
    generalize zup (zup (zup h 138 k (h (b + 5) k)) 139 k 0) 140 k 0 = g1 at fr vk
    obtain ⟨h2, f1, f2, f3, f4⟩ := ih (k + 1) n g1 (by omega) (by omega) (hp.fr (fun a j w => fr a j (by omega))) (hsp.fr (fun j _ => fr b j (by omega))) (fun i hi => by rw [fr _ _ (by omega)]; exact hc i hi) (fun i h1 h2 => by
      by_cases q : i = k
      · rw [q, vk.1, vk.2.1, vk.2.2]
        rw [q] at h2
        exact ⟨hc k h2, rfl, rfl⟩
      · rw [fr _ _ (by omega), fr _ _ (by omega), fr _ _ (by omega)]
        exact hk i (by omega) h2)
    exact ⟨h2, f1, f2, f3, fun a j w1 w2 => (f4 a j w1 w2).trans (fr a j (by omega))⟩
/-- what begin() of the class leaves -/
def rbR (b e : Nat) (seed gl : Int) (t : Nat → Int) (h h2 : yH) : Prop := cPr h2 ∧ h2 130 0 = (b : Int) ∧ h2 130 1 = (e : Int) ∧ (h2 130 6 = 0 ∧ h2 130 7 = 0 ∧ h2 130 13 = seed ∧ h2 130 14 = gl) ∧ adI t (t 5).toNat h2 ∧ (∀ i : Nat, i < 6 → (i : Int) < t 6 → h2 138 i = t (31 + 3 * i) ∧ h2 139 i = 0 ∧ h2 140 i = 0) ∧ ∀ a j, ¬ (a = 130 ∧ (j = 0 ∨ j = 1 ∨ j = 6 ∨ j = 7 ∨ j = 13 ∨ j = 14)) → ¬ (a = 131 ∧ (j = 6 ∨ j = 7)) → ¬ (132 ≤ a ∧ a ≤ 140) → h2 a j = h a j
theorem rbegin_e {n b e : Nat} {seed gl : Int} {t : Nat → Int} {h : yH} (hn : 20 ≤ n) (hb : b + 8 ≤ 130) (he : e ≤ 1000) (hW : tW0 t) (hp : cPr h) (hS : cS b t h) (hsp : cSp b h) : ∃ h2, f_X5_begin n [130, (b : Int), (e : Int), seed, gl] h = some (0, h2) ∧ rbR b e seed gl t h h2 := by
  have fr0 : ∀ a j, ¬ (a = 130 ∧ (j = 0 ∨ j = 1)) → (zup (zup h 130 0 (b : Int)) 130 1 (e : Int)) a j = h a j := fun a j w => by
    rw [zup_ne (by omega), zup_ne (by omega)]
  have v0 : (zup (zup h 130 0 (b : Int)) 130 1 (e : Int)) 130 0 = (b : Int) := by rw [zup_ne (by omega), zup_at]
  have v1 : (zup (zup h 130 0 (b : Int)) 130 1 (e : Int)) 130 1 = (e : Int) := zup_at _ _ _ _
  have key : f_X5_begin n [130, (b : Int), (e : Int), seed, gl] h = xb (f_X7_begin n [131, (b : Int)] (zup (zup h 130 0 (b : Int)) 130 1 (e : Int))) (fun _ h1 => xl_X5_begin n 21 [130, (b : Int), (e : Int), seed, gl, 0] h1) := by
    rw [e_X5_begin, xg_pos (by omega), xg_pos (by omega), xg_pos hp.1]
  rw [key]
  generalize zup (zup h 130 0 (b : Int)) 130 1 (e : Int) = hA at fr0 v0 v1
  have frB : ∀ a j, ¬ (a = 131 ∧ (j = 6 ∨ j = 7)) → (zup (zup hA 131 7 0) 131 6 0) a j = hA a j := fun a j w => by
    rw [zup_ne (by omega), zup_ne (by omega)]
  have I0 : adI t 0 (zup (zup hA 131 7 0) 131 6 0) := by
    have e6 : (zup (zup hA 131 7 0) 131 6 0) 131 6 = 0 := zup_at _ _ _ _
    refine ⟨by rw [zup_ne (by omega), zup_at]; rfl, by rw [e6]; decide, fun i hi => ?_, fun i hi => absurd hi (by omega)⟩
    rw [e6]
    have z : ∀ c : Fin 6, bt 0 c.val = false := by decide +kernel
    have := z ⟨i, hi⟩
    simp only at this
    rw [this]
    constructor
    · intro w; cases w
    · intro w; omega
  have pA : cPr hA := hp.fr (fun a j w => fr0 a j (by omega))
  have sA : cS b t hA := hS.fr (fun a j w1 w2 => fr0 a j (by omega))
  have spA : cSp b hA := hsp.fr (fun j _ => fr0 b j (by omega))
  obtain ⟨h2, f1, f2, f3⟩ := sbeg_l hb hW 5 0 n _ rfl hW.sl.1 (by omega) (pA.fr (fun a j w => frB a j (by omega))) (sA.fr (fun a j w1 w2 => frB a j (by omega))) (spA.fr (fun j _ => frB b j (by omega))) I0
  have f1' : f_X7_begin n [131, (b : Int)] hA = some (0, h2) := by
    rw [e_X7_begin]
    exact f1
  have fr2 : ∀ a j, ¬ (a = 131 ∧ (j = 6 ∨ j = 7)) → ¬ (132 ≤ a ∧ a ≤ 137) → h2 a j = hA a j := fun a j w1 w2 => (f3 a j w1 w2).trans (frB a j w1)
  have s2 : cS b t h2 := sA.fr (fun a j w1 w2 => fr2 a j (by omega) (by omega))
  obtain ⟨h3, k1, k2, k3, k4⟩ := rbeg_l (x2 := (e : Int)) (x3 := seed) (x4 := gl) (t := t) hb 6 0 n h2 rfl (by omega) (pA.fr (fun a j w => fr2 a j (by omega) (by omega))) (spA.fr (fun j _ => fr2 b j (by omega) (by omega))) (fun i hi => (s2.2.2.2.2.2.2.2.2.2.2 i hi).1) (fun i hi => absurd hi (by omega))
  have fr3 : ∀ a j, ¬ (a = 130 ∧ (j = 6 ∨ j = 7 ∨ j = 13 ∨ j = 14)) → ¬ (a = 131 ∧ (j = 6 ∨ j = 7)) → ¬ (132 ≤ a ∧ a ≤ 140) → h3 a j = hA a j := fun a j w1 w2 w3 => (k4 a j w1 (by omega)).trans (fr2 a j w2 (by omega))
  refine ⟨h3, ?_, pA.fr (fun a j w => fr3 a j (by omega) (by omega) (by omega)), by rw [fr3 _ _ (by omega) (by omega) (by omega)]; exact v0, by rw [fr3 _ _ (by omega) (by omega) (by omega)]; exact v1, k2, ?_, k3, fun a j w1 w2 w3 => ?_⟩
  · rw [f1', xb_some]
    exact k1
  · obtain ⟨i1, i2, i3, i4⟩ := f2
    have z : ∀ a j, 131 ≤ a → a ≤ 137 → h3 a j = h2 a j := fun a j w1 w2 => k4 a j (by omega) (by omega)
    refine ⟨by rw [z _ _ (by omega) (by omega)]; exact i1, by rw [z _ _ (by omega) (by omega)]; exact i2, fun i hi => by rw [z _ _ (by omega) (by omega)]; exact i3 i hi, fun i hi => ?_⟩
    rw [z _ _ (by omega) (by omega), z _ _ (by omega) (by omega), z _ _ (by omega) (by omega), z _ _ (by omega) (by omega), z _ _ (by omega) (by omega), z _ _ (by omega) (by omega)]
    exact i4 i hi
  · rw [fr3 a j (by omega) w2 w3, fr0 a j (by omega)]
end
section
/-! the days: boats' cells laid into a sea -/
def bU (t p : Nat → Int) : Nat → Int := fun j => if 31 ≤ j ∧ j < 49 ∧ (j - 31) % 3 = 0 then p ((j - 31) / 3) else t j
theorem bU_p {t p : Nat → Int} {i : Nat} (hi : i < 6) : bU t p (31 + 3 * i) = p i := by
  unfold bU
  rw [if_pos (by omega), show (31 + 3 * i - 31) / 3 = i by omega]
theorem bU_n {t p : Nat → Int} {j : Nat} (h : ¬ (31 ≤ j ∧ j < 49 ∧ (j - 31) % 3 = 0)) : bU t p j = t j := if_neg h
theorem bU_W {t p : Nat → Int} (hW : tW0 t) (hp : ∀ i, i < 6 → 0 ≤ p i ∧ p i ≤ 63) : tW0 (bU t p) := by
  obtain ⟨h0, h1, h2, h3, h4, h5, h6, h7, h8, h9, h10⟩ := hW
  have ne : ∀ j, j < 31 ∨ j = 49 → bU t p j = t j := fun j hj => bU_n (by omega)
  refine ⟨?_, ?_, ?_, ?_, ?_, ?_, ?_, ?_, fun c hc => ?_, fun s hs => ?_, fun b hb => ?_⟩
  · rw [ne _ (by omega)]; exact h0
  · rw [ne _ (by omega)]; exact h1
  · rw [ne _ (by omega)]; exact h2
  · rw [ne _ (by omega)]; exact h3
  · rw [ne _ (by omega)]; exact h4
  · rw [ne _ (by omega)]; exact h5
  · rw [ne _ (by omega)]; exact h6
  · rw [ne _ (by omega)]; exact h7
  · rw [ne _ (by omega), ne _ (by omega), ne _ (by omega), ne _ (by omega)]; exact h8 c hc
  · rw [ne _ (by omega), ne _ (by omega), ne _ (by omega), ne _ (by omega)]; exact h9 s hs
  · obtain ⟨k1, k2, k3⟩ := h10 b hb
    rw [bU_p hb, bU_n (j := 32 + 3 * b) (by omega), bU_n (j := 33 + 3 * b) (by omega)]
    exact ⟨hp b hb, k2, k3⟩
theorem bU_up {t p : Nat → Int} {b : Nat} {x : Int} (hb : b < 6) : bU t (tU p b x) = tU (bU t p) (31 + 3 * b) x := by
  funext j
  by_cases q : j = 31 + 3 * b
  · rw [q, bU_p hb, tU_at, tU_at]
  · rw [tU_ne q]
    unfold bU
    by_cases w : 31 ≤ j ∧ j < 49 ∧ (j - 31) % 3 = 0
    · rw [if_pos w, if_pos w, tU_ne (by omega)]
    · rw [if_neg w, if_neg w]
theorem hearersR_l {b a : Nat} {fr vo : Int} {t p : Nat → Int} {h : yH} (hS : cS b t h) (hW : tW0 (bU t p)) (hp : ∀ i : Nat, (i : Int) < t 6 → h 138 i = p i) (hfr : 0 ≤ fr ∧ fr ≤ 63) : ∀ (m k n : Nat), 7 - k = m → (k : Int) ≤ t 6 → m ≤ n → xl_X6_hearers_r n 6 [(b : Int), (a : Int), fr, vo, 138, hst (bU t p) fr vo a k, (k : Int)] h = some (hst (bU t p) fr vo a (t 6).toNat, h) := by
  have z0 : bU t p 0 = t 0 := bU_n (by omega)
  have z2 : bU t p 2 = t 2 := bU_n (by omega)
  have z3 : bU t p 3 = t 3 := bU_n (by omega)
  have z6 : bU t p 6 = t 6 := bU_n (by omega)
  have z49 : bU t p 49 = t 49 := bU_n (by omega)
  obtain ⟨w0, w1, w2, w3, w6⟩ := hW.wd
  rw [z0] at w0
  rw [z3] at w3
  rw [z6] at w6
  obtain ⟨a0, a1, a2, a3, a4, a5, a6, a7, a8, a9, a10⟩ := id hS
  intro m
  induction m with
  | zero => intro k n e1 e2; omega
  | succ m ih =>
    intro k n e1 e2 e3
    obtain ⟨n, rfl⟩ : ∃ n', n = n' + 1 := ⟨n - 1, by omega⟩
    rw [e_X6_hearers_r_6, Int.toNat_natCast, a6, a7]
    by_cases c : (k : Int) < t 6
    · have nx := ih (k + 1) n (by omega) (by omega) (by omega)
      have wb : 0 ≤ p k ∧ p k ≤ 63 := by
        have := (hW.bt (b := k) (by omega)).1
        rw [bU_p (show k < 6 by omega)] at this
        exact this
      have zk : bU t p (31 + 3 * k) = p k := bU_p (by omega)
      rw [if_pos c]
      by_cases c1 : (k : Int) = (a : Int)
      · rw [if_pos c1, e_X6_hearers_r_38, if_pos rfl, xg_pos (by omega), show (k : Int) + 1 = ((k + 1 : Nat) : Int) by omega]
        rw [hst_f (hq_f (fun q => q.1 (by omega)))] at nx
        exact nx
      · rw [if_neg c1]
        by_cases c2 : yari 7 (yari 6 (t 49) (k : Int)) 1 = 0
        · rw [if_pos c2, e_X6_hearers_r_38, if_neg (by decide), xg_pos (by omega), show (138 : Int).toNat = 138 from rfl, Int.toNat_natCast, hp k c, cost_e a0 a2 a3 w0 w3 hfr wb, xb_some]
          by_cases c3 : vo < cst (t 0) (t 2) (t 3) fr (p k)
          · rw [if_pos c3, xg_pos (by omega), show (k : Int) + 1 = ((k + 1 : Nat) : Int) by omega]
            rw [hst_f (hq_f (fun q => by
              have q2 := q.2.2
              rw [z0, z2, z3, zk] at q2
              omega))] at nx
            exact nx
          · rw [if_neg c3, xg_pos (by omega), show (k : Int) + 1 = ((k + 1 : Nat) : Int) by omega]
            rw [hst_t (hq_t (fun q => c1 (by omega)) (by rw [z49]; exact c2) (by rw [z0, z2, z3, zk]; omega))] at nx
            exact nx
        · rw [if_neg c2, e_X6_hearers_r_38, if_pos rfl, xg_pos (by omega), show (k : Int) + 1 = ((k + 1 : Nat) : Int) by omega]
          rw [hst_f (hq_f (fun q => by
            have q2 := q.2.1
            rw [z49] at q2
            exact c2 q2))] at nx
          exact nx
    · rw [if_neg c, show (t 6).toNat = k by omega]
theorem hrs_bU {t p : Nat → Int} {a : Nat} (ha : a < 6) : hrs (bU t p) a = hst (bU t p) (p a) (t (32 + 3 * a)) a (t 6).toNat := by
  unfold hrs
  rw [bU_p ha, bU_n (j := 32 + 3 * a) (by omega), bU_n (j := 6) (by omega)]
/-- what is told on the class's side, and the run's pointers -/
def dC (b e : Nat) (t d : Nat → Int) (h : yH) : Prop := (b ≤ 30 ∧ e ≤ 50) ∧ cPr h ∧ h 130 0 = (b : Int) ∧ h 130 1 = (e : Int) ∧ cS b t h ∧ cSp b h ∧ cD e d h ∧ h e 1 = (e : Int) + 1 ∧ h e 2 = (e : Int) + 2
theorem dC.fr {b e : Nat} {t d : Nat → Int} {h h2 : yH} (H : dC b e t d h) (f : ∀ a j, a < 130 ∨ (a = 130 ∧ (j ≤ 5 ∨ j = 15)) ∨ (a = 131 ∧ j ≤ 5) → h2 a j = h a j) : dC b e t d h2 := by
  obtain ⟨⟨q1, q2⟩, k1, k2, k3, k4, k5, k6, k7, k8⟩ := H
  exact ⟨⟨q1, q2⟩, k1.fr (fun a j w => f a j (by omega)), by rw [f _ _ (by omega)]; exact k2, by rw [f _ _ (by omega)]; exact k3, k4.fr (fun a j w1 w2 => f a j (by omega)), k5.fr (fun j _ => f b j (by omega)), k6.fr (fun a j w1 w2 => f a j (by omega)), by rw [f _ _ (by omega)]; exact k7, by rw [f _ _ (by omega)]; exact k8⟩
theorem hearersR_e {b e n a : Nat} {t d p : Nat → Int} {h : yH} (hn : 7 ≤ n) (H : dC b e t d h) (hW : tW0 (bU t p)) (hp : ∀ i : Nat, (i : Int) < t 6 → h 138 i = p i) (ha : (a : Int) < t 6) (ha6 : a < 6) : f_X6_hearers_r n [(b : Int), (a : Int), p a, t (32 + 3 * a), 138] h = some (hrs (bU t p) a, h) := by
  have w := (hW.bt ha6).1
  rw [bU_p ha6] at w
  rw [e_X6_hearers_r, hrs_bU ha6]
  exact hearersR_l H.2.2.2.2.1 hW hp w 7 0 n rfl (by have := hW.wd.2.2.2.2; rw [bU_n (j := 6) (by omega)] at this; omega) hn
theorem hearersNow_e {b e n a : Nat} {t d p : Nat → Int} {h : yH} (hn : 7 ≤ n) (H : dC b e t d h) (hW : tW0 (bU t p)) (hp : ∀ i : Nat, (i : Int) < t 6 → h 138 i = p i) (ha : (a : Int) < t 6) (ha6 : a < 6) : f_X5_hearersNow n [130, (a : Int)] h = some (hrs (bU t p) a, h) := by
  obtain ⟨-, k1, k2, k3, k4, k5, -⟩ := id H
  have e6 : ((b : Int) + 6).toNat = b + 6 := by omega
  rw [e_X5_hearersNow, k2, Int.toNat_natCast, xg_pos (by omega), xg_pos k1.2.1, xg_pos (by omega), xg_pos (by omega), xg_pos k5.2.2.2.2.2.1, xg_pos (by omega), xg_pos k1.2.1, Int.toNat_natCast, e6, hp a ha, (k4.2.2.2.2.2.2.2.2.2.2 a ha).2.1, hearersR_e hn H hW hp ha ha6, xb_some]
/-! what a claim lacks -/
def hdN (till hol hr : Int) : Int := if till < hr then -1 else hol
def lkB (a b c : Bool) : Int := (if a = true then 1 else 0) + (if b = true then 2 else 0) + (if c = true then 4 else 0)
theorem holderAt_e {n i : Nat} {hr : Int} {h : yH} (hp : cPr h) (hi : i < 6) : f_X7_holderAt n [131, (i : Int), hr] h = some (hdN (h 136 i) (h 137 i) hr, h) := by
  obtain ⟨p1, p2, p3, p4, p5, p6, p7, p8, p9, p10, p11⟩ := hp
  rw [e_X7_holderAt, xg_pos p10, xg_pos (by omega), Int.toNat_natCast]
  unfold hdN
  by_cases c : h 136 i < hr
  · rw [if_pos c, if_pos c]
  · rw [if_neg c, if_neg c, xg_pos p11, xg_pos (by omega)]
def lkC (t : Nat → Int) (a : Nat) (hol w ac ic : Int) : Int := lkB (decide (hol ≠ -1 ∧ hol ≠ (a : Int))) (decide (bcn w < lawV t a 1)) (decide (lawV t a 2 < cst (t 0) (t 2) (t 3) ac ic))
theorem lkB_b : ∀ a b c : Bool, 0 ≤ lkB a b c ∧ lkB a b c ≤ 7 := by decide
theorem lkC_0 {t : Nat → Int} {a : Nat} {hol w ac ic : Int} : 0 ≤ lkC t a hol w ac ic ∧ lkC t a hol w ac ic ≤ 7 := lkB_b _ _ _
theorem so_e {v w : Int} {h : yH} (e : v = w) : some (v, h) = some (w, h) := by rw [e]
theorem lackC_e {n b e a i : Nat} {w : Int} {t d : Nat → Int} {h : yH} (H : dC b e t d h) (hW : tW0 t) (ha : (a : Int) < t 6) (hi : i < 6) (hw : 0 ≤ w ∧ w ≤ 63) (hpa : 0 ≤ h 138 a ∧ h 138 a ≤ 63) (hci : 0 ≤ h 132 i ∧ h 132 i ≤ 63) : f_X5_lacking n [130, (a : Int), (i : Int), w] h = some (lkC t a (hdN (h 136 i) (h 137 i) (h 130 6)) w (h 138 a) (h 132 i), h) := by
  obtain ⟨-, k1, k2, k3, k4, k5, -⟩ := id H
  have d0 := hW.wd
  have l1 := lawC_e (n := n) (w := 1) k4 k5 hW ha (by decide)
  have l2 := lawC_e (n := n) (w := 2) k4 k5 hW ha (by decide)
  rw [show ((1 : Nat) : Int) = 1 from rfl] at l1
  rw [show ((2 : Nat) : Int) = 2 from rfl] at l2
  have key : ∀ x4 x5 : Int, xq_X5_lacking_57 n [130, (a : Int), (i : Int), w, x4, x5] h = some (if lawV t a 2 < cst (t 0) (t 2) (t 3) (h 138 a) (h 132 i) then yari 8 x4 4 else x4, h) := by
    intro x4 x5
    rw [e_X5_lacking_57, k2, xg_pos (by omega), xg_pos k1.2.1, xg_pos (by omega), xg_pos k1.1, xg_pos k1.2.2.2.2.2.1, xg_pos (by omega), Int.toNat_natCast, Int.toNat_natCast, cost_e k4.1 k4.2.2.1 k4.2.2.2.1 d0.1 d0.2.2.2.1 hpa hci, xb_some, k2, xg_pos (by omega), l2, xb_some]
    by_cases c : lawV t a 2 < cst (t 0) (t 2) (t 3) (h 138 a) (h 132 i)
    · rw [if_pos c, if_pos c]
    · rw [if_neg c, if_neg c]
  rw [e_X5_lacking, xg_pos k1.1, holderAt_e k1 hi, xb_some]
  unfold lkC lkB
  generalize hdN (h 136 i) (h 137 i) (h 130 6) = hol
  by_cases c1 : hol = -1
  · rw [if_pos c1, bc_e hw, xb_some, k2, xg_pos (by omega), l1, xb_some, decide_eq_false (show ¬ (hol ≠ -1 ∧ hol ≠ (a : Int)) from fun q => q.1 c1), key, key]
    by_cases c2 : bcn w < lawV t a 1
    · rw [if_pos c2, decide_eq_true c2]
      by_cases c3 : lawV t a 2 < cst (t 0) (t 2) (t 3) (h 138 a) (h 132 i)
      · rw [if_pos c3, decide_eq_true c3]; exact so_e (by decide +kernel)
      · rw [if_neg c3, decide_eq_false c3]; exact so_e (by decide +kernel)
    · rw [if_neg c2, decide_eq_false c2]
      by_cases c3 : lawV t a 2 < cst (t 0) (t 2) (t 3) (h 138 a) (h 132 i)
      · rw [if_pos c3, decide_eq_true c3]; exact so_e (by decide +kernel)
      · rw [if_neg c3, decide_eq_false c3]; exact so_e (by decide +kernel)
  · rw [if_neg c1]
    by_cases c4 : hol = (a : Int)
    · rw [if_pos c4, bc_e hw, xb_some, k2, xg_pos (by omega), l1, xb_some, decide_eq_false (show ¬ (hol ≠ -1 ∧ hol ≠ (a : Int)) from fun q => q.2 c4), key, key]
      by_cases c2 : bcn w < lawV t a 1
      · rw [if_pos c2, decide_eq_true c2]
        by_cases c3 : lawV t a 2 < cst (t 0) (t 2) (t 3) (h 138 a) (h 132 i)
        · rw [if_pos c3, decide_eq_true c3]; exact so_e (by decide +kernel)
        · rw [if_neg c3, decide_eq_false c3]; exact so_e (by decide +kernel)
      · rw [if_neg c2, decide_eq_false c2]
        by_cases c3 : lawV t a 2 < cst (t 0) (t 2) (t 3) (h 138 a) (h 132 i)
        · rw [if_pos c3, decide_eq_true c3]; exact so_e (by decide +kernel)
        · rw [if_neg c3, decide_eq_false c3]; exact so_e (by decide +kernel)
    · rw [if_neg c4, bc_e hw, xb_some, k2, xg_pos (by omega), l1, xb_some, decide_eq_true (show hol ≠ -1 ∧ hol ≠ (a : Int) from ⟨c1, c4⟩), key, key]
      by_cases c2 : bcn w < lawV t a 1
      · rw [if_pos c2, decide_eq_true c2]
        by_cases c3 : lawV t a 2 < cst (t 0) (t 2) (t 3) (h 138 a) (h 132 i)
        · rw [if_pos c3, decide_eq_true c3]; exact so_e (by decide +kernel)
        · rw [if_neg c3, decide_eq_false c3]; exact so_e (by decide +kernel)
      · rw [if_neg c2, decide_eq_false c2]
        by_cases c3 : lawV t a 2 < cst (t 0) (t 2) (t 3) (h 138 a) (h 132 i)
        · rw [if_pos c3, decide_eq_true c3]; exact so_e (by decide +kernel)
        · rw [if_neg c3, decide_eq_false c3]; exact so_e (by decide +kernel)
/-! the gulls -/
def gdS (sd : Int) : Int := yari 0 (yari 2 sd 1103515245) 12345
def gdV (sd : Int) : Int := yari 4 (yushr (gdS sd) 16) 10
theorem ushr_b {x : Int} : 0 ≤ yushr x 16 ∧ yushr x 16 ≤ 65535 := by
  unfold yushr
  generalize Int32.ofInt x = a
  have e : (a.toUInt32 >>> ((Int32.ofInt 16).toUInt32 &&& Int32.toUInt32 31)).toNat = a.toUInt32.toNat / 65536 := by
    rw [show ((Int32.ofInt 16).toUInt32 &&& Int32.toUInt32 31) = (16 : UInt32) from by decide, UInt32.toNat_shiftRight, Nat.shiftRight_eq_div_pow]
    rfl
  have b := a.toUInt32.toNat_lt
  generalize a.toUInt32 >>> ((Int32.ofInt 16).toUInt32 &&& Int32.toUInt32 31) = y at e
  have hy : y.toNat ≤ 65535 := by omega
  have e2 : y.toInt32.toInt = (y.toNat : Int) := by
    rw [← Int32.toInt_toBitVec]
    show y.toBitVec.toInt = _
    rw [BitVec.toInt_eq_toNat_of_lt (by show 2 * y.toNat < _; omega)]
    rfl
  rw [e2]
  omega
theorem rem10_b {y : Int} (hy : 0 ≤ y ∧ y ≤ 65535) : 0 ≤ yari 4 y 10 := by
  unfold yari
  show 0 ≤ (Int32.ofInt y % Int32.ofInt 10).toInt
  rw [Int32.toInt_mod, Int32.toInt_ofInt_of_le (by omega) (by omega)]
  exact Int.tmod_nonneg _ hy.1
theorem gdV_0 (sd : Int) : 0 ≤ gdV sd := rem10_b ushr_b
theorem drawBelow_e {n : Nat} {h : yH} : f_X5_drawBelow n [130, 10] h = some (gdV (h 130 13), zup h 130 13 (gdS (h 130 13))) := by
  rw [e_X5_drawBelow, xh_e, if_neg (by decide), xg_pos (by decide), zup_at]
  rfl
theorem draw_e {n : Nat} {g : yH} : f_X12_draw n [35, 10] g = some (gdV (g 35 51), zup g 35 51 (gdS (g 35 51))) := by
  rw [e_X12_draw, xh_e, xg_pos (by decide), zup_at]
  rfl
/-- one hears no longer -/
def clr (x : Int) (k : Nat) : Int := yari 7 x (yari 9 (yari 5 1 (k : Int)) (-1))
theorem clrF : ∀ x : Fin 64, ∀ k : Fin 6, (0 ≤ clr (x.val : Int) k.val ∧ clr (x.val : Int) k.val ≤ 63) ∧ ∀ j : Fin 6, bt (clr (x.val : Int) k.val) j.val = (bt (x.val : Int) j.val && decide (j.val ≠ k.val)) := by decide +kernel
theorem clr_b {x : Int} {k : Nat} (hx : 0 ≤ x ∧ x ≤ 63) (hk : k < 6) : (0 ≤ clr x k ∧ clr x k ≤ 63) ∧ ∀ j, j < 6 → bt (clr x k) j = (bt x j && decide (j ≠ k)) := by
  obtain ⟨f1, f2⟩ := clrF ⟨x.toNat, by omega⟩ ⟨k, hk⟩
  simp only at f1 f2
  rw [show ((x.toNat : Nat) : Int) = x by omega] at f1 f2
  exact ⟨f1, fun j hj => f2 ⟨j, hj⟩⟩
def gdA (K H : Int) : Nat → Nat → Int → Int → Int × Int
  | 0, _, x, sd => (x, sd)
  | m + 1, k, x, sd => if bt H k = true then (if gdV sd < K then gdA K H m (k + 1) (clr x k) (gdS sd) else gdA K H m (k + 1) x (gdS sd)) else gdA K H m (k + 1) x sd
theorem gdA_b {K H : Int} : ∀ (m k : Nat) (x sd : Int), m + k = 6 → 0 ≤ x ∧ x ≤ 63 → 0 ≤ (gdA K H m k x sd).1 ∧ (gdA K H m k x sd).1 ≤ 63 := by
  intro m
  induction m with
  | zero => intro k x sd e hx; exact hx
  | succ m ih =>
    intro k x sd e hx
    simp only [gdA]
    split
    · split
      · exact ih _ _ _ (by omega) (clr_b hx (by omega)).1
      · exact ih _ _ _ (by omega) hx
    · exact ih _ _ _ (by omega) hx
theorem gdA_z {K H : Int} : ∀ (m k : Nat) (x sd : Int), (∀ j, k ≤ j → j < k + m → bt H j = false) → gdA K H m k x sd = (x, sd) := by
  intro m
  induction m with
  | zero => intro k x sd e; rfl
  | succ m ih =>
    intro k x sd e
    simp only [gdA]
    rw [e k (Nat.le_refl _) (by omega), if_neg (by decide)]
    exact ih _ _ _ (fun j h1 h2 => e j (by omega) (by omega))
theorem gdA_n {K H : Int} (hK : K < 1) : ∀ (m k : Nat) (x sd : Int), (gdA K H m k x sd).1 = x := by
  intro m
  induction m with
  | zero => intro k x sd; rfl
  | succ m ih =>
    intro k x sd
    have := gdV_0 sd
    simp only [gdA]
    split
    · rw [if_neg (by omega)]
      exact ih _ _ _
    · exact ih _ _ _
theorem gullC_l {K H : Int} (hH : 0 ≤ H ∧ H ≤ 63) : ∀ (m k n : Nat) (x : Int) (h : yH), m + k = 6 → m < n → h 130 8 = H → h 130 14 = K → xl_X5_heardDespiteGulls n 20 [130, x, (k : Int)] h = some ((gdA K H m k x (h 130 13)).1, zup h 130 13 (gdA K H m k x (h 130 13)).2) := by
  intro m
  induction m with
  | zero =>
    intro k n x h e1 e2 e3 e4
    obtain ⟨n, rfl⟩ : ∃ n', n = n' + 1 := ⟨n - 1, by omega⟩
    rw [e_X5_heardDespiteGulls_20, if_neg (by omega)]
    simp only [gdA]
    rw [zup_self]
  | succ m ih =>
    intro k n x h e1 e2 e3 e4
    obtain ⟨n, rfl⟩ : ∃ n', n = n' + 1 := ⟨n - 1, by omega⟩
    have q := (bit_b hH).2 k (by omega)
    rw [e_X5_heardDespiteGulls_20, if_pos (by omega), e3]
    simp only [gdA]
    by_cases c : bt H k = true
    · rw [if_pos (q.mpr c), if_pos c, drawBelow_e, xb_some, zup_ne (show ¬ (130 = 130 ∧ 14 = 13) by omega), e4]
      have nx := fun y => ih (k + 1) n y (zup h 130 13 (gdS (h 130 13))) (by omega) (by omega) (by rw [zup_ne (by omega)]; exact e3) (by rw [zup_ne (by omega)]; exact e4)
      simp only [zup_at, zup_up] at nx
      by_cases c2 : gdV (h 130 13) < K
      · rw [if_pos c2, if_pos c2, xg_pos (by omega), show (k : Int) + 1 = ((k + 1 : Nat) : Int) by omega]
        exact nx _
      · rw [if_neg c2, if_neg c2, xg_pos (by omega), show (k : Int) + 1 = ((k + 1 : Nat) : Int) by omega]
        exact nx _
    · rw [if_neg (fun w => c (q.mp w)), if_neg c, xg_pos (by omega), show (k : Int) + 1 = ((k + 1 : Nat) : Int) by omega]
      exact ih (k + 1) n x h (by omega) (by omega) e3 e4
theorem gullR_l {K H : Int} {b B : Nat} (hH : 0 ≤ H ∧ H ≤ 63) (hB : B ≤ 6) (hz : ∀ j, B ≤ j → j < 6 → bt H j = false) (hK : K ≠ -1) : ∀ (m k n : Nat) (x : Int) (g : yH), m + k = 6 → k ≤ B → m < n → (0 ≤ x ∧ x ≤ 63) → (∀ j, k ≤ j → j < 6 → bt x j = bt H j) → g 35 28 = (B : Int) → g 35 50 = K → xl_X12_heardNow n 8 [35, (b : Int), x, (k : Int)] g = some ((gdA K H m k x (g 35 51)).1, zup g 35 51 (gdA K H m k x (g 35 51)).2) := by
  intro m
  induction m with
  | zero =>
    intro k n x g e1 e2 e3 hx hj e4 e5
    obtain ⟨n, rfl⟩ : ∃ n', n = n' + 1 := ⟨n - 1, by omega⟩
    rw [e_X12_heardNow_8, e4, if_neg (by omega)]
    simp only [gdA]
    rw [zup_self]
  | succ m ih =>
    intro k n x g e1 e2 e3 hx hj e4 e5
    obtain ⟨n, rfl⟩ : ∃ n', n = n' + 1 := ⟨n - 1, by omega⟩
    by_cases cB : k < B
    · have hk := hj k (Nat.le_refl _) (by omega)
      rw [e_X12_heardNow_8, e4, if_pos (by omega), e5, if_neg hK, isIn_e hx (by omega), xb_some]
      simp only [gdA]
      have ebt : bt x k = decide (x / 2 ^ k % 2 = 1) := rfl
      by_cases c : bt H k = true
      · have c' : x / 2 ^ k % 2 = 1 := by
          rw [c, ebt] at hk
          exact of_decide_eq_true hk
        rw [if_neg (by omega), if_pos c, draw_e, xb_some, zup_ne (show ¬ (35 = 35 ∧ 50 = 51) by omega), e5]
        have nx := fun y y1 y2 => ih (k + 1) n y (zup g 35 51 (gdS (g 35 51))) (by omega) (by omega) (by omega) y1 y2 (by rw [zup_ne (by omega)]; exact e4) (by rw [zup_ne (by omega)]; exact e5)
        simp only [zup_at, zup_up] at nx
        by_cases c2 : gdV (g 35 51) < K
        · rw [if_pos c2, if_pos c2, xg_pos (by omega), show (k : Int) + 1 = ((k + 1 : Nat) : Int) by omega]
          obtain ⟨f1, f2⟩ := clr_b hx (show k < 6 by omega)
          refine nx _ f1 (fun j h1 h2 => ?_)
          show bt (clr x k) j = bt H j
          rw [f2 j h2, hj j (by omega) h2, decide_eq_true (show j ≠ k by omega), Bool.and_true]
        · rw [if_neg c2, if_neg c2, xg_pos (by omega), show (k : Int) + 1 = ((k + 1 : Nat) : Int) by omega]
          exact nx _ hx (fun j h1 h2 => hj j (by omega) h2)
      · have c' : x / 2 ^ k % 2 = 0 := by
          have h2 : x / 2 ^ k % 2 = 0 ∨ x / 2 ^ k % 2 = 1 := by
            generalize x / 2 ^ k = z
            omega
          rcases h2 with w | w
          · exact w
          · exfalso
            rw [ebt, decide_eq_true w] at hk
            exact c hk.symm
        rw [if_pos c', if_neg c, xg_pos (by omega), show (k : Int) + 1 = ((k + 1 : Nat) : Int) by omega]
        exact ih (k + 1) n x g (by omega) (by omega) (by omega) hx (fun j h1 h2 => hj j (by omega) h2) e4 e5
    · rw [e_X12_heardNow_8, e4, if_neg (by omega), gdA_z _ _ _ _ (fun j h1 h2 => hz j (by omega) (by omega)), zup_self]
end
section
/-! one day on class and reference -/
def dG (s dd : Nat) (t d u : Nat → Int) (g : yH) : Prop := hv s t u g ∧ (dd < 2 ∧ g 35 33 = (dd : Int)) ∧ g 35 29 = t 5 ∧ ∀ j, j < 121 → g 6 (121 * dd + j) = d j
def nqj (j : Nat) : Prop := j ≠ 34 ∧ j ≠ 35 ∧ j ≠ 49 ∧ j ≠ 50 ∧ j ≠ 51
theorem rQs_nq {j : Nat} (h : j ∈ rQs) : nqj j := by
  have : ∀ j ∈ rQs, j ≠ 34 ∧ j ≠ 35 ∧ j ≠ 49 ∧ j ≠ 50 ∧ j ≠ 51 := by decide
  exact this j h
theorem sH.nf {s : Nat} {t : Nat → Int} {g g2 : yH} (H : sH s t g) (f : ∀ a j, a = 5 ∨ (a = 35 ∧ nqj j) → g2 a j = g a j) : sH s t g2 := H.fr (fun a j w => f a j (by
  rcases w with w | ⟨w, w2 | w2⟩
  · exact Or.inl w
  · exact Or.inr ⟨w, by unfold nqj; omega⟩
  · exact Or.inr ⟨w, rQs_nq w2⟩))
theorem hv.nf {s : Nat} {t u : Nat → Int} {g g2 : yH} (H : hv s t u g) (f : ∀ a j, a = 5 ∨ a = 10 ∨ a = 11 ∨ (a = 35 ∧ nqj j) → g2 a j = g a j) : hv s t u g2 := by
  obtain ⟨k1, k2, k3, k4, k5, k6, k7, k8⟩ := H
  have f35 : ∀ j, 24 ≤ j → j ≤ 28 → g2 35 j = g 35 j := fun j h1 h2 => f 35 j (by unfold nqj; omega)
  refine ⟨k1.nf (fun a j w => f a j (by unfold nqj at w ⊢; omega)), k2, by rw [f35 _ (by omega) (by omega)]; exact k3, by rw [f35 _ (by omega) (by omega)]; exact k4, by rw [f35 _ (by omega) (by omega)]; exact k5, by rw [f35 _ (by omega) (by omega)]; exact k6, by rw [f35 _ (by omega) (by omega)]; exact k7, fun i hi => ?_⟩
  rw [f 10 i (by omega), f 11 i (by omega)]
  exact k8 i hi
theorem dG.fr {s dd : Nat} {t d u : Nat → Int} {g g2 : yH} (H : dG s dd t d u g) (f : ∀ a j, a = 5 ∨ a = 6 ∨ a = 10 ∨ a = 11 ∨ (a = 35 ∧ nqj j) → g2 a j = g a j) : dG s dd t d u g2 := by
  obtain ⟨k1, ⟨k2, k3⟩, k5, k4⟩ := H
  refine ⟨k1.nf (fun a j w => f a j (by unfold nqj at w ⊢; omega)), ⟨k2, ?_⟩, ?_, fun j hj => ?_⟩
  · rw [f 35 33 (by unfold nqj; omega)]; exact k3
  · rw [f 35 29 (by unfold nqj; omega)]; exact k5
  · rw [f 6 _ (by omega)]; exact k4 j hj
/-- hour, names told twice, gulls -/
def dN (K : Int) (h g : yH) : Prop := h 130 6 = g 35 34 ∧ (0 ≤ g 35 34 ∧ g 35 34 ≤ 30) ∧ h 130 7 = g 35 49 ∧ (0 ≤ g 35 49 ∧ g 35 49 ≤ 63) ∧ h 130 14 = K ∧ (0 ≤ K ∧ K ≤ 10) ∧ (g 35 50 = K ∨ (g 35 50 = -1 ∧ K = 0)) ∧ (1 ≤ K → h 130 13 = g 35 51)
/-- a shoal -/
def sI (M B : Int) (i : Nat) (h g : yH) : Prop := ((0 ≤ g 13 i ∧ g 13 i < M) ∧ (0 ≤ g 14 i ∧ g 14 i ≤ 99) ∧ (0 ≤ g 15 i ∧ g 15 i ≤ 4) ∧ (0 ≤ g 19 i ∧ g 19 i ≤ 20) ∧ (-1 ≤ g 16 i ∧ g 16 i ≤ 60) ∧ -1 ≤ g 20 i ∧ g 20 i < B) ∧ (0 < g 14 i → h 132 i = g 13 i ∧ h 133 i = g 14 i ∧ h 134 i = g 15 i ∧ h 135 i = g 19 i ∧ h 136 i = g 16 i ∧ h 137 i = g 20 i)
theorem sI.fr {M B : Int} {i : Nat} {h h2 g g2 : yH} (H : sI M B i h g) (e : g2 13 i = g 13 i ∧ g2 14 i = g 14 i ∧ g2 15 i = g 15 i ∧ g2 19 i = g 19 i ∧ g2 16 i = g 16 i ∧ g2 20 i = g 20 i) (e2 : h2 132 i = h 132 i ∧ h2 133 i = h 133 i ∧ h2 134 i = h 134 i ∧ h2 135 i = h 135 i ∧ h2 136 i = h 136 i ∧ h2 137 i = h 137 i) : sI M B i h2 g2 := by
  obtain ⟨a1, a2, a3, a4, a5, a6⟩ := e
  obtain ⟨b1, b2, b3, b4, b5, b6⟩ := e2
  unfold sI
  rw [a1, a2, a3, a4, a5, a6, b1, b2, b3, b4, b5, b6]
  exact H
def dS (M B : Int) (S : Nat) (h g : yH) : Prop := S ≤ 6 ∧ h 131 7 = (S : Int) ∧ g 35 35 = (S : Int) ∧ (0 ≤ h 131 6 ∧ h 131 6 ≤ 63) ∧ ∀ i, i < 6 → (bt (h 131 6) i = true ↔ i < S ∧ 0 < g 14 i) ∧ (i < S → sI M B i h g) ∧ (S ≤ i → g 20 i = -1 ∧ g 19 i = 0 ∧ g 16 i = -1)
theorem dS.fr {M B : Int} {S : Nat} {h h2 g g2 : yH} (H : dS M B S h g) (f : ∀ a j, (a = 131 ∧ (j = 6 ∨ j = 7)) ∨ (132 ≤ a ∧ a ≤ 137) → h2 a j = h a j) (e : ∀ a j, a = 13 ∨ a = 14 ∨ a = 15 ∨ a = 16 ∨ a = 19 ∨ a = 20 ∨ (a = 35 ∧ j = 35) → g2 a j = g a j) : dS M B S h2 g2 := by
  obtain ⟨k1, k2, k3, k4, k5⟩ := H
  refine ⟨k1, by rw [f _ _ (by omega)]; exact k2, by rw [e _ _ (by omega)]; exact k3, by rw [f _ _ (by omega)]; exact k4, fun i hi => ?_⟩
  obtain ⟨a1, a2, a3⟩ := k5 i hi
  refine ⟨by rw [f _ _ (by omega), e _ _ (by omega)]; exact a1, fun w => (a2 w).fr ⟨e _ _ (by omega), e _ _ (by omega), e _ _ (by omega), e _ _ (by omega), e _ _ (by omega), e _ _ (by omega)⟩ ⟨f _ _ (by omega), f _ _ (by omega), f _ _ (by omega), f _ _ (by omega), f _ _ (by omega), f _ _ (by omega)⟩, fun w => ?_⟩
  rw [e _ _ (by omega), e _ _ (by omega), e _ _ (by omega)]
  exact a3 w
/-- the boats: q lawful claims, c fish at most -/
def dB (M B : Int) (q c : Nat) (p : Nat → Int) (h g : yH) : Prop := (∀ i, i < 6 → 0 ≤ p i ∧ p i ≤ 63) ∧ ∀ i : Nat, (i : Int) < B → (h 138 i = p i ∧ p i < M) ∧ (h 139 i = g 17 i ∧ 0 ≤ g 17 i ∧ g 17 i ≤ (c : Int)) ∧ h 140 i = g 18 i ∧ 0 ≤ g 18 i ∧ g 18 i ≤ (q : Int)
theorem dB.fr {M B : Int} {q c q2 c2 : Nat} {p : Nat → Int} {h h2 g g2 : yH} (H : dB M B q c p h g) (hq : q ≤ q2) (hc : c ≤ c2) (f : ∀ a j, a = 138 ∨ a = 139 ∨ a = 140 → h2 a j = h a j) (e : ∀ a j, a = 17 ∨ a = 18 → g2 a j = g a j) : dB M B q2 c2 p h2 g2 := by
  refine ⟨H.1, fun i hi => ?_⟩
  obtain ⟨⟨a1, a2⟩, ⟨a3, a4, a5⟩, a6, a7, a8⟩ := H.2 i hi
  rw [f _ _ (by omega), f _ _ (by omega), f _ _ (by omega), e _ _ (by omega), e _ _ (by omega)]
  exact ⟨⟨a1, a2⟩, ⟨a3, a4, by omega⟩, a6, a7, by omega⟩
/-- sea and day, the hour, the shoals and the boats -/
def dR (b e s dd : Nat) (t d : Nat → Int) (K : Int) (S q c : Nat) (p : Nat → Int) (h g : yH) : Prop := dC b e t d h ∧ dG s dd t d (bU t p) g ∧ dN K h g ∧ dS (t 0 * t 1) (t 6) S h g ∧ dB (t 0 * t 1) (t 6) q c p h g
/-- told texts: sea, day -/
def dT (t d : Nat → Int) : Prop := tW0 t ∧ wh0 t ∧ tW1 d
/-- cells that the relation does not speak of -/
def nC (a j : Nat) : Prop := (a = 130 ∧ 8 ≤ j ∧ j ≤ 12) ∨ a = 141
def nR (a : Nat) : Prop := 21 ≤ a ∧ a ≤ 25
theorem dR.fr {b e s dd : Nat} {t d : Nat → Int} {K : Int} {S q c q2 c2 : Nat} {p : Nat → Int} {h h2 g g2 : yH} (H : dR b e s dd t d K S q c p h g) (hq : q ≤ q2) (hc : c ≤ c2) (f : ∀ a j, ¬ nC a j → h2 a j = h a j) (f2 : ∀ a j, ¬ nR a → g2 a j = g a j) : dR b e s dd t d K S q2 c2 p h2 g2 := by
  obtain ⟨k1, k2, k3, k4, k5⟩ := H
  unfold nC at f
  unfold nR at f2
  refine ⟨k1.fr (fun a j w => f a j (by omega)), k2.fr (fun a j w => f2 a j (by omega)), ?_, k4.fr (fun a j w => f a j (by omega)) (fun a j w => f2 a j (by omega)), k5.fr hq hc (fun a j w => f a j (by omega)) (fun a j w => f2 a j (by omega))⟩
  unfold dN
  rw [f _ _ (by omega), f _ _ (by omega), f _ _ (by omega), f _ _ (by omega), f2 _ _ (by omega), f2 _ _ (by omega), f2 _ _ (by omega), f2 _ _ (by omega)]
  exact k3
theorem dR.W {b e s dd : Nat} {t d : Nat → Int} {K : Int} {S q c : Nat} {p : Nat → Int} {h g : yH} (H : dR b e s dd t d K S q c p h g) (hT : dT t d) : tW0 (bU t p) := bU_W hT.1 H.2.2.2.2.1
theorem dR.hp {b e s dd : Nat} {t d : Nat → Int} {K : Int} {S q c : Nat} {p : Nat → Int} {h g : yH} (H : dR b e s dd t d K S q c p h g) : ∀ i : Nat, (i : Int) < t 6 → h 138 i = p i := fun i hi => (H.2.2.2.2.2 i hi).1.1
theorem dR.Q {b e s dd : Nat} {t d : Nat → Int} {K : Int} {S q c : Nat} {p : Nat → Int} {h g : yH} (H : dR b e s dd t d K S q c p h g) {j : Nat} {k : Int} (hm : (j, k) ∈ rQL) : g 35 j = k := H.2.1.1.1.2.2.2.p hm
/-- the boat's seat in the reference -/
theorem dR.bp {b e s dd : Nat} {t d : Nat → Int} {K : Int} {S q c : Nat} {p : Nat → Int} {h g : yH} (H : dR b e s dd t d K S q c p h g) (hT : dT t d) {i : Nat} (hi : (i : Int) < t 6) : g 10 i = p i ∧ g 11 i = t (32 + 3 * i) ∧ i < 6 ∧ (0 ≤ p i ∧ p i ≤ 63) ∧ p i < t 0 * t 1 := by
  have w6 := hT.1.wd.2.2.2.2
  have k := H.2.1.1.2.2.2.2.2.2.2 i (by rw [bU_n (j := 6) (by omega)]; exact hi)
  rw [bU_p (show i < 6 by omega), bU_n (j := 32 + 3 * i) (by omega)] at k
  exact ⟨k.1, k.2, by omega, H.2.2.2.2.1 i (by omega), (H.2.2.2.2.2 i hi).1.2⟩
theorem dR.sd {b e s dd : Nat} {t d : Nat → Int} {K s1 s2 : Int} {S q c : Nat} {p : Nat → Int} {h g : yH} (H : dR b e s dd t d K S q c p h g) (hs : 1 ≤ K → s1 = s2) : dR b e s dd t d K S q c p (zup h 130 13 s1) (zup g 35 51 s2) := by
  obtain ⟨k1, k2, k3, k4, k5⟩ := H
  refine ⟨k1.fr (fun a j w => zup_ne (by omega)), k2.fr (fun a j w => zup_ne (by unfold nqj at w; omega)), ?_, k4.fr (fun a j w => zup_ne (by omega)) (fun a j w => zup_ne (by omega)), k5.fr (Nat.le_refl _) (Nat.le_refl _) (fun a j w => zup_ne (by omega)) (fun a j w => zup_ne (by omega))⟩
  obtain ⟨n1, n2, n3, n4, n5, n6, n7, n8⟩ := k3
  unfold dN
  rw [zup_at, zup_at, zup_ne (show ¬ (130 = 130 ∧ 6 = 13) by omega), zup_ne (show ¬ (130 = 130 ∧ 7 = 13) by omega), zup_ne (show ¬ (130 = 130 ∧ 14 = 13) by omega), zup_ne (show ¬ (35 = 35 ∧ 34 = 51) by omega), zup_ne (show ¬ (35 = 35 ∧ 49 = 51) by omega), zup_ne (show ¬ (35 = 35 ∧ 50 = 51) by omega)]
  exact ⟨n1, n2, n3, n4, n5, n6, n7, hs⟩
theorem hearR_e {b e s dd : Nat} {t d : Nat → Int} {K : Int} {S q c : Nat} {p : Nat → Int} {h g : yH} {m a : Nat} (H : dR b e s dd t d K S q c p h g) (hT : dT t d) (hm : 12 ≤ m) (ha : (a : Int) < t 6) : f_X12_hearersOf m [35, (a : Int)] g = some (hrs (bU t p) a, g) := hearersOf_e hm H.2.1.1 (H.W hT) (by rw [bU_n (j := 6) (by omega)]; exact ha)
theorem hearC_e {b e s dd : Nat} {t d : Nat → Int} {K : Int} {S q c : Nat} {p : Nat → Int} {h g : yH} {n a : Nat} (H : dR b e s dd t d K S q c p h g) (hT : dT t d) (hn : 7 ≤ n) (ha : (a : Int) < t 6) : f_X5_hearersNow n [130, (a : Int)] h = some (hrs (bU t p) a, h) := hearersNow_e hn H.1 (H.W hT) H.hp ha (H.bp hT ha).2.2.1
theorem hrs_z {t p : Nat → Int} {a : Nat} (hW : tW0 (bU t p)) (ha : a < 6) : ∀ j : Nat, t 6 ≤ (j : Int) → j < 6 → bt (hrs (bU t p) a) j = false := by
  intro j h1 h2
  have z6 : bU t p 6 = t 6 := bU_n (by omega)
  have w := hW.wd.2.2.2.2
  rw [z6] at w
  have q := hrs_p (a := a) hW
  rw [z6] at q
  exact ((bit_b (hrs_b (a := a) hW)).1 (t 6).toNat (by omega) q).2 j h2 (by omega)
/-- who hears in spite of the gulls -/
theorem gull2 {b e s dd : Nat} {t d : Nat → Int} {K : Int} {S q c : Nat} {p : Nat → Int} {h g : yH} {n m a : Nat} (H : dR b e s dd t d K S q c p h g) (hT : dT t d) (hn : 7 ≤ n) (hm : 12 ≤ m) (ha : (a : Int) < t 6) (h8 : h 130 8 = hrs (bU t p) a) :
    ∃ v s1 s2, f_X5_heardDespiteGulls n [130] h = some (v, zup h 130 13 s1) ∧ f_X12_heardNow m [35, (a : Int)] g = some (v, zup g 35 51 s2) ∧ (1 ≤ K → s1 = s2) ∧ (0 ≤ v ∧ v ≤ 63) ∧ (K < 1 → v = hrs (bU t p) a) := by
  have hb := hrs_b (a := a) (H.W hT)
  obtain ⟨w1, w2, w3, w4, w5⟩ := H.bp hT ha
  have w6 := hT.1.wd.2.2.2.2
  obtain ⟨n1, n2, n3, n4, n5, n6, n7, n8⟩ := H.2.2.1
  have h28 : g 35 28 = t 6 := by
    rw [H.2.1.1.2.2.2.2.2.2.1, bU_n (j := 6) (by omega)]
  have hz : ∀ j, (t 6).toNat ≤ j → j < 6 → bt (hrs (bU t p) a) j = false := fun j h1 h2 => hrs_z (H.W hT) w3 j (by omega) h2
  rw [e_X5_heardDespiteGulls, n5, e_X12_heardNow, hearR_e H hT hm ha, xb_some, h8]
  by_cases c1 : K < 1
  · have c1' : K = 0 := by omega
    rw [if_pos (show K < 1 by omega)]
    by_cases c2 : g 35 50 = -1
    · refine ⟨hrs (bU t p) a, h 130 13, g 35 51, ?_, ?_, fun w => by omega, hb, fun _ => rfl⟩
      · rw [zup_self]
      · rw [zup_self]
        obtain ⟨m, rfl⟩ : ∃ m', m = m' + 1 := ⟨m - 1, by omega⟩
        rw [e_X12_heardNow_8, c2, if_pos rfl]
        split <;> rfl
    · have r := gullR_l (K := g 35 50) (b := a) (B := (t 6).toNat) hb (by omega) hz c2 6 0 m (hrs (bU t p) a) g (by omega) (by omega) (by omega) hb (fun j _ _ => rfl) (by rw [h28]; omega) rfl
      rw [gdA_n (by omega), show ((0 : Nat) : Int) = 0 from rfl] at r
      exact ⟨_, h 130 13, _, by rw [zup_self], r, fun w => by omega, hb, fun _ => rfl⟩
  · rw [if_neg (show ¬ K < 1 by omega)]
    have r := gullR_l (K := K) (b := a) (B := (t 6).toNat) hb (by omega) hz (by omega) 6 0 m (hrs (bU t p) a) g (by omega) (by omega) (by omega) hb (fun j _ _ => rfl) (by rw [h28]; omega) (by omega)
    have l := gullC_l (K := K) hb 6 0 n (hrs (bU t p) a) h (by omega) (by omega) h8 n5
    rw [n8 (by omega), show ((0 : Nat) : Int) = 0 from rfl] at l
    rw [show ((0 : Nat) : Int) = 0 from rfl] at r
    exact ⟨_, _, _, l, r, fun _ => rfl, gdA_b 6 0 _ _ (by omega) hb, fun w => by omega⟩
end
section
/-! a claim on both sides -/
theorem holderNow_e {n i : Nat} {g : yH} (hq : rQ g) (hi : i < 6) : f_X12_holderNow n [35, (i : Int)] g = some (hdN (g 16 i) (g 20 i) (g 35 34), g) := by
  rw [e_X12_holderNow, xg_pos (hq.p (j := 41) (k := 16) (by decide)), xg_pos (by omega), Int.toNat_natCast]
  unfold hdN
  by_cases c : g 16 i < g 35 34
  · rw [if_pos c, if_pos c]
  · rw [if_neg c, if_neg c, xg_pos (hq.p (j := 39) (k := 20) (by decide)), xg_pos (by omega)]
theorem law3_b {t : Nat → Int} {a w : Nat} (hW : tW0 t) (ha : a < 6) (hw : w < 4) : 0 ≤ lawV t a w ∧ lawV t a w ≤ 30 := by
  have q := hW.bt ha
  have h8 := hW.2.2.2.2.2.2.2.2.1 (t (33 + 3 * a)).toNat (by omega)
  unfold lawV
  generalize (t (33 + 3 * a)).toNat = k at *
  rcases (show w = 0 ∨ w = 1 ∨ w = 2 ∨ w = 3 by omega) with rfl | rfl | rfl | rfl
  · rw [Nat.add_zero]; omega
  · rw [show 7 + 4 * k + 1 = 8 + 4 * k by omega]; omega
  · rw [show 7 + 4 * k + 2 = 9 + 4 * k by omega]; omega
  · rw [show 7 + 4 * k + 3 = 10 + 4 * k by omega]; omega
/-- what class and reference say of one claim -/
theorem lack2 {b e s dd : Nat} {t d : Nat → Int} {K : Int} {S q c : Nat} {p : Nat → Int} {h g : yH} {n m a i : Nat} {w said : Int} (H : dR b e s dd t d K S q c p h g) (hT : dT t d) (hm : 17 ≤ m) (ha : (a : Int) < t 6) (hi : i < S) (h14 : 0 < g 14 i) (hw : 0 ≤ w ∧ w ≤ 63) :
    f_X5_lacking n [130, (a : Int), (i : Int), w] h = some (lkC t a (hdN (g 16 i) (g 20 i) (g 35 34)) w (p a) (g 13 i), h) ∧ f_X12_lackOf m [35, (a : Int), (i : Int), said, w] g = some (lkC t a (hdN (g 16 i) (g 20 i) (g 35 34)) w (p a) (g 13 i) + (if said < lawV t a 0 then 8 else 0), g) := by
  obtain ⟨w1, w2, w3, w4, w5⟩ := H.bp hT ha
  obtain ⟨S6, -, -, -, kS⟩ := id H.2.2.2.1
  obtain ⟨-, i2, -⟩ := kS i (by omega)
  obtain ⟨⟨j1, -⟩, i3⟩ := i2 hi
  obtain ⟨i4, i5, i6, i7, i8, i9⟩ := i3 h14
  have d0 := hT.1.wd
  have j2 := pW_63 hT.1.1 hT.1.2.1 j1
  obtain ⟨n1, -⟩ := id H.2.2.1
  have h138 := H.hp a ha
  constructor
  · have l := lackC_e (n := n) (i := i) (w := w) H.1 hT.1 ha (by omega) hw (by rw [h138]; exact w4) (by rw [i4]; exact j2)
    rw [h138, i4, i8, i9, n1] at l
    exact l
  · have hs := H.2.1.1.1
    have P : ∀ {j : Nat} {kk : Int}, (j, kk) ∈ rQL → g 35 j = kk := fun hm => H.Q hm
    have l0 := lawOf_e (n := m) (w := 0) hs hT.1 w3 (by decide)
    have l1 := lawOf_e (n := m) (w := 1) hs hT.1 w3 (by decide)
    have l2 := lawOf_e (n := m) (w := 2) hs hT.1 w3 (by decide)
    rw [show ((0 : Nat) : Int) = 0 from rfl] at l0
    rw [show ((1 : Nat) : Int) = 1 from rfl] at l1
    rw [show ((2 : Nat) : Int) = 2 from rfl] at l2
    have z0 : bU t p 0 = t 0 := bU_n (by omega)
    have z2 : bU t p 2 = t 2 := bU_n (by omega)
    have z3 : bU t p 3 = t 3 := bU_n (by omega)
    have v := H.2.1.1
    have fin : ∀ x5 x6 y0 y1 : Int, xq_X12_lackOf_47 m [35, (a : Int), (i : Int), said, w, x5, x6, y0, y1] g = some (if said < lawV t a 0 then yari 8 (yari 8 (yari 8 y1 y0) (if lawV t a 2 < cst (t 0) (t 2) (t 3) (p a) (g 13 i) then 4 else 0)) 8 else yari 8 (yari 8 y1 y0) (if lawV t a 2 < cst (t 0) (t 2) (t 3) (p a) (g 13 i) then 4 else 0), g) := by
      intro x5 x6 y0 y1
      rw [e_X12_lackOf_47, xg_pos (P (j := 30) (kk := 10) (by decide)), xg_pos (by omega), xg_pos (P (j := 36) (kk := 13) (by decide)), xg_pos (by omega), Int.toNat_natCast, Int.toNat_natCast, w1, costOf_e (by omega) (v.2.2.1.trans z0) (v.2.2.2.2.1.trans z2) (v.2.2.2.2.2.1.trans z3) d0.1 d0.2.2.1 d0.2.2.2.1 w4 j2, xb_some, l2, xb_some]
      by_cases c3 : lawV t a 2 < cst (t 0) (t 2) (t 3) (p a) (g 13 i)
      · rw [if_pos c3, if_pos c3, e_X12_lackOf_82, l0, xb_some]
        split <;> rfl
      · rw [if_neg c3, if_neg c3, e_X12_lackOf_82, l0, xb_some]
        split <;> rfl
    rw [e_X12_lackOf, holderNow_e hs.2.2.2 (by omega), xb_some]
    unfold lkC lkB
    generalize hdN (g 16 i) (g 20 i) (g 35 34) = hol
    have tail : ∀ (x5 : Int), (hol = -1 ∨ hol = (a : Int)) → xq_X12_lackOf_23 m [35, (a : Int), (i : Int), said, w, x5] g = some ((if decide (hol ≠ -1 ∧ hol ≠ (a : Int)) = true then 1 else 0) + (if decide (bcn w < lawV t a 1) = true then 2 else 0) + (if decide (lawV t a 2 < cst (t 0) (t 2) (t 3) (p a) (g 13 i)) = true then 4 else 0) + (if said < lawV t a 0 then 8 else 0), g) := by
      intro x5 hh
      rw [e_X12_lackOf_23, ones_e hm hw, xb_some, l1, xb_some, decide_eq_false (show ¬ (hol ≠ -1 ∧ hol ≠ (a : Int)) from fun q => by
        rcases hh with hh | hh
        · exact q.1 hh
        · exact q.2 hh), fin, fin]
      by_cases c2 : bcn w < lawV t a 1
      · rw [if_pos c2, decide_eq_true c2]
        by_cases c3 : lawV t a 2 < cst (t 0) (t 2) (t 3) (p a) (g 13 i)
        · rw [if_pos c3, decide_eq_true c3]
          by_cases c4 : said < lawV t a 0
          · rw [if_pos c4, if_pos c4]; exact so_e (by decide +kernel)
          · rw [if_neg c4, if_neg c4]; exact so_e (by decide +kernel)
        · rw [if_neg c3, decide_eq_false c3]
          by_cases c4 : said < lawV t a 0
          · rw [if_pos c4, if_pos c4]; exact so_e (by decide +kernel)
          · rw [if_neg c4, if_neg c4]; exact so_e (by decide +kernel)
      · rw [if_neg c2, decide_eq_false c2]
        by_cases c3 : lawV t a 2 < cst (t 0) (t 2) (t 3) (p a) (g 13 i)
        · rw [if_pos c3, decide_eq_true c3]
          by_cases c4 : said < lawV t a 0
          · rw [if_pos c4, if_pos c4]; exact so_e (by decide +kernel)
          · rw [if_neg c4, if_neg c4]; exact so_e (by decide +kernel)
        · rw [if_neg c3, decide_eq_false c3]
          by_cases c4 : said < lawV t a 0
          · rw [if_pos c4, if_pos c4]; exact so_e (by decide +kernel)
          · rw [if_neg c4, if_neg c4]; exact so_e (by decide +kernel)
    by_cases c1 : hol = -1
    · rw [if_pos c1]
      exact tail hol (Or.inl c1)
    · rw [if_neg c1]
      by_cases c5 : hol = (a : Int)
      · rw [if_pos c5]
        exact tail hol (Or.inr c5)
      · rw [if_neg c5, ones_e hm hw, xb_some, l1, xb_some, decide_eq_true (show hol ≠ -1 ∧ hol ≠ (a : Int) from ⟨c1, c5⟩), fin, fin]
        by_cases c2 : bcn w < lawV t a 1
        · rw [if_pos c2, decide_eq_true c2]
          by_cases c3 : lawV t a 2 < cst (t 0) (t 2) (t 3) (p a) (g 13 i)
          · rw [if_pos c3, decide_eq_true c3]
            by_cases c4 : said < lawV t a 0
            · rw [if_pos c4, if_pos c4]; exact so_e (by decide +kernel)
            · rw [if_neg c4, if_neg c4]; exact so_e (by decide +kernel)
          · rw [if_neg c3, decide_eq_false c3]
            by_cases c4 : said < lawV t a 0
            · rw [if_pos c4, if_pos c4]; exact so_e (by decide +kernel)
            · rw [if_neg c4, if_neg c4]; exact so_e (by decide +kernel)
        · rw [if_neg c2, decide_eq_false c2]
          by_cases c3 : lawV t a 2 < cst (t 0) (t 2) (t 3) (p a) (g 13 i)
          · rw [if_pos c3, decide_eq_true c3]
            by_cases c4 : said < lawV t a 0
            · rw [if_pos c4, if_pos c4]; exact so_e (by decide +kernel)
            · rw [if_neg c4, if_neg c4]; exact so_e (by decide +kernel)
          · rw [if_neg c3, decide_eq_false c3]
            by_cases c4 : said < lawV t a 0
            · rw [if_pos c4, if_pos c4]; exact so_e (by decide +kernel)
            · rw [if_neg c4, if_neg c4]; exact so_e (by decide +kernel)
theorem dS.hold {M B : Int} {S i a : Nat} {said x : Int} {h g : yH} (H : dS M B S h g) (hi : i < S) (ha : (a : Int) < B) (hsd : 0 ≤ said ∧ said ≤ 20) (hx : -1 ≤ x ∧ x ≤ 60) : dS M B S (zup (zup (zup h 137 i (a : Int)) 135 i said) 136 i x) (zup (zup (zup g 20 i (a : Int)) 19 i said) 16 i x) := by
  obtain ⟨k1, k2, k3, k4, k5⟩ := H
  refine ⟨k1, by rw [zup_ne (by omega), zup_ne (by omega), zup_ne (by omega)]; exact k2, by rw [zup_ne (by omega), zup_ne (by omega), zup_ne (by omega)]; exact k3, by rw [zup_ne (by omega), zup_ne (by omega), zup_ne (by omega)]; exact k4, fun j hj => ?_⟩
  obtain ⟨a1, a2, a3⟩ := k5 j hj
  refine ⟨?_, fun w => ?_, fun w => ?_⟩
  · rw [zup_ne (show ¬ (131 = 136 ∧ 6 = i) by omega), zup_ne (show ¬ (131 = 135 ∧ 6 = i) by omega), zup_ne (show ¬ (131 = 137 ∧ 6 = i) by omega), zup_ne (show ¬ (14 = 16 ∧ j = i) by omega), zup_ne (show ¬ (14 = 19 ∧ j = i) by omega), zup_ne (show ¬ (14 = 20 ∧ j = i) by omega)]
    exact a1
  · by_cases q : j = i
    · subst q
      obtain ⟨⟨b1, b2, b3, b4, b5, b6⟩, b7⟩ := a2 w
      unfold sI
      simp only [zup_app]
      simp
      omega
    · refine (a2 w).fr ⟨?_, ?_, ?_, ?_, ?_, ?_⟩ ⟨?_, ?_, ?_, ?_, ?_, ?_⟩ <;> rw [zup_ne (by omega), zup_ne (by omega), zup_ne (by omega)]
  · rw [zup_ne (show ¬ (20 = 16 ∧ j = i) by omega), zup_ne (show ¬ (20 = 19 ∧ j = i) by omega), zup_ne (show ¬ (20 = 20 ∧ j = i) by omega), zup_ne (show ¬ (19 = 16 ∧ j = i) by omega), zup_ne (show ¬ (19 = 19 ∧ j = i) by omega), zup_ne (show ¬ (19 = 20 ∧ j = i) by omega), zup_ne (show ¬ (16 = 16 ∧ j = i) by omega), zup_ne (show ¬ (16 = 19 ∧ j = i) by omega), zup_ne (show ¬ (16 = 20 ∧ j = i) by omega)]
    exact a3 w
theorem dB.law {M B : Int} {q c a : Nat} {p : Nat → Int} {h g : yH} {x y : Int} (H : dB M B q c p h g) (ha : (a : Int) < B) (hx : x = h 140 a + 1) (hy : y = g 18 a + 1) : dB M B (q + 1) c p (zup h 140 a x) (zup g 18 a y) := by
  refine ⟨H.1, fun i hi => ?_⟩
  obtain ⟨⟨a1, a2⟩, ⟨a3, a4, a5⟩, a6, a7, a8⟩ := H.2 i hi
  rw [zup_ne (show ¬ (138 = 140 ∧ i = a) by omega), zup_ne (show ¬ (139 = 140 ∧ i = a) by omega), zup_ne (show ¬ (17 = 18 ∧ i = a) by omega)]
  refine ⟨⟨a1, a2⟩, ⟨a3, a4, a5⟩, ?_⟩
  by_cases w : i = a
  · subst w
    rw [zup_at, zup_at, hx, hy]
    omega
  · rw [zup_ne (by omega), zup_ne (by omega)]
    omega
end
