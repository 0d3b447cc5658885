set_option maxRecDepth 100000 in
theorem yq_X6_rowOf : lw_tbl[955]? = some (.code yX6_rowOf cX6_rowOf 2 (some .int)) := rfl
theorem yw_X6_rowOf : zMV yX6_rowOf cX6_rowOf 2 (some .int) 1 := ⟨⟨zTin 104 (by decide +kernel) rfl, zTin 955 yq_X6_rowOf rfl, ⟨by decide, by decide⟩, by decide +kernel⟩, zTin 953 (by decide +kernel) rfl, zTin 954 (by decide +kernel) rfl⟩
theorem yt_X6_rowOf_0 : decode cX6_rowOf 0 = .ok (.aload_n 0, 1) := by decide +kernel
theorem yt_X6_rowOf_1 : decode cX6_rowOf 1 = .ok (.getfield 33, 3) := by decide +kernel
theorem yt_X6_rowOf_4 : decode cX6_rowOf 4 = .ok (.iconst 1, 1) := by decide +kernel
theorem yt_X6_rowOf_5 : decode cX6_rowOf 5 = .ok (.if_icmp .ge 7, 3) := by decide +kernel
theorem yt_X6_rowOf_12 : decode cX6_rowOf 12 = .ok (.iload_n 1, 1) := by decide +kernel
theorem yt_X6_rowOf_13 : decode cX6_rowOf 13 = .ok (.aload_n 0, 1) := by decide +kernel
theorem yt_X6_rowOf_14 : decode cX6_rowOf 14 = .ok (.getfield 33, 3) := by decide +kernel
theorem yt_X6_rowOf_17 : decode cX6_rowOf 17 = .ok (.idiv, 1) := by decide +kernel
theorem yt_X6_rowOf_18 : decode cX6_rowOf 18 = .ok (.ireturn, 1) := by decide +kernel
theorem yt_X6_rowOf_8 : decode cX6_rowOf 8 = .ok (.iconst 0, 1) := by decide +kernel
theorem yt_X6_rowOf_9 : decode cX6_rowOf 9 = .ok (.goto 9, 3) := by decide +kernel
def xp_X6_rowOf (n : Nat) : yX := (xLd 0 100017 (xGet 15 0 0 (xCst 0 1 (xLt (xCst 0 0 xRi) (xLd 1 0 (xLd 0 100017 (xGet 15 0 0 (xArg 3 xRi))))))))
theorem s_X6_rowOf {η : zRn} {D : va_G} {cy : Nat → ClassId} {L : List Nat} {Θ : Nat → Option Nat} {p : Program} {l : Launch} {e : Env} {R : Room} {s : State} {m : MethodId} {args : Array Value} {below : List Frame} {meth : Method} {c : Code} {Q : State → Prop} {Qr : yQt} {n : Nat} (Z : yCz η zkds D vwCl cy L Θ 2 p l e R s m args below meth c Q cX6_rowOf (tyW cy) RX6 zTW zKP tyW (some .int) 0 0 Qr) : yGo η zkds D vwCl cy L Θ 2 p l e R s m args below meth c Q 0 (xw Qr 0 (xp_X6_rowOf n)) := (yr_mono x_ld (yr_aload_n Z.1 rfl (by decide) yt_X6_rowOf_0 (yr_mono x_get (yr_get (lo := 0) (hi := 8) Z.1 yf_RX6_33 (by decide +kernel) yt_X6_rowOf_1 (yr_mono x_cst (yr_iconst Z.1 yt_X6_rowOf_4 (by decide) (yr_mono x_lt (yr_ge Z.1 yt_X6_rowOf_5 (by first | decide | rfl) (yr_mono x_ld (yr_iload_n Z.1 rfl yt_X6_rowOf_12 (yr_mono x_ld (yr_aload_n Z.1 rfl (by decide) yt_X6_rowOf_13 (yr_mono x_get (yr_get (lo := 0) (hi := 8) Z.1 yf_RX6_33 (by decide +kernel) yt_X6_rowOf_14 (yr_mono x_arg (yr_div Z.1 yt_X6_rowOf_17 (yr_mono x_ri (yr_ri Z rfl yt_X6_rowOf_18)))))))))) (yr_mono x_cst (yr_iconst Z.1 yt_X6_rowOf_8 (by decide) (yr_goto Z.1 yt_X6_rowOf_9 (by first | decide | rfl) (yr_mono x_ri (yr_ri Z rfl yt_X6_rowOf_18)))))))))))))
def f_X6_rowOf : yFn := fun n ys h => (fun n => xp_X6_rowOf n) n (yar 0 ([100017, 0].zip ys)) [] h
theorem m_X6_rowOf (l : Launch) : yMet zkds vwCl zTW zKP l (yX6_rowOf, cX6_rowOf, 2, (some .int)) 0 0 [100017, 0] (yF 0 f_X6_rowOf) := y_metF zkp_ok zTW_good (yX6_rowOf, cX6_rowOf, 2, (some .int)) 0 0 [100017, 0] 0 (fun n => xp_X6_rowOf n) (by decide +kernel) (by decide) (fun η D cy L Θ p e R s m args below meth c Q Qr n Z => s_X6_rowOf (n := n) Z)
set_option maxRecDepth 100000 in
theorem e_X6_rowOf {n : Nat} {x0 x1 : Int} {h : yH} : f_X6_rowOf n [x0, x1] h = if (h x0.toNat 0) < 1 then (some (0, h)) else (xg (1 ≤ (h x0.toNat 0)) (some ((yari 3 x1 (h x0.toNat 0)), h))) := Eq.trans rfl rfl
set_option maxRecDepth 100000 in
theorem yq_X6_columnOf : lw_tbl[959]? = some (.code yX6_columnOf cX6_columnOf 2 (some .int)) := rfl
theorem yw_X6_columnOf : zMV yX6_columnOf cX6_columnOf 2 (some .int) 1 := ⟨⟨zTin 104 (by decide +kernel) rfl, zTin 959 yq_X6_columnOf rfl, ⟨by decide, by decide⟩, by decide +kernel⟩, zTin 957 (by decide +kernel) rfl, zTin 958 (by decide +kernel) rfl⟩
theorem yt_X6_columnOf_0 : decode cX6_columnOf 0 = .ok (.aload_n 0, 1) := by decide +kernel
theorem yt_X6_columnOf_1 : decode cX6_columnOf 1 = .ok (.getfield 33, 3) := by decide +kernel
theorem yt_X6_columnOf_4 : decode cX6_columnOf 4 = .ok (.iconst 1, 1) := by decide +kernel
theorem yt_X6_columnOf_5 : decode cX6_columnOf 5 = .ok (.if_icmp .ge 7, 3) := by decide +kernel
theorem yt_X6_columnOf_12 : decode cX6_columnOf 12 = .ok (.iload_n 1, 1) := by decide +kernel
theorem yt_X6_columnOf_13 : decode cX6_columnOf 13 = .ok (.aload_n 0, 1) := by decide +kernel
theorem yt_X6_columnOf_14 : decode cX6_columnOf 14 = .ok (.getfield 33, 3) := by decide +kernel
theorem yt_X6_columnOf_17 : decode cX6_columnOf 17 = .ok (.irem, 1) := by decide +kernel
theorem yt_X6_columnOf_18 : decode cX6_columnOf 18 = .ok (.ireturn, 1) := by decide +kernel
theorem yt_X6_columnOf_8 : decode cX6_columnOf 8 = .ok (.iconst 0, 1) := by decide +kernel
theorem yt_X6_columnOf_9 : decode cX6_columnOf 9 = .ok (.goto 9, 3) := by decide +kernel
def xp_X6_columnOf (n : Nat) : yX := (xLd 0 100017 (xGet 15 0 0 (xCst 0 1 (xLt (xCst 0 0 xRi) (xLd 1 0 (xLd 0 100017 (xGet 15 0 0 (xArg 4 xRi))))))))
theorem s_X6_columnOf {η : zRn} {D : va_G} {cy : Nat → ClassId} {L : List Nat} {Θ : Nat → Option Nat} {p : Program} {l : Launch} {e : Env} {R : Room} {s : State} {m : MethodId} {args : Array Value} {below : List Frame} {meth : Method} {c : Code} {Q : State → Prop} {Qr : yQt} {n : Nat} (Z : yCz η zkds D vwCl cy L Θ 2 p l e R s m args below meth c Q cX6_columnOf (tyW cy) RX6 zTW zKP tyW (some .int) 0 0 Qr) : yGo η zkds D vwCl cy L Θ 2 p l e R s m args below meth c Q 0 (xw Qr 0 (xp_X6_columnOf n)) := (yr_mono x_ld (yr_aload_n Z.1 rfl (by decide) yt_X6_columnOf_0 (yr_mono x_get (yr_get (lo := 0) (hi := 8) Z.1 yf_RX6_33 (by decide +kernel) yt_X6_columnOf_1 (yr_mono x_cst (yr_iconst Z.1 yt_X6_columnOf_4 (by decide) (yr_mono x_lt (yr_ge Z.1 yt_X6_columnOf_5 (by first | decide | rfl) (yr_mono x_ld (yr_iload_n Z.1 rfl yt_X6_columnOf_12 (yr_mono x_ld (yr_aload_n Z.1 rfl (by decide) yt_X6_columnOf_13 (yr_mono x_get (yr_get (lo := 0) (hi := 8) Z.1 yf_RX6_33 (by decide +kernel) yt_X6_columnOf_14 (yr_mono x_arg (yr_rem Z.1 yt_X6_columnOf_17 (yr_mono x_ri (yr_ri Z rfl yt_X6_columnOf_18)))))))))) (yr_mono x_cst (yr_iconst Z.1 yt_X6_columnOf_8 (by decide) (yr_goto Z.1 yt_X6_columnOf_9 (by first | decide | rfl) (yr_mono x_ri (yr_ri Z rfl yt_X6_columnOf_18)))))))))))))
def f_X6_columnOf : yFn := fun n ys h => (fun n => xp_X6_columnOf n) n (yar 0 ([100017, 0].zip ys)) [] h
theorem m_X6_columnOf (l : Launch) : yMet zkds vwCl zTW zKP l (yX6_columnOf, cX6_columnOf, 2, (some .int)) 0 0 [100017, 0] (yF 0 f_X6_columnOf) := y_metF zkp_ok zTW_good (yX6_columnOf, cX6_columnOf, 2, (some .int)) 0 0 [100017, 0] 0 (fun n => xp_X6_columnOf n) (by decide +kernel) (by decide) (fun η D cy L Θ p e R s m args below meth c Q Qr n Z => s_X6_columnOf (n := n) Z)
set_option maxRecDepth 100000 in
theorem e_X6_columnOf {n : Nat} {x0 x1 : Int} {h : yH} : f_X6_columnOf n [x0, x1] h = if (h x0.toNat 0) < 1 then (some (0, h)) else (xg (1 ≤ (h x0.toNat 0)) (some ((yari 4 x1 (h x0.toNat 0)), h))) := Eq.trans rfl rfl
theorem yl_RX6_72 : Cond.methodLink RX6 72 yX6_rowOf ∈ zTW := zTin 952 (by decide +kernel) rfl
theorem yl_RX6_81 : Cond.methodLink RX6 81 yX6_columnOf ∈ zTW := zTin 956 (by decide +kernel) rfl
set_option maxRecDepth 100000 in
theorem yq_X6_beside : lw_tbl[951]? = some (.code yX6_beside cX6_beside 5 (some .int)) := rfl
theorem yw_X6_beside : zMV yX6_beside cX6_beside 5 (some .int) 2 := ⟨⟨zTin 104 (by decide +kernel) rfl, zTin 951 yq_X6_beside rfl, ⟨by decide, by decide⟩, by decide +kernel⟩, zTin 949 (by decide +kernel) rfl, zTin 950 (by decide +kernel) rfl⟩
theorem yt_X6_beside_0 : decode cX6_beside 0 = .ok (.aload_n 0, 1) := by decide +kernel
theorem yt_X6_beside_1 : decode cX6_beside 1 = .ok (.iload_n 1, 1) := by decide +kernel
theorem yt_X6_beside_2 : decode cX6_beside 2 = .ok (.invokevirtual 72, 3) := by decide +kernel
theorem yt_X6_beside_5 : decode cX6_beside 5 = .ok (.istore_n 3, 1) := by decide +kernel
theorem yt_X6_beside_6 : decode cX6_beside 6 = .ok (.aload_n 0, 1) := by decide +kernel
theorem yt_X6_beside_7 : decode cX6_beside 7 = .ok (.iload_n 1, 1) := by decide +kernel
theorem yt_X6_beside_8 : decode cX6_beside 8 = .ok (.invokevirtual 81, 3) := by decide +kernel
theorem yt_X6_beside_11 : decode cX6_beside 11 = .ok (.istore 4, 2) := by decide +kernel
theorem yt_X6_beside_13 : decode cX6_beside 13 = .ok (.iload_n 2, 1) := by decide +kernel
theorem yt_X6_beside_14 : decode cX6_beside 14 = .ok (.tableswitch 98 0 3 #[30, 45, 64, 85], 30) := by decide +kernel
theorem yt_X6_beside_44 : decode cX6_beside 44 = .ok (.iload_n 3, 1) := by decide +kernel
theorem yt_X6_beside_45 : decode cX6_beside 45 = .ok (.ifCond .le 12, 3) := by decide +kernel
theorem yt_X6_beside_57 : decode cX6_beside 57 = .ok (.iconst (-1), 1) := by decide +kernel
theorem yt_X6_beside_58 : decode cX6_beside 58 = .ok (.ireturn, 1) := by decide +kernel
theorem yt_X6_beside_48 : decode cX6_beside 48 = .ok (.iload_n 1, 1) := by decide +kernel
theorem yt_X6_beside_49 : decode cX6_beside 49 = .ok (.aload_n 0, 1) := by decide +kernel
theorem yt_X6_beside_50 : decode cX6_beside 50 = .ok (.getfield 33, 3) := by decide +kernel
theorem yt_X6_beside_53 : decode cX6_beside 53 = .ok (.isub, 1) := by decide +kernel
theorem yt_X6_beside_54 : decode cX6_beside 54 = .ok (.goto 4, 3) := by decide +kernel
theorem yt_X6_beside_59 : decode cX6_beside 59 = .ok (.iload 4, 2) := by decide +kernel
theorem yt_X6_beside_61 : decode cX6_beside 61 = .ok (.aload_n 0, 1) := by decide +kernel
theorem yt_X6_beside_62 : decode cX6_beside 62 = .ok (.getfield 33, 3) := by decide +kernel
theorem yt_X6_beside_65 : decode cX6_beside 65 = .ok (.iconst 1, 1) := by decide +kernel
theorem yt_X6_beside_66 : decode cX6_beside 66 = .ok (.isub, 1) := by decide +kernel
theorem yt_X6_beside_67 : decode cX6_beside 67 = .ok (.if_icmp .ge 9, 3) := by decide +kernel
theorem yt_X6_beside_76 : decode cX6_beside 76 = .ok (.iconst (-1), 1) := by decide +kernel
theorem yt_X6_beside_77 : decode cX6_beside 77 = .ok (.ireturn, 1) := by decide +kernel
theorem yt_X6_beside_70 : decode cX6_beside 70 = .ok (.iload_n 1, 1) := by decide +kernel
theorem yt_X6_beside_71 : decode cX6_beside 71 = .ok (.iconst 1, 1) := by decide +kernel
theorem yt_X6_beside_72 : decode cX6_beside 72 = .ok (.iadd, 1) := by decide +kernel
theorem yt_X6_beside_73 : decode cX6_beside 73 = .ok (.goto 4, 3) := by decide +kernel
theorem yt_X6_beside_78 : decode cX6_beside 78 = .ok (.iload_n 3, 1) := by decide +kernel
theorem yt_X6_beside_79 : decode cX6_beside 79 = .ok (.aload_n 0, 1) := by decide +kernel
theorem yt_X6_beside_80 : decode cX6_beside 80 = .ok (.getfield 37, 3) := by decide +kernel
theorem yt_X6_beside_83 : decode cX6_beside 83 = .ok (.iconst 1, 1) := by decide +kernel
theorem yt_X6_beside_84 : decode cX6_beside 84 = .ok (.isub, 1) := by decide +kernel
theorem yt_X6_beside_85 : decode cX6_beside 85 = .ok (.if_icmp .ge 12, 3) := by decide +kernel
theorem yt_X6_beside_97 : decode cX6_beside 97 = .ok (.iconst (-1), 1) := by decide +kernel
theorem yt_X6_beside_98 : decode cX6_beside 98 = .ok (.ireturn, 1) := by decide +kernel
theorem yt_X6_beside_88 : decode cX6_beside 88 = .ok (.iload_n 1, 1) := by decide +kernel
theorem yt_X6_beside_89 : decode cX6_beside 89 = .ok (.aload_n 0, 1) := by decide +kernel
theorem yt_X6_beside_90 : decode cX6_beside 90 = .ok (.getfield 33, 3) := by decide +kernel
theorem yt_X6_beside_93 : decode cX6_beside 93 = .ok (.iadd, 1) := by decide +kernel
theorem yt_X6_beside_94 : decode cX6_beside 94 = .ok (.goto 4, 3) := by decide +kernel
theorem yt_X6_beside_99 : decode cX6_beside 99 = .ok (.iload 4, 2) := by decide +kernel
theorem yt_X6_beside_101 : decode cX6_beside 101 = .ok (.ifCond .le 9, 3) := by decide +kernel
theorem yt_X6_beside_110 : decode cX6_beside 110 = .ok (.iconst (-1), 1) := by decide +kernel
theorem yt_X6_beside_111 : decode cX6_beside 111 = .ok (.ireturn, 1) := by decide +kernel
theorem yt_X6_beside_104 : decode cX6_beside 104 = .ok (.iload_n 1, 1) := by decide +kernel
theorem yt_X6_beside_105 : decode cX6_beside 105 = .ok (.iconst 1, 1) := by decide +kernel
theorem yt_X6_beside_106 : decode cX6_beside 106 = .ok (.isub, 1) := by decide +kernel
theorem yt_X6_beside_107 : decode cX6_beside 107 = .ok (.goto 4, 3) := by decide +kernel
theorem yt_X6_beside_112 : decode cX6_beside 112 = .ok (.iconst (-1), 1) := by decide +kernel
theorem yt_X6_beside_113 : decode cX6_beside 113 = .ok (.ireturn, 1) := by decide +kernel
def xp_X6_beside (n : Nat) : yX := (xLd 0 100017 (xLd 1 0 (xCalR 2 [100017, 0] 0 (f_X6_rowOf n) (xSt 3 0 (xLd 0 100017 (xLd 1 0 (xCalR 2 [100017, 0] 0 (f_X6_columnOf n) (xSt 4 0 (xLd 2 0 (xSw [(0, (xLd 3 0 (xGt0 (xLd 1 0 (xLd 0 100017 (xGet 15 0 0 (xSub xRi)))) (xCst 0 (-1) xRi)))), (1, (xLd 4 0 (xLd 0 100017 (xGet 15 0 0 (xCst 0 1 (xSub (xLt (xLd 1 0 (xCst 0 1 (xAdd xRi))) (xCst 0 (-1) xRi)))))))), (2, (xLd 3 0 (xLd 0 100017 (xGet 15 1 0 (xCst 0 1 (xSub (xLt (xLd 1 0 (xLd 0 100017 (xGet 15 0 0 (xAdd xRi)))) (xCst 0 (-1) xRi)))))))), (3, (xLd 4 0 (xGt0 (xLd 1 0 (xCst 0 1 (xSub xRi))) (xCst 0 (-1) xRi))))] (xCst 0 (-1) xRi)))))))))))
theorem s_X6_beside {η : zRn} {D : va_G} {cy : Nat → ClassId} {L : List Nat} {Θ : Nat → Option Nat} {p : Program} {l : Launch} {e : Env} {R : Room} {s : State} {m : MethodId} {args : Array Value} {below : List Frame} {meth : Method} {c : Code} {Q : State → Prop} {Qr : yQt} {n : Nat} (Z : yCz η zkds D vwCl cy L Θ 5 p l e R s m args below meth c Q cX6_beside (tyW cy) RX6 zTW zKP tyW (some .int) 1 21 Qr) : yGo η zkds D vwCl cy L Θ 5 p l e R s m args below meth c Q 0 (xw Qr 0 (xp_X6_beside n)) := (yr_mono x_ld (yr_aload_n Z.1 rfl (by decide) yt_X6_beside_0 (yr_mono x_ld (yr_iload_n Z.1 rfl yt_X6_beside_1 (yr_mono x_calR (yr_calR rfl (y_hrunV Z (y := (yX6_rowOf, cX6_rowOf, 2, (some .int))) (m_X6_rowOf l) (ycv_of yw_X6_rowOf 72 yt_X6_beside_2 yl_RX6_72 rfl (by decide) (by decide) ⟨15, _, _, _, _, rfl, zkd_15, rfl, rfl⟩)) (yr_mono x_st (yr_istore_n Z.1 rfl (by decide) yt_X6_beside_5 (yr_mono x_ld (yr_aload_n Z.1 rfl (by decide) yt_X6_beside_6 (yr_mono x_ld (yr_iload_n Z.1 rfl yt_X6_beside_7 (yr_mono x_calR (yr_calR rfl (y_hrunV Z (y := (yX6_columnOf, cX6_columnOf, 2, (some .int))) (m_X6_columnOf l) (ycv_of yw_X6_columnOf 81 yt_X6_beside_8 yl_RX6_81 rfl (by decide) (by decide) ⟨15, _, _, _, _, rfl, zkd_15, rfl, rfl⟩)) (yr_mono x_st (yr_istore Z.1 (by decide) yt_X6_beside_11 (yr_mono x_ld (yr_iload_n Z.1 rfl yt_X6_beside_13 (yr_mono x_sw (yr_tsw (cs := [(0, 44, _), (1, 59, _), (2, 78, _), (3, 99, _)]) (td := 112) Z.1 yt_X6_beside_14 rfl rfl (yr_mono x_cst (yr_iconst Z.1 yt_X6_beside_112 (by decide) (yr_mono x_ri (yr_ri Z rfl yt_X6_beside_113)))) (List.forall_mem_cons.mpr ⟨(yr_mono x_ld (yr_iload_n Z.1 rfl yt_X6_beside_44 (yr_mono x_gt0 (yr_le0 Z.1 yt_X6_beside_45 (by first | decide | rfl) (yr_mono x_cst (yr_iconst Z.1 yt_X6_beside_57 (by decide) (yr_mono x_ri (yr_ri Z rfl yt_X6_beside_58)))) (yr_mono x_ld (yr_iload_n Z.1 rfl yt_X6_beside_48 (yr_mono x_ld (yr_aload_n Z.1 rfl (by decide) yt_X6_beside_49 (yr_mono x_get (yr_get (lo := 0) (hi := 8) Z.1 yf_RX6_33 (by decide +kernel) yt_X6_beside_50 (yr_mono x_sub (yr_sub Z.1 yt_X6_beside_53 (yr_goto Z.1 yt_X6_beside_54 (by first | decide | rfl) (yr_mono x_ri (yr_ri Z rfl yt_X6_beside_58))))))))))))))), (List.forall_mem_cons.mpr ⟨(yr_mono x_ld (yr_iload Z.1 yt_X6_beside_59 (yr_mono x_ld (yr_aload_n Z.1 rfl (by decide) yt_X6_beside_61 (yr_mono x_get (yr_get (lo := 0) (hi := 8) Z.1 yf_RX6_33 (by decide +kernel) yt_X6_beside_62 (yr_mono x_cst (yr_iconst Z.1 yt_X6_beside_65 (by decide) (yr_mono x_sub (yr_sub Z.1 yt_X6_beside_66 (yr_mono x_lt (yr_ge Z.1 yt_X6_beside_67 (by first | decide | rfl) (yr_mono x_cst (yr_iconst Z.1 yt_X6_beside_76 (by decide) (yr_mono x_ri (yr_ri Z rfl yt_X6_beside_77)))) (yr_mono x_ld (yr_iload_n Z.1 rfl yt_X6_beside_70 (yr_mono x_cst (yr_iconst Z.1 yt_X6_beside_71 (by decide) (yr_mono x_add (yr_add Z.1 yt_X6_beside_72 (yr_goto Z.1 yt_X6_beside_73 (by first | decide | rfl) (yr_mono x_ri (yr_ri Z rfl yt_X6_beside_77))))))))))))))))))))), (List.forall_mem_cons.mpr ⟨(yr_mono x_ld (yr_iload_n Z.1 rfl yt_X6_beside_78 (yr_mono x_ld (yr_aload_n Z.1 rfl (by decide) yt_X6_beside_79 (yr_mono x_get (yr_get (lo := 0) (hi := 8) Z.1 yf_RX6_37 (by decide +kernel) yt_X6_beside_80 (yr_mono x_cst (yr_iconst Z.1 yt_X6_beside_83 (by decide) (yr_mono x_sub (yr_sub Z.1 yt_X6_beside_84 (yr_mono x_lt (yr_ge Z.1 yt_X6_beside_85 (by first | decide | rfl) (yr_mono x_cst (yr_iconst Z.1 yt_X6_beside_97 (by decide) (yr_mono x_ri (yr_ri Z rfl yt_X6_beside_98)))) (yr_mono x_ld (yr_iload_n Z.1 rfl yt_X6_beside_88 (yr_mono x_ld (yr_aload_n Z.1 rfl (by decide) yt_X6_beside_89 (yr_mono x_get (yr_get (lo := 0) (hi := 8) Z.1 yf_RX6_33 (by decide +kernel) yt_X6_beside_90 (yr_mono x_add (yr_add Z.1 yt_X6_beside_93 (yr_goto Z.1 yt_X6_beside_94 (by first | decide | rfl) (yr_mono x_ri (yr_ri Z rfl yt_X6_beside_98))))))))))))))))))))))), (List.forall_mem_cons.mpr ⟨(yr_mono x_ld (yr_iload Z.1 yt_X6_beside_99 (yr_mono x_gt0 (yr_le0 Z.1 yt_X6_beside_101 (by first | decide | rfl) (yr_mono x_cst (yr_iconst Z.1 yt_X6_beside_110 (by decide) (yr_mono x_ri (yr_ri Z rfl yt_X6_beside_111)))) (yr_mono x_ld (yr_iload_n Z.1 rfl yt_X6_beside_104 (yr_mono x_cst (yr_iconst Z.1 yt_X6_beside_105 (by decide) (yr_mono x_sub (yr_sub Z.1 yt_X6_beside_106 (yr_goto Z.1 yt_X6_beside_107 (by first | decide | rfl) (yr_mono x_ri (yr_ri Z rfl yt_X6_beside_111))))))))))))), (List.forall_mem_nil _)⟩)⟩)⟩)⟩)))))))))))))))))))))
def f_X6_beside : yFn := fun n ys h => (fun n => xp_X6_beside n) n (yar 0 ([100017, 0, 0].zip ys)) [] h
theorem m_X6_beside (l : Launch) : yMet zkds vwCl zTW zKP l (yX6_beside, cX6_beside, 5, (some .int)) 1 21 [100017, 0, 0] (yF 0 f_X6_beside) := y_metF zkp_ok zTW_good (yX6_beside, cX6_beside, 5, (some .int)) 1 21 [100017, 0, 0] 0 (fun n => xp_X6_beside n) (by decide +kernel) (by decide) (fun η D cy L Θ p e R s m args below meth c Q Qr n Z => s_X6_beside (n := n) Z)
set_option maxRecDepth 100000 in
theorem e_X6_beside {n : Nat} {x0 x1 x2 : Int} {h : yH} : f_X6_beside n [x0, x1, x2] h = xb (f_X6_rowOf n [x0, x1] h) (fun v1 h1 => xb (f_X6_columnOf n [x0, x1] h1) (fun v2 h2 => if x2 = 0 then (if 0 < v1 then (xg (-2147483648 ≤ x1 - (h2 x0.toNat 0) ∧ x1 - (h2 x0.toNat 0) ≤ 2147483647) (some ((x1 - (h2 x0.toNat 0)), h2))) else (some ((-1), h2))) else (if x2 = 1 then (xg (-2147483648 ≤ (h2 x0.toNat 0) - 1 ∧ (h2 x0.toNat 0) - 1 ≤ 2147483647) (if v2 < ((h2 x0.toNat 0) - 1) then (xg (-2147483648 ≤ x1 + 1 ∧ x1 + 1 ≤ 2147483647) (some ((x1 + 1), h2))) else (some ((-1), h2)))) else (if x2 = 2 then (xg (-2147483648 ≤ (h2 x0.toNat 1) - 1 ∧ (h2 x0.toNat 1) - 1 ≤ 2147483647) (if v1 < ((h2 x0.toNat 1) - 1) then (xg (-2147483648 ≤ x1 + (h2 x0.toNat 0) ∧ x1 + (h2 x0.toNat 0) ≤ 2147483647) (some ((x1 + (h2 x0.toNat 0)), h2))) else (some ((-1), h2)))) else (if x2 = 3 then (if 0 < v2 then (xg (-2147483648 ≤ x1 - 1 ∧ x1 - 1 ≤ 2147483647) (some ((x1 - 1), h2))) else (some ((-1), h2))) else (some ((-1), h2))))))) := Eq.trans rfl rfl
set_option maxRecDepth 100000 in
theorem yq_X6_drifted : lw_tbl[1028]? = some (.code yX6_drifted cX6_drifted 4 (some .int)) := rfl
theorem yw_X6_drifted : zMV yX6_drifted cX6_drifted 4 (some .int) 2 := ⟨⟨zTin 104 (by decide +kernel) rfl, zTin 1028 yq_X6_drifted rfl, ⟨by decide, by decide⟩, by decide +kernel⟩, zTin 1026 (by decide +kernel) rfl, zTin 1027 (by decide +kernel) rfl⟩
theorem yt_X6_drifted_0 : decode cX6_drifted 0 = .ok (.aload_n 0, 1) := by decide +kernel
theorem yt_X6_drifted_1 : decode cX6_drifted 1 = .ok (.iload_n 1, 1) := by decide +kernel
theorem yt_X6_drifted_2 : decode cX6_drifted 2 = .ok (.iload_n 2, 1) := by decide +kernel
theorem yt_X6_drifted_3 : decode cX6_drifted 3 = .ok (.invokevirtual 84, 3) := by decide +kernel
theorem yl_RX6_84 : Cond.methodLink RX6 84 yX6_beside ∈ zTW := zTin 1029 (by decide +kernel) rfl
theorem yt_X6_drifted_6 : decode cX6_drifted 6 = .ok (.istore_n 3, 1) := by decide +kernel
theorem yt_X6_drifted_7 : decode cX6_drifted 7 = .ok (.iload_n 3, 1) := by decide +kernel
theorem yt_X6_drifted_8 : decode cX6_drifted 8 = .ok (.iconst (-1), 1) := by decide +kernel
theorem yt_X6_drifted_9 : decode cX6_drifted 9 = .ok (.if_icmp .ne 7, 3) := by decide +kernel
theorem yt_X6_drifted_16 : decode cX6_drifted 16 = .ok (.iload_n 3, 1) := by decide +kernel
theorem yt_X6_drifted_17 : decode cX6_drifted 17 = .ok (.ireturn, 1) := by decide +kernel
theorem yt_X6_drifted_12 : decode cX6_drifted 12 = .ok (.iload_n 1, 1) := by decide +kernel
theorem yt_X6_drifted_13 : decode cX6_drifted 13 = .ok (.goto 4, 3) := by decide +kernel
def xp_X6_drifted (n : Nat) : yX := (xLd 0 100017 (xLd 1 0 (xLd 2 0 (xCalR 3 [100017, 0, 0] 0 (f_X6_beside n) (xSt 3 0 (xLd 3 0 (xCst 0 (-1) (xEq (xLd 1 0 xRi) (xLd 3 0 xRi)))))))))
theorem s_X6_drifted {η : zRn} {D : va_G} {cy : Nat → ClassId} {L : List Nat} {Θ : Nat → Option Nat} {p : Program} {l : Launch} {e : Env} {R : Room} {s : State} {m : MethodId} {args : Array Value} {below : List Frame} {meth : Method} {c : Code} {Q : State → Prop} {Qr : yQt} {n : Nat} (Z : yCz η zkds D vwCl cy L Θ 4 p l e R s m args below meth c Q cX6_drifted (tyW cy) RX6 zTW zKP tyW (some .int) 2 45 Qr) : yGo η zkds D vwCl cy L Θ 4 p l e R s m args below meth c Q 0 (xw Qr 0 (xp_X6_drifted n)) := (yr_mono x_ld (yr_aload_n Z.1 rfl (by decide) yt_X6_drifted_0 (yr_mono x_ld (yr_iload_n Z.1 rfl yt_X6_drifted_1 (yr_mono x_ld (yr_iload_n Z.1 rfl yt_X6_drifted_2 (yr_mono x_calR (yr_calR rfl (y_hrunV Z (y := (yX6_beside, cX6_beside, 5, (some .int))) (m_X6_beside l) (ycv_of yw_X6_beside 84 yt_X6_drifted_3 yl_RX6_84 rfl (by decide) (by decide) ⟨15, _, _, _, _, rfl, zkd_15, rfl, rfl⟩)) (yr_mono x_st (yr_istore_n Z.1 rfl (by decide) yt_X6_drifted_6 (yr_mono x_ld (yr_iload_n Z.1 rfl yt_X6_drifted_7 (yr_mono x_cst (yr_iconst Z.1 yt_X6_drifted_8 (by decide) (yr_mono x_eq (yr_ne Z.1 yt_X6_drifted_9 (by first | decide | rfl) (yr_mono x_ld (yr_iload_n Z.1 rfl yt_X6_drifted_16 (yr_mono x_ri (yr_ri Z rfl yt_X6_drifted_17)))) (yr_mono x_ld (yr_iload_n Z.1 rfl yt_X6_drifted_12 (yr_goto Z.1 yt_X6_drifted_13 (by first | decide | rfl) (yr_mono x_ri (yr_ri Z rfl yt_X6_drifted_17)))))))))))))))))))))
def f_X6_drifted : yFn := fun n ys h => (fun n => xp_X6_drifted n) n (yar 0 ([100017, 0, 0].zip ys)) [] h
theorem m_X6_drifted (l : Launch) : yMet zkds vwCl zTW zKP l (yX6_drifted, cX6_drifted, 4, (some .int)) 2 45 [100017, 0, 0] (yF 0 f_X6_drifted) := y_metF zkp_ok zTW_good (yX6_drifted, cX6_drifted, 4, (some .int)) 2 45 [100017, 0, 0] 0 (fun n => xp_X6_drifted n) (by decide +kernel) (by decide) (fun η D cy L Θ p e R s m args below meth c Q Qr n Z => s_X6_drifted (n := n) Z)
set_option maxRecDepth 100000 in
theorem e_X6_drifted {n : Nat} {x0 x1 x2 : Int} {h : yH} : f_X6_drifted n [x0, x1, x2] h = xb (f_X6_beside n [x0, x1, x2] h) (fun v1 h1 => if v1 = (-1) then (some (x1, h1)) else (some (v1, h1))) := Eq.trans rfl rfl
set_option maxRecDepth 100000 in
theorem yq_X11_meet : lw_tbl[1239]? = some (.code yX11_meet cX11_meet 8 (some .int)) := rfl
theorem yw_X11_meet : zMV yX11_meet cX11_meet 8 (some .int) 3 := ⟨⟨zTin 101 (by decide +kernel) rfl, zTin 1239 yq_X11_meet rfl, ⟨by decide, by decide⟩, by decide +kernel⟩, zTin 1237 (by decide +kernel) rfl, zTin 1238 (by decide +kernel) rfl⟩
theorem yt_X11_meet_61 : decode cX11_meet 61 = .ok (.iload 7, 2) := by decide +kernel
theorem yt_X11_meet_63 : decode cX11_meet 63 = .ok (.bipush 60, 2) := by decide +kernel
theorem yt_X11_meet_65 : decode cX11_meet 65 = .ok (.if_icmp .gt 51, 3) := by decide +kernel
theorem yt_X11_meet_116 : decode cX11_meet 116 = .ok (.iconst (-1), 1) := by decide +kernel
theorem yt_X11_meet_117 : decode cX11_meet 117 = .ok (.ireturn, 1) := by decide +kernel
theorem yt_X11_meet_68 : decode cX11_meet 68 = .ok (.iload 5, 2) := by decide +kernel
theorem yt_X11_meet_70 : decode cX11_meet 70 = .ok (.iload 6, 2) := by decide +kernel
theorem yt_X11_meet_72 : decode cX11_meet 72 = .ok (.if_icmp .ne 6, 3) := by decide +kernel
theorem yt_X11_meet_78 : decode cX11_meet 78 = .ok (.aload 4, 2) := by decide +kernel
theorem yt_X11_meet_80 : decode cX11_meet 80 = .ok (.iload 5, 2) := by decide +kernel
theorem yt_X11_meet_82 : decode cX11_meet 82 = .ok (.aload 4, 2) := by decide +kernel
theorem yt_X11_meet_84 : decode cX11_meet 84 = .ok (.getfield 134, 3) := by decide +kernel
theorem yt_X11_meet_87 : decode cX11_meet 87 = .ok (.iload_n 2, 1) := by decide +kernel
theorem yt_X11_meet_88 : decode cX11_meet 88 = .ok (.iaload, 1) := by decide +kernel
theorem yt_X11_meet_89 : decode cX11_meet 89 = .ok (.invokevirtual 360, 3) := by decide +kernel
theorem yl_RX11_360 : Cond.methodLink RX11 360 yX6_drifted ∈ zTW := zTin 1240 (by decide +kernel) rfl
theorem yt_X11_meet_92 : decode cX11_meet 92 = .ok (.istore 5, 2) := by decide +kernel
theorem yt_X11_meet_94 : decode cX11_meet 94 = .ok (.aload 4, 2) := by decide +kernel
theorem yt_X11_meet_96 : decode cX11_meet 96 = .ok (.iload 6, 2) := by decide +kernel
theorem yt_X11_meet_98 : decode cX11_meet 98 = .ok (.aload 4, 2) := by decide +kernel
theorem yt_X11_meet_100 : decode cX11_meet 100 = .ok (.getfield 134, 3) := by decide +kernel
theorem yt_X11_meet_103 : decode cX11_meet 103 = .ok (.iload_n 3, 1) := by decide +kernel
theorem yt_X11_meet_104 : decode cX11_meet 104 = .ok (.iaload, 1) := by decide +kernel
theorem yt_X11_meet_105 : decode cX11_meet 105 = .ok (.invokevirtual 360, 3) := by decide +kernel
theorem yt_X11_meet_108 : decode cX11_meet 108 = .ok (.istore 6, 2) := by decide +kernel
theorem yt_X11_meet_110 : decode cX11_meet 110 = .ok (.iinc 7 1, 3) := by decide +kernel
theorem yt_X11_meet_113 : decode cX11_meet 113 = .ok (.goto (-52), 3) := by decide +kernel
theorem yt_X11_meet_75 : decode cX11_meet 75 = .ok (.iload 7, 2) := by decide +kernel
theorem yt_X11_meet_77 : decode cX11_meet 77 = .ok (.ireturn, 1) := by decide +kernel
def xq_X11_meet_61 (n : Nat) (K : Nat → yK) : yK := xE [(0, 100065), (1, 0), (2, 0), (3, 0), (4, 17), (5, 0), (6, 0), (7, 0)] [] (xLd 7 0 (xCst 0 60 (xGt (xCst 0 (-1) xRi) (xLd 5 0 (xLd 6 0 (xEq (xLd 7 0 xRi) (xLd 4 17 (xNm 17 (xLd 5 0 (xLd 4 17 (xNm 17 (xGetO 15 9 11 4 (xLd 2 0 (xAld 11 4 (xCalR 3 [100017, 0, 0] 0 (f_X6_drifted n) (xSt 5 0 (xLd 4 17 (xNm 17 (xLd 6 0 (xLd 4 17 (xNm 17 (xGetO 15 9 11 4 (xLd 3 0 (xAld 11 4 (xCalR 3 [100017, 0, 0] 0 (f_X6_drifted n) (xSt 6 0 (xInc 7 1 (xJ [(0, 100065), (1, 0), (2, 0), (3, 0), (4, 17), (5, 0), (6, 0), (7, 0)] [] (K 61)))))))))))))))))))))))))))))
theorem s_X11_meet_61 {η : zRn} {D : va_G} {cy : Nat → ClassId} {L : List Nat} {Θ : Nat → Option Nat} {p : Program} {l : Launch} {e : Env} {R : Room} {s : State} {m : MethodId} {args : Array Value} {below : List Frame} {meth : Method} {c : Code} {Q : State → Prop} {Qr : yQt} {n : Nat} {K : Nat → yK} (Z : yCz η zkds D vwCl cy L Θ 8 p l e R s m args below meth c Q cX11_meet (tyW cy) RX11 zTW zKP tyW (some .int) 3 68 Qr) (hI61 : yGo η zkds D vwCl cy L Θ 8 p l e R s m args below meth c Q 61 (xw Qr 0 (xJ [(0, 100065), (1, 0), (2, 0), (3, 0), (4, 17), (5, 0), (6, 0), (7, 0)] [] (K 61)))) : yGo η zkds D vwCl cy L Θ 8 p l e R s m args below meth c Q 61 (xw Qr 0 (xJ [(0, 100065), (1, 0), (2, 0), (3, 0), (4, 17), (5, 0), (6, 0), (7, 0)] [] (xq_X11_meet_61 n K))) := xr_E (yr_mono x_ld (yr_iload Z.1 yt_X11_meet_61 (yr_mono x_cst (yr_bipush Z.1 yt_X11_meet_63 (by decide) (yr_mono x_gt (yr_gt Z.1 yt_X11_meet_65 (by first | decide | rfl) (yr_mono x_cst (yr_iconst Z.1 yt_X11_meet_116 (by decide) (yr_mono x_ri (yr_ri Z rfl yt_X11_meet_117)))) (yr_mono x_ld (yr_iload Z.1 yt_X11_meet_68 (yr_mono x_ld (yr_iload Z.1 yt_X11_meet_70 (yr_mono x_eq (yr_ne Z.1 yt_X11_meet_72 (by first | decide | rfl) (yr_mono x_ld (yr_aload Z.1 (by decide) yt_X11_meet_78 (yr_mono (x_nm ⟨by decide, by decide⟩) (yr_nn (yr_mono x_ld (yr_iload Z.1 yt_X11_meet_80 (yr_mono x_ld (yr_aload Z.1 (by decide) yt_X11_meet_82 (yr_mono (x_nm ⟨by decide, by decide⟩) (yr_nn (yr_mono x_geto (yr_getP (lo := 0) (hi := 2147483647) Z.1 yf_RX11_134 (by decide +kernel) yt_X11_meet_84 (yr_mono x_ld (yr_iload_n Z.1 rfl yt_X11_meet_87 (yr_mono x_ald (yr_iald (lo := (-2147483648)) (hi := 2147483647) Z.1 (by decide +kernel) yt_X11_meet_88 (yr_mono x_calR (yr_calR rfl (y_hrunV Z (y := (yX6_drifted, cX6_drifted, 4, (some .int))) (m_X6_drifted l) (ycv_of yw_X6_drifted 360 yt_X11_meet_89 yl_RX11_360 rfl (by decide) (by decide) ⟨15, _, _, _, _, rfl, zkd_15, rfl, rfl⟩)) (yr_mono x_st (yr_istore Z.1 (by decide) yt_X11_meet_92 (yr_mono x_ld (yr_aload Z.1 (by decide) yt_X11_meet_94 (yr_mono (x_nm ⟨by decide, by decide⟩) (yr_nn (yr_mono x_ld (yr_iload Z.1 yt_X11_meet_96 (yr_mono x_ld (yr_aload Z.1 (by decide) yt_X11_meet_98 (yr_mono (x_nm ⟨by decide, by decide⟩) (yr_nn (yr_mono x_geto (yr_getP (lo := 0) (hi := 2147483647) Z.1 yf_RX11_134 (by decide +kernel) yt_X11_meet_100 (yr_mono x_ld (yr_iload_n Z.1 rfl yt_X11_meet_103 (yr_mono x_ald (yr_iald (lo := (-2147483648)) (hi := 2147483647) Z.1 (by decide +kernel) yt_X11_meet_104 (yr_mono x_calR (yr_calR rfl (y_hrunV Z (y := (yX6_drifted, cX6_drifted, 4, (some .int))) (m_X6_drifted l) (ycv_of yw_X6_drifted 360 yt_X11_meet_105 yl_RX11_360 rfl (by decide) (by decide) ⟨15, _, _, _, _, rfl, zkd_15, rfl, rfl⟩)) (yr_mono x_st (yr_istore Z.1 (by decide) yt_X11_meet_108 (yr_mono x_inc (yr_inc Z.1 (by decide) (by decide) yt_X11_meet_110 (yr_goto Z.1 yt_X11_meet_113 (by first | decide | rfl) hI61))))))))))))))))))))))))))))))))))))))))))) (yr_mono x_ld (yr_iload Z.1 yt_X11_meet_75 (yr_mono x_ri (yr_ri Z rfl yt_X11_meet_77))))))))))))))))
def xl_X11_meet : Nat → Nat → yK
  | 0, _ => fun _ _ => none
  | n + 1, pc => (cond (Nat.beq pc 61) (xq_X11_meet_61 n (xl_X11_meet n)) (fun _ _ => none))
theorem l_X11_meet {η : zRn} {D : va_G} {cy : Nat → ClassId} {L : List Nat} {Θ : Nat → Option Nat} {p : Program} {l : Launch} {e : Env} {R : Room} {s : State} {m : MethodId} {args : Array Value} {below : List Frame} {meth : Method} {c : Code} {Q : State → Prop} {Qr : yQt} (Z : yCz η zkds D vwCl cy L Θ 8 p l e R s m args below meth c Q cX11_meet (tyW cy) RX11 zTW zKP tyW (some .int) 3 68 Qr) : ∀ n, yGo η zkds D vwCl cy L Θ 8 p l e R s m args below meth c Q 61 (xw Qr 0 (xJ [(0, 100065), (1, 0), (2, 0), (3, 0), (4, 17), (5, 0), (6, 0), (7, 0)] [] (xl_X11_meet n 61))) := fun n => by
  induction n with
  | zero => exact xr_J0
  | succ n ih => exact s_X11_meet_61 (n := n) (K := xl_X11_meet n) Z ih
theorem yt_X11_meet_0 : decode cX11_meet 0 = .ok (.aload_n 0, 1) := by decide +kernel
theorem yt_X11_meet_1 : decode cX11_meet 1 = .ok (.getfield 10, 3) := by decide +kernel
theorem yt_X11_meet_4 : decode cX11_meet 4 = .ok (.iload_n 1, 1) := by decide +kernel
theorem yt_X11_meet_5 : decode cX11_meet 5 = .ok (.invokevirtual 93, 3) := by decide +kernel
theorem yt_X11_meet_8 : decode cX11_meet 8 = .ok (.astore 4, 2) := by decide +kernel
theorem yt_X11_meet_10 : decode cX11_meet 10 = .ok (.aload 4, 2) := by decide +kernel
theorem yt_X11_meet_12 : decode cX11_meet 12 = .ok (.ifnull 26, 3) := by decide +kernel
theorem yt_X11_meet_38 : decode cX11_meet 38 = .ok (.iconst (-1), 1) := by decide +kernel
theorem yt_X11_meet_39 : decode cX11_meet 39 = .ok (.ireturn, 1) := by decide +kernel
theorem yt_X11_meet_15 : decode cX11_meet 15 = .ok (.iload_n 2, 1) := by decide +kernel
theorem yt_X11_meet_16 : decode cX11_meet 16 = .ok (.iload_n 3, 1) := by decide +kernel
theorem yt_X11_meet_17 : decode cX11_meet 17 = .ok (.if_icmp .eq 21, 3) := by decide +kernel
theorem yt_X11_meet_20 : decode cX11_meet 20 = .ok (.aload 4, 2) := by decide +kernel
theorem yt_X11_meet_22 : decode cX11_meet 22 = .ok (.iload_n 2, 1) := by decide +kernel
theorem yt_X11_meet_23 : decode cX11_meet 23 = .ok (.invokevirtual 124, 3) := by decide +kernel
theorem yt_X11_meet_26 : decode cX11_meet 26 = .ok (.ifCond .eq 12, 3) := by decide +kernel
theorem yt_X11_meet_29 : decode cX11_meet 29 = .ok (.aload 4, 2) := by decide +kernel
theorem yt_X11_meet_31 : decode cX11_meet 31 = .ok (.iload_n 3, 1) := by decide +kernel
theorem yt_X11_meet_32 : decode cX11_meet 32 = .ok (.invokevirtual 124, 3) := by decide +kernel
theorem yt_X11_meet_35 : decode cX11_meet 35 = .ok (.ifCond .ne 5, 3) := by decide +kernel
theorem yt_X11_meet_40 : decode cX11_meet 40 = .ok (.aload 4, 2) := by decide +kernel
theorem yt_X11_meet_42 : decode cX11_meet 42 = .ok (.getfield 128, 3) := by decide +kernel
theorem yt_X11_meet_45 : decode cX11_meet 45 = .ok (.iload_n 2, 1) := by decide +kernel
theorem yt_X11_meet_46 : decode cX11_meet 46 = .ok (.iaload, 1) := by decide +kernel
theorem yt_X11_meet_47 : decode cX11_meet 47 = .ok (.istore 5, 2) := by decide +kernel
theorem yt_X11_meet_49 : decode cX11_meet 49 = .ok (.aload 4, 2) := by decide +kernel
theorem yt_X11_meet_51 : decode cX11_meet 51 = .ok (.getfield 128, 3) := by decide +kernel
theorem yt_X11_meet_54 : decode cX11_meet 54 = .ok (.iload_n 3, 1) := by decide +kernel
theorem yt_X11_meet_55 : decode cX11_meet 55 = .ok (.iaload, 1) := by decide +kernel
theorem yt_X11_meet_56 : decode cX11_meet 56 = .ok (.istore 6, 2) := by decide +kernel
theorem yt_X11_meet_58 : decode cX11_meet 58 = .ok (.iconst 0, 1) := by decide +kernel
theorem yt_X11_meet_59 : decode cX11_meet 59 = .ok (.istore 7, 2) := by decide +kernel
def xp_X11_meet (n : Nat) (K : Nat → yK) : yX := (xLd 0 100065 (xGetO 63 0 28 2 (xLd 1 0 (xCalR 2 [100030, 0] 17 (f_X9_findSea n) (xSt 4 17 (xLd 4 17 (xNull (xCst 0 (-1) xRi) (xLd 2 0 (xLd 3 0 (xEq (xCst 0 (-1) xRi) (xLd 4 17 (xNm 17 (xLd 2 0 (xCalR 2 [100017, 0] 0 (f_X6_hasShoal n) (xEq0 (xCst 0 (-1) xRi) (xLd 4 17 (xNm 17 (xLd 3 0 (xCalR 2 [100017, 0] 0 (f_X6_hasShoal n) (xEq0 (xCst 0 (-1) xRi) (xLd 4 17 (xNm 17 (xGetO 15 7 9 2 (xLd 2 0 (xAld 9 4 (xSt 5 0 (xLd 4 17 (xNm 17 (xGetO 15 7 9 2 (xLd 3 0 (xAld 9 4 (xSt 6 0 (xCst 0 0 (xSt 7 0 (xJ [(0, 100065), (1, 0), (2, 0), (3, 0), (4, 17), (5, 0), (6, 0), (7, 0)] [] (K 61))))))))))))))))))))))))))))))))))))
theorem s_X11_meet {η : zRn} {D : va_G} {cy : Nat → ClassId} {L : List Nat} {Θ : Nat → Option Nat} {p : Program} {l : Launch} {e : Env} {R : Room} {s : State} {m : MethodId} {args : Array Value} {below : List Frame} {meth : Method} {c : Code} {Q : State → Prop} {Qr : yQt} {n : Nat} {K : Nat → yK} (Z : yCz η zkds D vwCl cy L Θ 8 p l e R s m args below meth c Q cX11_meet (tyW cy) RX11 zTW zKP tyW (some .int) 3 68 Qr) (hI61 : yGo η zkds D vwCl cy L Θ 8 p l e R s m args below meth c Q 61 (xw Qr 0 (xJ [(0, 100065), (1, 0), (2, 0), (3, 0), (4, 17), (5, 0), (6, 0), (7, 0)] [] (K 61)))) : yGo η zkds D vwCl cy L Θ 8 p l e R s m args below meth c Q 0 (xw Qr 0 (xp_X11_meet n K)) := (yr_mono x_ld (yr_aload_n Z.1 rfl (by decide) yt_X11_meet_0 (yr_mono x_geto (yr_getP (lo := 0) (hi := 2147483647) Z.1 yf_RX11_10 (by decide +kernel) yt_X11_meet_1 (yr_mono x_ld (yr_iload_n Z.1 rfl yt_X11_meet_4 (yr_mono x_calR (yr_calR rfl (y_hrunV Z (y := (yX9_findSea, cX9_findSea, 2, (some (.object "ShoalClaims$Sea")))) (m_X9_findSea l) (ycv_of yw_X9_findSea 93 yt_X11_meet_5 yl_RX11_93 rfl (by decide) (by decide) ⟨28, _, _, _, _, rfl, zkd_28, rfl, rfl⟩)) (yr_mono x_st (yr_astore Z.1 (by decide) (by decide) yt_X11_meet_8 (yr_mono x_ld (yr_aload Z.1 (by decide) yt_X11_meet_10 (yr_mono x_null (yr_ifnull Z.1 yt_X11_meet_12 (by first | decide | rfl) (yr_mono x_cst (yr_iconst Z.1 yt_X11_meet_38 (by decide) (yr_mono x_ri (yr_ri Z rfl yt_X11_meet_39)))) (yr_mono x_ld (yr_iload_n Z.1 rfl yt_X11_meet_15 (yr_mono x_ld (yr_iload_n Z.1 rfl yt_X11_meet_16 (yr_mono x_eq (yr_eq Z.1 yt_X11_meet_17 (by first | decide | rfl) (yr_mono x_cst (yr_iconst Z.1 yt_X11_meet_38 (by decide) (yr_mono x_ri (yr_ri Z rfl yt_X11_meet_39)))) (yr_mono x_ld (yr_aload Z.1 (by decide) yt_X11_meet_20 (yr_mono (x_nm ⟨by decide, by decide⟩) (yr_nn (yr_mono x_ld (yr_iload_n Z.1 rfl yt_X11_meet_22 (yr_mono x_calR (yr_calR rfl (y_hrunV Z (y := (yX6_hasShoal, cX6_hasShoal, 2, (some .boolean))) (m_X6_hasShoal l) (ycv_of yw_X6_hasShoal 124 yt_X11_meet_23 yl_RX11_124 rfl (by decide) (by decide) ⟨15, _, _, _, _, rfl, zkd_15, rfl, rfl⟩)) (yr_mono x_eq0 (yr_eq0 Z.1 yt_X11_meet_26 (by first | decide | rfl) (yr_mono x_cst (yr_iconst Z.1 yt_X11_meet_38 (by decide) (yr_mono x_ri (yr_ri Z rfl yt_X11_meet_39)))) (yr_mono x_ld (yr_aload Z.1 (by decide) yt_X11_meet_29 (yr_mono (x_nm ⟨by decide, by decide⟩) (yr_nn (yr_mono x_ld (yr_iload_n Z.1 rfl yt_X11_meet_31 (yr_mono x_calR (yr_calR rfl (y_hrunV Z (y := (yX6_hasShoal, cX6_hasShoal, 2, (some .boolean))) (m_X6_hasShoal l) (ycv_of yw_X6_hasShoal 124 yt_X11_meet_32 yl_RX11_124 rfl (by decide) (by decide) ⟨15, _, _, _, _, rfl, zkd_15, rfl, rfl⟩)) (yr_mono x_eq0 (yr_ne0 Z.1 yt_X11_meet_35 (by first | decide | rfl) (yr_mono x_ld (yr_aload Z.1 (by decide) yt_X11_meet_40 (yr_mono (x_nm ⟨by decide, by decide⟩) (yr_nn (yr_mono x_geto (yr_getP (lo := 0) (hi := 2147483647) Z.1 yf_RX11_128 (by decide +kernel) yt_X11_meet_42 (yr_mono x_ld (yr_iload_n Z.1 rfl yt_X11_meet_45 (yr_mono x_ald (yr_iald (lo := (-2147483648)) (hi := 2147483647) Z.1 (by decide +kernel) yt_X11_meet_46 (yr_mono x_st (yr_istore Z.1 (by decide) yt_X11_meet_47 (yr_mono x_ld (yr_aload Z.1 (by decide) yt_X11_meet_49 (yr_mono (x_nm ⟨by decide, by decide⟩) (yr_nn (yr_mono x_geto (yr_getP (lo := 0) (hi := 2147483647) Z.1 yf_RX11_128 (by decide +kernel) yt_X11_meet_51 (yr_mono x_ld (yr_iload_n Z.1 rfl yt_X11_meet_54 (yr_mono x_ald (yr_iald (lo := (-2147483648)) (hi := 2147483647) Z.1 (by decide +kernel) yt_X11_meet_55 (yr_mono x_st (yr_istore Z.1 (by decide) yt_X11_meet_56 (yr_mono x_cst (yr_iconst Z.1 yt_X11_meet_58 (by decide) (yr_mono x_st (yr_istore Z.1 (by decide) yt_X11_meet_59 hI61)))))))))))))))))))))))))))) (yr_mono x_cst (yr_iconst Z.1 yt_X11_meet_38 (by decide) (yr_mono x_ri (yr_ri Z rfl yt_X11_meet_39))))))))))))))))))))))))))))))))))))))))))))
def f_X11_meet : yFn := fun n ys h => (fun n => xp_X11_meet n (xl_X11_meet n)) n (yar 0 ([100065, 0, 0, 0].zip ys)) [] h
theorem m_X11_meet (l : Launch) : yMet zkds vwCl zTW zKP l (yX11_meet, cX11_meet, 8, (some .int)) 3 68 [100065, 0, 0, 0] (yF 0 f_X11_meet) := y_metF zkp_ok zTW_good (yX11_meet, cX11_meet, 8, (some .int)) 3 68 [100065, 0, 0, 0] 0 (fun n => xp_X11_meet n (xl_X11_meet n)) (by decide +kernel) (by decide) (fun η D cy L Θ p e R s m args below meth c Q Qr n Z => s_X11_meet (n := n) (K := xl_X11_meet n) Z (l_X11_meet Z n))
set_option maxRecDepth 100000 in
theorem e_X11_meet_61 {n : Nat} {x1 x2 x3 x4 x5 x6 x7 : Int} {h : yH} : xl_X11_meet (n + 1) 61 [1, x1, x2, x3, x4, x5, x6, x7] h = if 60 < x7 then (some ((-1), h)) else (if x5 = x6 then (some (x7, h)) else (xg (0 ≤ x4) (xg (0 ≤ x4) (xg (h x4.toNat 9 = (x4 + 4)) (xg (0 ≤ x2 ∧ x2 < 4) (xb (f_X6_drifted n [x4, x5, (h (x4 + 4).toNat x2.toNat)] h) (fun v1 h1 => xg (0 ≤ x4) (xg (0 ≤ x4) (xg (h1 x4.toNat 9 = (x4 + 4)) (xg (0 ≤ x3 ∧ x3 < 4) (xb (f_X6_drifted n [x4, x6, (h1 (x4 + 4).toNat x3.toNat)] h1) (fun v2 h2 => xg (-2147483648 ≤ x7 + 1 ∧ x7 + 1 ≤ 2147483647) (xl_X11_meet n 61 [1, x1, x2, x3, x4, v1, v2, (x7 + 1)] h2))))))))))))) := Eq.trans rfl rfl
set_option maxRecDepth 100000 in
theorem e_X11_meet {n : Nat} {x1 x2 x3 : Int} {h : yH} : f_X11_meet n [1, x1, x2, x3] h = xg (h 1 0 = 3) (xb (f_X9_findSea n [3, x1] h) (fun v3 h3 => if v3 < 0 then (some ((-1), h3)) else (if x2 = x3 then (some ((-1), h3)) else (xg (0 ≤ v3) (xb (f_X6_hasShoal n [v3, x2] h3) (fun v4 h4 => if v4 = 0 then (some ((-1), h4)) else (xg (0 ≤ v3) (xb (f_X6_hasShoal n [v3, x3] h4) (fun v5 h5 => if v5 = 0 then (some ((-1), h5)) else (xg (0 ≤ v3) (xg (h5 v3.toNat 7 = (v3 + 2)) (xg (0 ≤ x2 ∧ x2 < 4) (xg (0 ≤ v3) (xg (h5 v3.toNat 7 = (v3 + 2)) (xg (0 ≤ x3 ∧ x3 < 4) (xl_X11_meet n 61 [1, x1, x2, x3, v3, (h5 (v3 + 2).toNat x2.toNat), (h5 (v3 + 2).toNat x3.toNat), 0] h5)))))))))))))))) := Eq.trans rfl rfl
