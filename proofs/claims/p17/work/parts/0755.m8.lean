section
set_option maxRecDepth 100000 in
theorem yq_X6_rowOf : tables_1_4[135]? = some (.code yX6_rowOf cX6_rowOf 2 (some .int)) := rfl
theorem yw_X6_rowOf : zMV yX6_rowOf cX6_rowOf 2 (some .int) 1 := ⟨⟨zTi_1 4 (by decide +kernel) rfl, zTi_4 135 yq_X6_rowOf rfl, ⟨by decide, by decide⟩, by decide +kernel⟩, zTi_4 133 (by decide +kernel) rfl, zTi_4 134 (by decide +kernel) rfl⟩
theorem yt_X6_rowOf_0 : decode cX6_rowOf 0 = .ok (.aload_n 0, 1) := by decide +kernel
theorem yt_X6_rowOf_1 : decode cX6_rowOf 1 = .ok (.getfield 33, 3) := by decide +kernel
theorem yt_X6_rowOf_4 : decode cX6_rowOf 4 = .ok (.iconst 1, 1) := by decide +kernel
theorem yt_X6_rowOf_5 : decode cX6_rowOf 5 = .ok (.if_icmp .ge 7, 3) := by decide +kernel
theorem yt_X6_rowOf_12 : decode cX6_rowOf 12 = .ok (.iload_n 1, 1) := by decide +kernel
theorem yt_X6_rowOf_13 : decode cX6_rowOf 13 = .ok (.aload_n 0, 1) := by decide +kernel
theorem yt_X6_rowOf_14 : decode cX6_rowOf 14 = .ok (.getfield 33, 3) := by decide +kernel
theorem yt_X6_rowOf_17 : decode cX6_rowOf 17 = .ok (.idiv, 1) := by decide +kernel
theorem yt_X6_rowOf_18 : decode cX6_rowOf 18 = .ok (.ireturn, 1) := by decide +kernel
theorem yt_X6_rowOf_8 : decode cX6_rowOf 8 = .ok (.iconst 0, 1) := by decide +kernel
theorem yt_X6_rowOf_9 : decode cX6_rowOf 9 = .ok (.goto 9, 3) := by decide +kernel
def xp_X6_rowOf (n : Nat) : yX := (xLd 0 100017 (xGet 15 0 0 (xCst 0 1 (xLt (xCst 0 0 xRi) (xLd 1 0 (xLd 0 100017 (xGet 15 0 0 (xArg 3 xRi))))))))
theorem s_X6_rowOf {η : zRn} {D : va_G} {cy : Nat → ClassId} {L : List Nat} {Θ : Nat → Option Nat} {p : Program} {l : Launch} {e : Env} {R : Room} {s : State} {m : MethodId} {args : Array Value} {below : List Frame} {meth : Method} {c : Code} {Q : State → Prop} {Qr : yQt} {n : Nat} (Z : yCz η zkds D vwCl cy L Θ 2 p l e R s m args below meth c Q cX6_rowOf (tyW cy) RX6 zTW zKP tyW (some .int) 0 0 Qr) : yGo η zkds D vwCl cy L Θ 2 p l e R s m args below meth c Q 0 (xw Qr 0 (xp_X6_rowOf n)) := (yr_mono x_ld (yr_aload_n Z.1 rfl (by decide) yt_X6_rowOf_0 (yr_mono x_get (yr_get (lo := 0) (hi := 8) Z.1 yf_RX6_33 (by decide +kernel) yt_X6_rowOf_1 (yr_mono x_cst (yr_iconst Z.1 yt_X6_rowOf_4 (by decide) (yr_mono x_lt (yr_ge Z.1 yt_X6_rowOf_5 (by first | decide | rfl) (yr_mono x_ld (yr_iload_n Z.1 rfl yt_X6_rowOf_12 (yr_mono x_ld (yr_aload_n Z.1 rfl (by decide) yt_X6_rowOf_13 (yr_mono x_get (yr_get (lo := 0) (hi := 8) Z.1 yf_RX6_33 (by decide +kernel) yt_X6_rowOf_14 (yr_mono x_arg (yr_div Z.1 yt_X6_rowOf_17 (yr_mono x_ri (yr_ri Z rfl yt_X6_rowOf_18)))))))))) (yr_mono x_cst (yr_iconst Z.1 yt_X6_rowOf_8 (by decide) (yr_goto Z.1 yt_X6_rowOf_9 (by first | decide | rfl) (yr_mono x_ri (yr_ri Z rfl yt_X6_rowOf_18)))))))))))))
def f_X6_rowOf : yFn := fun n ys h => (fun n => xp_X6_rowOf n) n (yar 0 ([100017, 0].zip ys)) [] h
theorem m_X6_rowOf (l : Launch) : yMet zkds vwCl zTW zKP l (yX6_rowOf, cX6_rowOf, 2, (some .int)) 0 0 [100017, 0] (yF 0 f_X6_rowOf) := y_metF zkp_ok zTW_good (yX6_rowOf, cX6_rowOf, 2, (some .int)) 0 0 [100017, 0] 0 (fun n => xp_X6_rowOf n) (by decide +kernel) (by decide) (fun η D cy L Θ p e R s m args below meth c Q Qr n Z => s_X6_rowOf (n := n) Z)
set_option maxRecDepth 100000 in
theorem e_X6_rowOf {n : Nat} {x0 x1 : Int} {h : yH} : f_X6_rowOf n [x0, x1] h = if (h x0.toNat 0) < 1 then (some (0, h)) else (xg (1 ≤ (h x0.toNat 0)) (some ((yari 3 x1 (h x0.toNat 0)), h))) := by rfl
set_option maxRecDepth 100000 in
theorem yq_X6_columnOf : tables_1_4[139]? = some (.code yX6_columnOf cX6_columnOf 2 (some .int)) := rfl
theorem yw_X6_columnOf : zMV yX6_columnOf cX6_columnOf 2 (some .int) 1 := ⟨⟨zTi_1 4 (by decide +kernel) rfl, zTi_4 139 yq_X6_columnOf rfl, ⟨by decide, by decide⟩, by decide +kernel⟩, zTi_4 137 (by decide +kernel) rfl, zTi_4 138 (by decide +kernel) rfl⟩
theorem yt_X6_columnOf_0 : decode cX6_columnOf 0 = .ok (.aload_n 0, 1) := by decide +kernel
theorem yt_X6_columnOf_1 : decode cX6_columnOf 1 = .ok (.getfield 33, 3) := by decide +kernel
theorem yt_X6_columnOf_4 : decode cX6_columnOf 4 = .ok (.iconst 1, 1) := by decide +kernel
theorem yt_X6_columnOf_5 : decode cX6_columnOf 5 = .ok (.if_icmp .ge 7, 3) := by decide +kernel
theorem yt_X6_columnOf_12 : decode cX6_columnOf 12 = .ok (.iload_n 1, 1) := by decide +kernel
theorem yt_X6_columnOf_13 : decode cX6_columnOf 13 = .ok (.aload_n 0, 1) := by decide +kernel
theorem yt_X6_columnOf_14 : decode cX6_columnOf 14 = .ok (.getfield 33, 3) := by decide +kernel
theorem yt_X6_columnOf_17 : decode cX6_columnOf 17 = .ok (.irem, 1) := by decide +kernel
theorem yt_X6_columnOf_18 : decode cX6_columnOf 18 = .ok (.ireturn, 1) := by decide +kernel
theorem yt_X6_columnOf_8 : decode cX6_columnOf 8 = .ok (.iconst 0, 1) := by decide +kernel
theorem yt_X6_columnOf_9 : decode cX6_columnOf 9 = .ok (.goto 9, 3) := by decide +kernel
def xp_X6_columnOf (n : Nat) : yX := (xLd 0 100017 (xGet 15 0 0 (xCst 0 1 (xLt (xCst 0 0 xRi) (xLd 1 0 (xLd 0 100017 (xGet 15 0 0 (xArg 4 xRi))))))))
theorem s_X6_columnOf {η : zRn} {D : va_G} {cy : Nat → ClassId} {L : List Nat} {Θ : Nat → Option Nat} {p : Program} {l : Launch} {e : Env} {R : Room} {s : State} {m : MethodId} {args : Array Value} {below : List Frame} {meth : Method} {c : Code} {Q : State → Prop} {Qr : yQt} {n : Nat} (Z : yCz η zkds D vwCl cy L Θ 2 p l e R s m args below meth c Q cX6_columnOf (tyW cy) RX6 zTW zKP tyW (some .int) 0 0 Qr) : yGo η zkds D vwCl cy L Θ 2 p l e R s m args below meth c Q 0 (xw Qr 0 (xp_X6_columnOf n)) := (yr_mono x_ld (yr_aload_n Z.1 rfl (by decide) yt_X6_columnOf_0 (yr_mono x_get (yr_get (lo := 0) (hi := 8) Z.1 yf_RX6_33 (by decide +kernel) yt_X6_columnOf_1 (yr_mono x_cst (yr_iconst Z.1 yt_X6_columnOf_4 (by decide) (yr_mono x_lt (yr_ge Z.1 yt_X6_columnOf_5 (by first | decide | rfl) (yr_mono x_ld (yr_iload_n Z.1 rfl yt_X6_columnOf_12 (yr_mono x_ld (yr_aload_n Z.1 rfl (by decide) yt_X6_columnOf_13 (yr_mono x_get (yr_get (lo := 0) (hi := 8) Z.1 yf_RX6_33 (by decide +kernel) yt_X6_columnOf_14 (yr_mono x_arg (yr_rem Z.1 yt_X6_columnOf_17 (yr_mono x_ri (yr_ri Z rfl yt_X6_columnOf_18)))))))))) (yr_mono x_cst (yr_iconst Z.1 yt_X6_columnOf_8 (by decide) (yr_goto Z.1 yt_X6_columnOf_9 (by first | decide | rfl) (yr_mono x_ri (yr_ri Z rfl yt_X6_columnOf_18)))))))))))))
def f_X6_columnOf : yFn := fun n ys h => (fun n => xp_X6_columnOf n) n (yar 0 ([100017, 0].zip ys)) [] h
theorem m_X6_columnOf (l : Launch) : yMet zkds vwCl zTW zKP l (yX6_columnOf, cX6_columnOf, 2, (some .int)) 0 0 [100017, 0] (yF 0 f_X6_columnOf) := y_metF zkp_ok zTW_good (yX6_columnOf, cX6_columnOf, 2, (some .int)) 0 0 [100017, 0] 0 (fun n => xp_X6_columnOf n) (by decide +kernel) (by decide) (fun η D cy L Θ p e R s m args below meth c Q Qr n Z => s_X6_columnOf (n := n) Z)
set_option maxRecDepth 100000 in
theorem e_X6_columnOf {n : Nat} {x0 x1 : Int} {h : yH} : f_X6_columnOf n [x0, x1] h = if (h x0.toNat 0) < 1 then (some (0, h)) else (xg (1 ≤ (h x0.toNat 0)) (some ((yari 4 x1 (h x0.toNat 0)), h))) := by rfl
set_option maxRecDepth 100000 in
theorem yq_X6_rowsBetween : tables_1_5[42]? = some (.code yX6_rowsBetween cX6_rowsBetween 3 (some .int)) := rfl
theorem yw_X6_rowsBetween : zMV yX6_rowsBetween cX6_rowsBetween 3 (some .int) 2 := ⟨⟨zTi_1 4 (by decide +kernel) rfl, zTi_5 42 yq_X6_rowsBetween rfl, ⟨by decide, by decide⟩, by decide +kernel⟩, zTi_5 40 (by decide +kernel) rfl, zTi_5 41 (by decide +kernel) rfl⟩
theorem yt_X6_rowsBetween_0 : decode cX6_rowsBetween 0 = .ok (.aload_n 0, 1) := by decide +kernel
theorem yt_X6_rowsBetween_1 : decode cX6_rowsBetween 1 = .ok (.iload_n 2, 1) := by decide +kernel
theorem yt_X6_rowsBetween_2 : decode cX6_rowsBetween 2 = .ok (.invokevirtual 72, 3) := by decide +kernel
theorem yl_RX6_72 : Cond.methodLink RX6 72 yX6_rowOf ∈ zTW := zTi_4 132 (by decide +kernel) rfl
theorem yt_X6_rowsBetween_5 : decode cX6_rowsBetween 5 = .ok (.aload_n 0, 1) := by decide +kernel
theorem yt_X6_rowsBetween_6 : decode cX6_rowsBetween 6 = .ok (.iload_n 1, 1) := by decide +kernel
theorem yt_X6_rowsBetween_7 : decode cX6_rowsBetween 7 = .ok (.invokevirtual 72, 3) := by decide +kernel
theorem yt_X6_rowsBetween_10 : decode cX6_rowsBetween 10 = .ok (.isub, 1) := by decide +kernel
theorem yt_X6_rowsBetween_11 : decode cX6_rowsBetween 11 = .ok (.invokestatic 76, 3) := by decide +kernel
theorem yt_X6_rowsBetween_14 : decode cX6_rowsBetween 14 = .ok (.aload_n 0, 1) := by decide +kernel
theorem yt_X6_rowsBetween_15 : decode cX6_rowsBetween 15 = .ok (.iload_n 2, 1) := by decide +kernel
theorem yt_X6_rowsBetween_16 : decode cX6_rowsBetween 16 = .ok (.invokevirtual 81, 3) := by decide +kernel
theorem yl_RX6_81 : Cond.methodLink RX6 81 yX6_columnOf ∈ zTW := zTi_4 136 (by decide +kernel) rfl
theorem yt_X6_rowsBetween_19 : decode cX6_rowsBetween 19 = .ok (.aload_n 0, 1) := by decide +kernel
theorem yt_X6_rowsBetween_20 : decode cX6_rowsBetween 20 = .ok (.iload_n 1, 1) := by decide +kernel
theorem yt_X6_rowsBetween_21 : decode cX6_rowsBetween 21 = .ok (.invokevirtual 81, 3) := by decide +kernel
theorem yt_X6_rowsBetween_24 : decode cX6_rowsBetween 24 = .ok (.isub, 1) := by decide +kernel
theorem yt_X6_rowsBetween_25 : decode cX6_rowsBetween 25 = .ok (.invokestatic 76, 3) := by decide +kernel
theorem yt_X6_rowsBetween_28 : decode cX6_rowsBetween 28 = .ok (.iadd, 1) := by decide +kernel
theorem yt_X6_rowsBetween_29 : decode cX6_rowsBetween 29 = .ok (.ireturn, 1) := by decide +kernel
def xp_X6_rowsBetween (n : Nat) : yX := (xLd 0 100017 (xLd 2 0 (xCalR 2 [100017, 0] 0 (f_X6_rowOf n) (xLd 0 100017 (xLd 1 0 (xCalR 2 [100017, 0] 0 (f_X6_rowOf n) (xSub (xAbs (xLd 0 100017 (xLd 2 0 (xCalR 2 [100017, 0] 0 (f_X6_columnOf n) (xLd 0 100017 (xLd 1 0 (xCalR 2 [100017, 0] 0 (f_X6_columnOf n) (xSub (xAbs (xAdd xRi)))))))))))))))))
theorem s_X6_rowsBetween {η : zRn} {D : va_G} {cy : Nat → ClassId} {L : List Nat} {Θ : Nat → Option Nat} {p : Program} {l : Launch} {e : Env} {R : Room} {s : State} {m : MethodId} {args : Array Value} {below : List Frame} {meth : Method} {c : Code} {Q : State → Prop} {Qr : yQt} {n : Nat} (Z : yCz η zkds D vwCl cy L Θ 3 p l e R s m args below meth c Q cX6_rowsBetween (tyW cy) RX6 zTW zKP tyW (some .int) 1 21 Qr) : yGo η zkds D vwCl cy L Θ 3 p l e R s m args below meth c Q 0 (xw Qr 0 (xp_X6_rowsBetween n)) := (yr_mono x_ld (yr_aload_n Z.1 rfl (by decide) yt_X6_rowsBetween_0 (yr_mono x_ld (yr_iload_n Z.1 rfl yt_X6_rowsBetween_1 (yr_mono x_calR (yr_calR rfl (y_hrunV Z (y := (yX6_rowOf, cX6_rowOf, 2, (some .int))) (m_X6_rowOf l) (ycv_of yw_X6_rowOf 72 yt_X6_rowsBetween_2 yl_RX6_72 rfl (by decide) (by decide) ⟨15, _, _, _, _, rfl, zkd_15, rfl, rfl⟩)) (yr_mono x_ld (yr_aload_n Z.1 rfl (by decide) yt_X6_rowsBetween_5 (yr_mono x_ld (yr_iload_n Z.1 rfl yt_X6_rowsBetween_6 (yr_mono x_calR (yr_calR rfl (y_hrunV Z (y := (yX6_rowOf, cX6_rowOf, 2, (some .int))) (m_X6_rowOf l) (ycv_of yw_X6_rowOf 72 yt_X6_rowsBetween_7 yl_RX6_72 rfl (by decide) (by decide) ⟨15, _, _, _, _, rfl, zkd_15, rfl, rfl⟩)) (yr_mono x_sub (yr_sub Z.1 yt_X6_rowsBetween_10 (yr_mono x_abs (yr_abs Z yt_X6_rowsBetween_11 yl_RX6_76 yms_abs ymi ymc_abs (by decide) (by decide) (yr_mono x_ld (yr_aload_n Z.1 rfl (by decide) yt_X6_rowsBetween_14 (yr_mono x_ld (yr_iload_n Z.1 rfl yt_X6_rowsBetween_15 (yr_mono x_calR (yr_calR rfl (y_hrunV Z (y := (yX6_columnOf, cX6_columnOf, 2, (some .int))) (m_X6_columnOf l) (ycv_of yw_X6_columnOf 81 yt_X6_rowsBetween_16 yl_RX6_81 rfl (by decide) (by decide) ⟨15, _, _, _, _, rfl, zkd_15, rfl, rfl⟩)) (yr_mono x_ld (yr_aload_n Z.1 rfl (by decide) yt_X6_rowsBetween_19 (yr_mono x_ld (yr_iload_n Z.1 rfl yt_X6_rowsBetween_20 (yr_mono x_calR (yr_calR rfl (y_hrunV Z (y := (yX6_columnOf, cX6_columnOf, 2, (some .int))) (m_X6_columnOf l) (ycv_of yw_X6_columnOf 81 yt_X6_rowsBetween_21 yl_RX6_81 rfl (by decide) (by decide) ⟨15, _, _, _, _, rfl, zkd_15, rfl, rfl⟩)) (yr_mono x_sub (yr_sub Z.1 yt_X6_rowsBetween_24 (yr_mono x_abs (yr_abs Z yt_X6_rowsBetween_25 yl_RX6_76 yms_abs ymi ymc_abs (by decide) (by decide) (yr_mono x_add (yr_add Z.1 yt_X6_rowsBetween_28 (yr_mono x_ri (yr_ri Z rfl yt_X6_rowsBetween_29))))))))))))))))))))))))))))))))))))
def f_X6_rowsBetween : yFn := fun n ys h => (fun n => xp_X6_rowsBetween n) n (yar 0 ([100017, 0, 0].zip ys)) [] h
theorem m_X6_rowsBetween (l : Launch) : yMet zkds vwCl zTW zKP l (yX6_rowsBetween, cX6_rowsBetween, 3, (some .int)) 1 21 [100017, 0, 0] (yF 0 f_X6_rowsBetween) := y_metF zkp_ok zTW_good (yX6_rowsBetween, cX6_rowsBetween, 3, (some .int)) 1 21 [100017, 0, 0] 0 (fun n => xp_X6_rowsBetween n) (by decide +kernel) (by decide) (fun η D cy L Θ p e R s m args below meth c Q Qr n Z => s_X6_rowsBetween (n := n) Z)
set_option maxRecDepth 100000 in
theorem e_X6_rowsBetween {n : Nat} {x0 x1 x2 : Int} {h : yH} : f_X6_rowsBetween n [x0, x1, x2] h = xb (f_X6_rowOf n [x0, x2] h) (fun v1 h1 => xb (f_X6_rowOf n [x0, x1] h1) (fun v2 h2 => xg (-2147483648 ≤ v1 - v2 ∧ v1 - v2 ≤ 2147483647) (xg (-2147483648 < (v1 - v2)) (xb (f_X6_columnOf n [x0, x2] h2) (fun v3 h3 => xb (f_X6_columnOf n [x0, x1] h3) (fun v4 h4 => xg (-2147483648 ≤ v3 - v4 ∧ v3 - v4 ≤ 2147483647) (xg (-2147483648 < (v3 - v4)) (xg (-2147483648 ≤ (if 0 ≤ (v1 - v2) then (v1 - v2) else -(v1 - v2)) + (if 0 ≤ (v3 - v4) then (v3 - v4) else -(v3 - v4)) ∧ (if 0 ≤ (v1 - v2) then (v1 - v2) else -(v1 - v2)) + (if 0 ≤ (v3 - v4) then (v3 - v4) else -(v3 - v4)) ≤ 2147483647) (some (((if 0 ≤ (v1 - v2) then (v1 - v2) else -(v1 - v2)) + (if 0 ≤ (v3 - v4) then (v3 - v4) else -(v3 - v4))), h4)))))))))) := by rfl
set_option maxRecDepth 100000 in
theorem yq_X6_beside : tables_1_4[131]? = some (.code yX6_beside cX6_beside 5 (some .int)) := rfl
theorem yw_X6_beside : zMV yX6_beside cX6_beside 5 (some .int) 2 := ⟨⟨zTi_1 4 (by decide +kernel) rfl, zTi_4 131 yq_X6_beside rfl, ⟨by decide, by decide⟩, by decide +kernel⟩, zTi_4 129 (by decide +kernel) rfl, zTi_4 130 (by decide +kernel) rfl⟩
def dcl_cX6_beside_0 : List UInt8 := [0x2a, 0x1b, 0xb6, 0x00, 0x48, 0x3e, 0x2a, 0x1b, 0xb6, 0x00, 0x51, 0x36, 0x04, 0x1c, 0xaa, 0x00, 0x00, 0x00, 0x00, 0x62, 0x00, 0x00, 0x00, 0x00, 0x00, 0x00, 0x00, 0x03, 0x00, 0x00, 0x00, 0x1e, 0x00, 0x00, 0x00, 0x2d, 0x00, 0x00, 0x00, 0x40, 0x00, 0x00, 0x00, 0x55, 0x1d, 0x9e, 0x00, 0x0c, 0x1b, 0x2a, 0xb4, 0x00, 0x21, 0x64, 0xa7, 0x00, 0x04, 0x02, 0xac, 0x15, 0x04, 0x2a, 0xb4, 0x00, 0x21, 0x04]
theorem dcs_cX6_beside_0 : (cX6_beside.data.toList.drop 0).take 66 = dcl_cX6_beside_0 := by decide +kernel
theorem yt_X6_beside_0 : decode cX6_beside 0 = .ok (.aload_n 0, 1) := dcR 0 0 dcs_cX6_beside_0 (by decide +kernel)
theorem yt_X6_beside_1 : decode cX6_beside 1 = .ok (.iload_n 1, 1) := dcR 0 1 dcs_cX6_beside_0 (by decide +kernel)
theorem yt_X6_beside_2 : decode cX6_beside 2 = .ok (.invokevirtual 72, 3) := dcR 0 2 dcs_cX6_beside_0 (by decide +kernel)
theorem yt_X6_beside_5 : decode cX6_beside 5 = .ok (.istore_n 3, 1) := dcR 0 5 dcs_cX6_beside_0 (by decide +kernel)
theorem yt_X6_beside_6 : decode cX6_beside 6 = .ok (.aload_n 0, 1) := dcR 0 6 dcs_cX6_beside_0 (by decide +kernel)
theorem yt_X6_beside_7 : decode cX6_beside 7 = .ok (.iload_n 1, 1) := dcR 0 7 dcs_cX6_beside_0 (by decide +kernel)
theorem yt_X6_beside_8 : decode cX6_beside 8 = .ok (.invokevirtual 81, 3) := dcR 0 8 dcs_cX6_beside_0 (by decide +kernel)
theorem yt_X6_beside_11 : decode cX6_beside 11 = .ok (.istore 4, 2) := dcR 0 11 dcs_cX6_beside_0 (by decide +kernel)
theorem yt_X6_beside_13 : decode cX6_beside 13 = .ok (.iload_n 2, 1) := dcR 0 13 dcs_cX6_beside_0 (by decide +kernel)
theorem yt_X6_beside_14 : decode cX6_beside 14 = .ok (.tableswitch 98 0 3 #[30, 45, 64, 85], 30) := by decide +kernel
theorem yt_X6_beside_44 : decode cX6_beside 44 = .ok (.iload_n 3, 1) := dcR 0 44 dcs_cX6_beside_0 (by decide +kernel)
theorem yt_X6_beside_45 : decode cX6_beside 45 = .ok (.ifCond .le 12, 3) := dcR 0 45 dcs_cX6_beside_0 (by decide +kernel)
theorem yt_X6_beside_57 : decode cX6_beside 57 = .ok (.iconst (-1), 1) := dcR 0 57 dcs_cX6_beside_0 (by decide +kernel)
theorem yt_X6_beside_58 : decode cX6_beside 58 = .ok (.ireturn, 1) := dcR 0 58 dcs_cX6_beside_0 (by decide +kernel)
theorem yt_X6_beside_48 : decode cX6_beside 48 = .ok (.iload_n 1, 1) := dcR 0 48 dcs_cX6_beside_0 (by decide +kernel)
theorem yt_X6_beside_49 : decode cX6_beside 49 = .ok (.aload_n 0, 1) := dcR 0 49 dcs_cX6_beside_0 (by decide +kernel)
theorem yt_X6_beside_50 : decode cX6_beside 50 = .ok (.getfield 33, 3) := dcR 0 50 dcs_cX6_beside_0 (by decide +kernel)
theorem yt_X6_beside_53 : decode cX6_beside 53 = .ok (.isub, 1) := dcR 0 53 dcs_cX6_beside_0 (by decide +kernel)
theorem yt_X6_beside_54 : decode cX6_beside 54 = .ok (.goto 4, 3) := dcR 0 54 dcs_cX6_beside_0 (by decide +kernel)
theorem yt_X6_beside_59 : decode cX6_beside 59 = .ok (.iload 4, 2) := dcR 0 59 dcs_cX6_beside_0 (by decide +kernel)
theorem yt_X6_beside_61 : decode cX6_beside 61 = .ok (.aload_n 0, 1) := dcR 0 61 dcs_cX6_beside_0 (by decide +kernel)
theorem yt_X6_beside_62 : decode cX6_beside 62 = .ok (.getfield 33, 3) := dcR 0 62 dcs_cX6_beside_0 (by decide +kernel)
def dcl_cX6_beside_1 : List UInt8 := [0x21, 0x04, 0x64, 0xa2, 0x00, 0x09, 0x1b, 0x04, 0x60, 0xa7, 0x00, 0x04, 0x02, 0xac, 0x1d, 0x2a, 0xb4, 0x00, 0x25, 0x04, 0x64, 0xa2, 0x00, 0x0c, 0x1b, 0x2a, 0xb4, 0x00, 0x21, 0x60, 0xa7, 0x00, 0x04, 0x02, 0xac, 0x15, 0x04, 0x9e, 0x00, 0x09, 0x1b, 0x04, 0x64, 0xa7, 0x00, 0x04, 0x02, 0xac, 0x02, 0xac]
theorem dcs_cX6_beside_1 : (cX6_beside.data.toList.drop 64).take 66 = dcl_cX6_beside_1 := by decide +kernel
theorem yt_X6_beside_65 : decode cX6_beside 65 = .ok (.iconst 1, 1) := dcR 64 1 dcs_cX6_beside_1 (by decide +kernel)
theorem yt_X6_beside_66 : decode cX6_beside 66 = .ok (.isub, 1) := dcR 64 2 dcs_cX6_beside_1 (by decide +kernel)
theorem yt_X6_beside_67 : decode cX6_beside 67 = .ok (.if_icmp .ge 9, 3) := dcR 64 3 dcs_cX6_beside_1 (by decide +kernel)
theorem yt_X6_beside_76 : decode cX6_beside 76 = .ok (.iconst (-1), 1) := dcR 64 12 dcs_cX6_beside_1 (by decide +kernel)
theorem yt_X6_beside_77 : decode cX6_beside 77 = .ok (.ireturn, 1) := dcR 64 13 dcs_cX6_beside_1 (by decide +kernel)
theorem yt_X6_beside_70 : decode cX6_beside 70 = .ok (.iload_n 1, 1) := dcR 64 6 dcs_cX6_beside_1 (by decide +kernel)
theorem yt_X6_beside_71 : decode cX6_beside 71 = .ok (.iconst 1, 1) := dcR 64 7 dcs_cX6_beside_1 (by decide +kernel)
theorem yt_X6_beside_72 : decode cX6_beside 72 = .ok (.iadd, 1) := dcR 64 8 dcs_cX6_beside_1 (by decide +kernel)
theorem yt_X6_beside_73 : decode cX6_beside 73 = .ok (.goto 4, 3) := dcR 64 9 dcs_cX6_beside_1 (by decide +kernel)
theorem yt_X6_beside_78 : decode cX6_beside 78 = .ok (.iload_n 3, 1) := dcR 64 14 dcs_cX6_beside_1 (by decide +kernel)
theorem yt_X6_beside_79 : decode cX6_beside 79 = .ok (.aload_n 0, 1) := dcR 64 15 dcs_cX6_beside_1 (by decide +kernel)
theorem yt_X6_beside_80 : decode cX6_beside 80 = .ok (.getfield 37, 3) := dcR 64 16 dcs_cX6_beside_1 (by decide +kernel)
theorem yt_X6_beside_83 : decode cX6_beside 83 = .ok (.iconst 1, 1) := dcR 64 19 dcs_cX6_beside_1 (by decide +kernel)
theorem yt_X6_beside_84 : decode cX6_beside 84 = .ok (.isub, 1) := dcR 64 20 dcs_cX6_beside_1 (by decide +kernel)
theorem yt_X6_beside_85 : decode cX6_beside 85 = .ok (.if_icmp .ge 12, 3) := dcR 64 21 dcs_cX6_beside_1 (by decide +kernel)
theorem yt_X6_beside_97 : decode cX6_beside 97 = .ok (.iconst (-1), 1) := dcR 64 33 dcs_cX6_beside_1 (by decide +kernel)
theorem yt_X6_beside_98 : decode cX6_beside 98 = .ok (.ireturn, 1) := dcR 64 34 dcs_cX6_beside_1 (by decide +kernel)
theorem yt_X6_beside_88 : decode cX6_beside 88 = .ok (.iload_n 1, 1) := dcR 64 24 dcs_cX6_beside_1 (by decide +kernel)
theorem yt_X6_beside_89 : decode cX6_beside 89 = .ok (.aload_n 0, 1) := dcR 64 25 dcs_cX6_beside_1 (by decide +kernel)
theorem yt_X6_beside_90 : decode cX6_beside 90 = .ok (.getfield 33, 3) := dcR 64 26 dcs_cX6_beside_1 (by decide +kernel)
theorem yt_X6_beside_93 : decode cX6_beside 93 = .ok (.iadd, 1) := dcR 64 29 dcs_cX6_beside_1 (by decide +kernel)
theorem yt_X6_beside_94 : decode cX6_beside 94 = .ok (.goto 4, 3) := dcR 64 30 dcs_cX6_beside_1 (by decide +kernel)
theorem yt_X6_beside_99 : decode cX6_beside 99 = .ok (.iload 4, 2) := dcR 64 35 dcs_cX6_beside_1 (by decide +kernel)
theorem yt_X6_beside_101 : decode cX6_beside 101 = .ok (.ifCond .le 9, 3) := dcR 64 37 dcs_cX6_beside_1 (by decide +kernel)
theorem yt_X6_beside_110 : decode cX6_beside 110 = .ok (.iconst (-1), 1) := dcR 64 46 dcs_cX6_beside_1 (by decide +kernel)
theorem yt_X6_beside_111 : decode cX6_beside 111 = .ok (.ireturn, 1) := dcR 64 47 dcs_cX6_beside_1 (by decide +kernel)
theorem yt_X6_beside_104 : decode cX6_beside 104 = .ok (.iload_n 1, 1) := dcR 64 40 dcs_cX6_beside_1 (by decide +kernel)
theorem yt_X6_beside_105 : decode cX6_beside 105 = .ok (.iconst 1, 1) := dcR 64 41 dcs_cX6_beside_1 (by decide +kernel)
theorem yt_X6_beside_106 : decode cX6_beside 106 = .ok (.isub, 1) := dcR 64 42 dcs_cX6_beside_1 (by decide +kernel)
theorem yt_X6_beside_107 : decode cX6_beside 107 = .ok (.goto 4, 3) := dcR 64 43 dcs_cX6_beside_1 (by decide +kernel)
theorem yt_X6_beside_112 : decode cX6_beside 112 = .ok (.iconst (-1), 1) := by decide +kernel
theorem yt_X6_beside_113 : decode cX6_beside 113 = .ok (.ireturn, 1) := by decide +kernel
def xp_X6_beside (n : Nat) : yX := (xLd 0 100017 (xLd 1 0 (xCalR 2 [100017, 0] 0 (f_X6_rowOf n) (xSt 3 0 (xLd 0 100017 (xLd 1 0 (xCalR 2 [100017, 0] 0 (f_X6_columnOf n) (xSt 4 0 (xLd 2 0 (xSw [(0, (xLd 3 0 (xGt0 (xLd 1 0 (xLd 0 100017 (xGet 15 0 0 (xSub xRi)))) (xCst 0 (-1) xRi)))), (1, (xLd 4 0 (xLd 0 100017 (xGet 15 0 0 (xCst 0 1 (xSub (xLt (xLd 1 0 (xCst 0 1 (xAdd xRi))) (xCst 0 (-1) xRi)))))))), (2, (xLd 3 0 (xLd 0 100017 (xGet 15 1 0 (xCst 0 1 (xSub (xLt (xLd 1 0 (xLd 0 100017 (xGet 15 0 0 (xAdd xRi)))) (xCst 0 (-1) xRi)))))))), (3, (xLd 4 0 (xGt0 (xLd 1 0 (xCst 0 1 (xSub xRi))) (xCst 0 (-1) xRi))))] (xCst 0 (-1) xRi)))))))))))
theorem s_X6_beside {η : zRn} {D : va_G} {cy : Nat → ClassId} {L : List Nat} {Θ : Nat → Option Nat} {p : Program} {l : Launch} {e : Env} {R : Room} {s : State} {m : MethodId} {args : Array Value} {below : List Frame} {meth : Method} {c : Code} {Q : State → Prop} {Qr : yQt} {n : Nat} (Z : yCz η zkds D vwCl cy L Θ 5 p l e R s m args below meth c Q cX6_beside (tyW cy) RX6 zTW zKP tyW (some .int) 1 21 Qr) : yGo η zkds D vwCl cy L Θ 5 p l e R s m args below meth c Q 0 (xw Qr 0 (xp_X6_beside n)) := (yr_mono x_ld (yr_aload_n Z.1 rfl (by decide) yt_X6_beside_0 (yr_mono x_ld (yr_iload_n Z.1 rfl yt_X6_beside_1 (yr_mono x_calR (yr_calR rfl (y_hrunV Z (y := (yX6_rowOf, cX6_rowOf, 2, (some .int))) (m_X6_rowOf l) (ycv_of yw_X6_rowOf 72 yt_X6_beside_2 yl_RX6_72 rfl (by decide) (by decide) ⟨15, _, _, _, _, rfl, zkd_15, rfl, rfl⟩)) (yr_mono x_st (yr_istore_n Z.1 rfl (by decide) yt_X6_beside_5 (yr_mono x_ld (yr_aload_n Z.1 rfl (by decide) yt_X6_beside_6 (yr_mono x_ld (yr_iload_n Z.1 rfl yt_X6_beside_7 (yr_mono x_calR (yr_calR rfl (y_hrunV Z (y := (yX6_columnOf, cX6_columnOf, 2, (some .int))) (m_X6_columnOf l) (ycv_of yw_X6_columnOf 81 yt_X6_beside_8 yl_RX6_81 rfl (by decide) (by decide) ⟨15, _, _, _, _, rfl, zkd_15, rfl, rfl⟩)) (yr_mono x_st (yr_istore Z.1 (by decide) yt_X6_beside_11 (yr_mono x_ld (yr_iload_n Z.1 rfl yt_X6_beside_13 (yr_mono x_sw (yr_tsw (cs := [(0, 44, _), (1, 59, _), (2, 78, _), (3, 99, _)]) (td := 112) Z.1 yt_X6_beside_14 rfl rfl (yr_mono x_cst (yr_iconst Z.1 yt_X6_beside_112 (by decide) (yr_mono x_ri (yr_ri Z rfl yt_X6_beside_113)))) (List.forall_mem_cons.mpr ⟨(yr_mono x_ld (yr_iload_n Z.1 rfl yt_X6_beside_44 (yr_mono x_gt0 (yr_le0 Z.1 yt_X6_beside_45 (by first | decide | rfl) (yr_mono x_cst (yr_iconst Z.1 yt_X6_beside_57 (by decide) (yr_mono x_ri (yr_ri Z rfl yt_X6_beside_58)))) (yr_mono x_ld (yr_iload_n Z.1 rfl yt_X6_beside_48 (yr_mono x_ld (yr_aload_n Z.1 rfl (by decide) yt_X6_beside_49 (yr_mono x_get (yr_get (lo := 0) (hi := 8) Z.1 yf_RX6_33 (by decide +kernel) yt_X6_beside_50 (yr_mono x_sub (yr_sub Z.1 yt_X6_beside_53 (yr_goto Z.1 yt_X6_beside_54 (by first | decide | rfl) (yr_mono x_ri (yr_ri Z rfl yt_X6_beside_58))))))))))))))), (List.forall_mem_cons.mpr ⟨(yr_mono x_ld (yr_iload Z.1 yt_X6_beside_59 (yr_mono x_ld (yr_aload_n Z.1 rfl (by decide) yt_X6_beside_61 (yr_mono x_get (yr_get (lo := 0) (hi := 8) Z.1 yf_RX6_33 (by decide +kernel) yt_X6_beside_62 (yr_mono x_cst (yr_iconst Z.1 yt_X6_beside_65 (by decide) (yr_mono x_sub (yr_sub Z.1 yt_X6_beside_66 (yr_mono x_lt (yr_ge Z.1 yt_X6_beside_67 (by first | decide | rfl) (yr_mono x_cst (yr_iconst Z.1 yt_X6_beside_76 (by decide) (yr_mono x_ri (yr_ri Z rfl yt_X6_beside_77)))) (yr_mono x_ld (yr_iload_n Z.1 rfl yt_X6_beside_70 (yr_mono x_cst (yr_iconst Z.1 yt_X6_beside_71 (by decide) (yr_mono x_add (yr_add Z.1 yt_X6_beside_72 (yr_goto Z.1 yt_X6_beside_73 (by first | decide | rfl) (yr_mono x_ri (yr_ri Z rfl yt_X6_beside_77))))))))))))))))))))), (List.forall_mem_cons.mpr ⟨(yr_mono x_ld (yr_iload_n Z.1 rfl yt_X6_beside_78 (yr_mono x_ld (yr_aload_n Z.1 rfl (by decide) yt_X6_beside_79 (yr_mono x_get (yr_get (lo := 0) (hi := 8) Z.1 yf_RX6_37 (by decide +kernel) yt_X6_beside_80 (yr_mono x_cst (yr_iconst Z.1 yt_X6_beside_83 (by decide) (yr_mono x_sub (yr_sub Z.1 yt_X6_beside_84 (yr_mono x_lt (yr_ge Z.1 yt_X6_beside_85 (by first | decide | rfl) (yr_mono x_cst (yr_iconst Z.1 yt_X6_beside_97 (by decide) (yr_mono x_ri (yr_ri Z rfl yt_X6_beside_98)))) (yr_mono x_ld (yr_iload_n Z.1 rfl yt_X6_beside_88 (yr_mono x_ld (yr_aload_n Z.1 rfl (by decide) yt_X6_beside_89 (yr_mono x_get (yr_get (lo := 0) (hi := 8) Z.1 yf_RX6_33 (by decide +kernel) yt_X6_beside_90 (yr_mono x_add (yr_add Z.1 yt_X6_beside_93 (yr_goto Z.1 yt_X6_beside_94 (by first | decide | rfl) (yr_mono x_ri (yr_ri Z rfl yt_X6_beside_98))))))))))))))))))))))), (List.forall_mem_cons.mpr ⟨(yr_mono x_ld (yr_iload Z.1 yt_X6_beside_99 (yr_mono x_gt0 (yr_le0 Z.1 yt_X6_beside_101 (by first | decide | rfl) (yr_mono x_cst (yr_iconst Z.1 yt_X6_beside_110 (by decide) (yr_mono x_ri (yr_ri Z rfl yt_X6_beside_111)))) (yr_mono x_ld (yr_iload_n Z.1 rfl yt_X6_beside_104 (yr_mono x_cst (yr_iconst Z.1 yt_X6_beside_105 (by decide) (yr_mono x_sub (yr_sub Z.1 yt_X6_beside_106 (yr_goto Z.1 yt_X6_beside_107 (by first | decide | rfl) (yr_mono x_ri (yr_ri Z rfl yt_X6_beside_111))))))))))))), (List.forall_mem_nil _)⟩)⟩)⟩)⟩)))))))))))))))))))))
def f_X6_beside : yFn := fun n ys h => (fun n => xp_X6_beside n) n (yar 0 ([100017, 0, 0].zip ys)) [] h
theorem m_X6_beside (l : Launch) : yMet zkds vwCl zTW zKP l (yX6_beside, cX6_beside, 5, (some .int)) 1 21 [100017, 0, 0] (yF 0 f_X6_beside) := y_metF zkp_ok zTW_good (yX6_beside, cX6_beside, 5, (some .int)) 1 21 [100017, 0, 0] 0 (fun n => xp_X6_beside n) (by decide +kernel) (by decide) (fun η D cy L Θ p e R s m args below meth c Q Qr n Z => s_X6_beside (n := n) Z)
set_option maxRecDepth 100000 in
theorem e_X6_beside {n : Nat} {x0 x1 x2 : Int} {h : yH} : f_X6_beside n [x0, x1, x2] h = xb (f_X6_rowOf n [x0, x1] h) (fun v1 h1 => xb (f_X6_columnOf n [x0, x1] h1) (fun v2 h2 => if x2 = 0 then (if 0 < v1 then (xg (-2147483648 ≤ x1 - (h2 x0.toNat 0) ∧ x1 - (h2 x0.toNat 0) ≤ 2147483647) (some ((x1 - (h2 x0.toNat 0)), h2))) else (some ((-1), h2))) else (if x2 = 1 then (xg (-2147483648 ≤ (h2 x0.toNat 0) - 1 ∧ (h2 x0.toNat 0) - 1 ≤ 2147483647) (if v2 < ((h2 x0.toNat 0) - 1) then (xg (-2147483648 ≤ x1 + 1 ∧ x1 + 1 ≤ 2147483647) (some ((x1 + 1), h2))) else (some ((-1), h2)))) else (if x2 = 2 then (xg (-2147483648 ≤ (h2 x0.toNat 1) - 1 ∧ (h2 x0.toNat 1) - 1 ≤ 2147483647) (if v1 < ((h2 x0.toNat 1) - 1) then (xg (-2147483648 ≤ x1 + (h2 x0.toNat 0) ∧ x1 + (h2 x0.toNat 0) ≤ 2147483647) (some ((x1 + (h2 x0.toNat 0)), h2))) else (some ((-1), h2)))) else (if x2 = 3 then (if 0 < v2 then (xg (-2147483648 ≤ x1 - 1 ∧ x1 - 1 ≤ 2147483647) (some ((x1 - 1), h2))) else (some ((-1), h2))) else (some ((-1), h2))))))) := by rfl
set_option maxRecDepth 100000 in
theorem yq_X6_drifted : tables_1_4[208]? = some (.code yX6_drifted cX6_drifted 4 (some .int)) := rfl
theorem yw_X6_drifted : zMV yX6_drifted cX6_drifted 4 (some .int) 2 := ⟨⟨zTi_1 4 (by decide +kernel) rfl, zTi_4 208 yq_X6_drifted rfl, ⟨by decide, by decide⟩, by decide +kernel⟩, zTi_4 206 (by decide +kernel) rfl, zTi_4 207 (by decide +kernel) rfl⟩
theorem yt_X6_drifted_0 : decode cX6_drifted 0 = .ok (.aload_n 0, 1) := by decide +kernel
theorem yt_X6_drifted_1 : decode cX6_drifted 1 = .ok (.iload_n 1, 1) := by decide +kernel
theorem yt_X6_drifted_2 : decode cX6_drifted 2 = .ok (.iload_n 2, 1) := by decide +kernel
theorem yt_X6_drifted_3 : decode cX6_drifted 3 = .ok (.invokevirtual 84, 3) := by decide +kernel
theorem yl_RX6_84 : Cond.methodLink RX6 84 yX6_beside ∈ zTW := zTi_4 209 (by decide +kernel) rfl
theorem yt_X6_drifted_6 : decode cX6_drifted 6 = .ok (.istore_n 3, 1) := by decide +kernel
theorem yt_X6_drifted_7 : decode cX6_drifted 7 = .ok (.iload_n 3, 1) := by decide +kernel
theorem yt_X6_drifted_8 : decode cX6_drifted 8 = .ok (.iconst (-1), 1) := by decide +kernel
theorem yt_X6_drifted_9 : decode cX6_drifted 9 = .ok (.if_icmp .ne 7, 3) := by decide +kernel
theorem yt_X6_drifted_16 : decode cX6_drifted 16 = .ok (.iload_n 3, 1) := by decide +kernel
theorem yt_X6_drifted_17 : decode cX6_drifted 17 = .ok (.ireturn, 1) := by decide +kernel
theorem yt_X6_drifted_12 : decode cX6_drifted 12 = .ok (.iload_n 1, 1) := by decide +kernel
theorem yt_X6_drifted_13 : decode cX6_drifted 13 = .ok (.goto 4, 3) := by decide +kernel
def xp_X6_drifted (n : Nat) : yX := (xLd 0 100017 (xLd 1 0 (xLd 2 0 (xCalR 3 [100017, 0, 0] 0 (f_X6_beside n) (xSt 3 0 (xLd 3 0 (xCst 0 (-1) (xEq (xLd 1 0 xRi) (xLd 3 0 xRi)))))))))
theorem s_X6_drifted {η : zRn} {D : va_G} {cy : Nat → ClassId} {L : List Nat} {Θ : Nat → Option Nat} {p : Program} {l : Launch} {e : Env} {R : Room} {s : State} {m : MethodId} {args : Array Value} {below : List Frame} {meth : Method} {c : Code} {Q : State → Prop} {Qr : yQt} {n : Nat} (Z : yCz η zkds D vwCl cy L Θ 4 p l e R s m args below meth c Q cX6_drifted (tyW cy) RX6 zTW zKP tyW (some .int) 2 45 Qr) : yGo η zkds D vwCl cy L Θ 4 p l e R s m args below meth c Q 0 (xw Qr 0 (xp_X6_drifted n)) := (yr_mono x_ld (yr_aload_n Z.1 rfl (by decide) yt_X6_drifted_0 (yr_mono x_ld (yr_iload_n Z.1 rfl yt_X6_drifted_1 (yr_mono x_ld (yr_iload_n Z.1 rfl yt_X6_drifted_2 (yr_mono x_calR (yr_calR rfl (y_hrunV Z (y := (yX6_beside, cX6_beside, 5, (some .int))) (m_X6_beside l) (ycv_of yw_X6_beside 84 yt_X6_drifted_3 yl_RX6_84 rfl (by decide) (by decide) ⟨15, _, _, _, _, rfl, zkd_15, rfl, rfl⟩)) (yr_mono x_st (yr_istore_n Z.1 rfl (by decide) yt_X6_drifted_6 (yr_mono x_ld (yr_iload_n Z.1 rfl yt_X6_drifted_7 (yr_mono x_cst (yr_iconst Z.1 yt_X6_drifted_8 (by decide) (yr_mono x_eq (yr_ne Z.1 yt_X6_drifted_9 (by first | decide | rfl) (yr_mono x_ld (yr_iload_n Z.1 rfl yt_X6_drifted_16 (yr_mono x_ri (yr_ri Z rfl yt_X6_drifted_17)))) (yr_mono x_ld (yr_iload_n Z.1 rfl yt_X6_drifted_12 (yr_goto Z.1 yt_X6_drifted_13 (by first | decide | rfl) (yr_mono x_ri (yr_ri Z rfl yt_X6_drifted_17)))))))))))))))))))))
def f_X6_drifted : yFn := fun n ys h => (fun n => xp_X6_drifted n) n (yar 0 ([100017, 0, 0].zip ys)) [] h
theorem m_X6_drifted (l : Launch) : yMet zkds vwCl zTW zKP l (yX6_drifted, cX6_drifted, 4, (some .int)) 2 45 [100017, 0, 0] (yF 0 f_X6_drifted) := y_metF zkp_ok zTW_good (yX6_drifted, cX6_drifted, 4, (some .int)) 2 45 [100017, 0, 0] 0 (fun n => xp_X6_drifted n) (by decide +kernel) (by decide) (fun η D cy L Θ p e R s m args below meth c Q Qr n Z => s_X6_drifted (n := n) Z)
set_option maxRecDepth 100000 in
theorem e_X6_drifted {n : Nat} {x0 x1 x2 : Int} {h : yH} : f_X6_drifted n [x0, x1, x2] h = xb (f_X6_beside n [x0, x1, x2] h) (fun v1 h1 => if v1 = (-1) then (some (x1, h1)) else (some (v1, h1))) := by rfl
set_option maxRecDepth 100000 in
theorem yq_X11_meet : tables_1_5[179]? = some (.code yX11_meet cX11_meet 8 (some .int)) := rfl
theorem yw_X11_meet : zMV yX11_meet cX11_meet 8 (some .int) 3 := ⟨⟨zTi_1 1 (by decide +kernel) rfl, zTi_5 179 yq_X11_meet rfl, ⟨by decide, by decide⟩, by decide +kernel⟩, zTi_5 177 (by decide +kernel) rfl, zTi_5 178 (by decide +kernel) rfl⟩
def dcl_cX11_meet_0 : List UInt8 := [0x2a, 0xb4, 0x00, 0x0a, 0x1b, 0xb6, 0x00, 0x5d, 0x3a, 0x04, 0x19, 0x04, 0xc6, 0x00, 0x1a, 0x1c, 0x1d, 0x9f, 0x00, 0x15, 0x19, 0x04, 0x1c, 0xb6, 0x00, 0x7c, 0x99, 0x00, 0x0c, 0x19, 0x04, 0x1d, 0xb6, 0x00, 0x7c, 0x9a, 0x00, 0x05, 0x02, 0xac, 0x19, 0x04, 0xb4, 0x00, 0x80, 0x1c, 0x2e, 0x36, 0x05, 0x19, 0x04, 0xb4, 0x00, 0x80, 0x1d, 0x2e, 0x36, 0x06, 0x03, 0x36, 0x07, 0x15, 0x07, 0x10, 0x3c, 0xa3]
theorem dcs_cX11_meet_0 : (cX11_meet.data.toList.drop 0).take 66 = dcl_cX11_meet_0 := by decide +kernel
theorem yt_X11_meet_61 : decode cX11_meet 61 = .ok (.iload 7, 2) := dcR 0 61 dcs_cX11_meet_0 (by decide +kernel)
theorem yt_X11_meet_63 : decode cX11_meet 63 = .ok (.bipush 60, 2) := dcR 0 63 dcs_cX11_meet_0 (by decide +kernel)
def dcl_cX11_meet_1 : List UInt8 := [0x3c, 0xa3, 0x00, 0x33, 0x15, 0x05, 0x15, 0x06, 0xa0, 0x00, 0x06, 0x15, 0x07, 0xac, 0x19, 0x04, 0x15, 0x05, 0x19, 0x04, 0xb4, 0x00, 0x86, 0x1c, 0x2e, 0xb6, 0x01, 0x68, 0x36, 0x05, 0x19, 0x04, 0x15, 0x06, 0x19, 0x04, 0xb4, 0x00, 0x86, 0x1d, 0x2e, 0xb6, 0x01, 0x68, 0x36, 0x06, 0x84, 0x07, 0x01, 0xa7, 0xff, 0xcc, 0x02, 0xac]
theorem dcs_cX11_meet_1 : (cX11_meet.data.toList.drop 64).take 66 = dcl_cX11_meet_1 := by decide +kernel
theorem yt_X11_meet_65 : decode cX11_meet 65 = .ok (.if_icmp .gt 51, 3) := dcR 64 1 dcs_cX11_meet_1 (by decide +kernel)
theorem yt_X11_meet_116 : decode cX11_meet 116 = .ok (.iconst (-1), 1) := by decide +kernel
theorem yt_X11_meet_117 : decode cX11_meet 117 = .ok (.ireturn, 1) := by decide +kernel
theorem yt_X11_meet_68 : decode cX11_meet 68 = .ok (.iload 5, 2) := dcR 64 4 dcs_cX11_meet_1 (by decide +kernel)
theorem yt_X11_meet_70 : decode cX11_meet 70 = .ok (.iload 6, 2) := dcR 64 6 dcs_cX11_meet_1 (by decide +kernel)
theorem yt_X11_meet_72 : decode cX11_meet 72 = .ok (.if_icmp .ne 6, 3) := dcR 64 8 dcs_cX11_meet_1 (by decide +kernel)
theorem yt_X11_meet_78 : decode cX11_meet 78 = .ok (.aload 4, 2) := dcR 64 14 dcs_cX11_meet_1 (by decide +kernel)
theorem yt_X11_meet_80 : decode cX11_meet 80 = .ok (.iload 5, 2) := dcR 64 16 dcs_cX11_meet_1 (by decide +kernel)
theorem yt_X11_meet_82 : decode cX11_meet 82 = .ok (.aload 4, 2) := dcR 64 18 dcs_cX11_meet_1 (by decide +kernel)
theorem yt_X11_meet_84 : decode cX11_meet 84 = .ok (.getfield 134, 3) := dcR 64 20 dcs_cX11_meet_1 (by decide +kernel)
theorem yt_X11_meet_87 : decode cX11_meet 87 = .ok (.iload_n 2, 1) := dcR 64 23 dcs_cX11_meet_1 (by decide +kernel)
theorem yt_X11_meet_88 : decode cX11_meet 88 = .ok (.iaload, 1) := dcR 64 24 dcs_cX11_meet_1 (by decide +kernel)
theorem yt_X11_meet_89 : decode cX11_meet 89 = .ok (.invokevirtual 360, 3) := dcR 64 25 dcs_cX11_meet_1 (by decide +kernel)
theorem yl_RX11_360 : Cond.methodLink RX11 360 yX6_drifted ∈ zTW := zTi_5 180 (by decide +kernel) rfl
theorem yt_X11_meet_92 : decode cX11_meet 92 = .ok (.istore 5, 2) := dcR 64 28 dcs_cX11_meet_1 (by decide +kernel)
theorem yt_X11_meet_94 : decode cX11_meet 94 = .ok (.aload 4, 2) := dcR 64 30 dcs_cX11_meet_1 (by decide +kernel)
theorem yt_X11_meet_96 : decode cX11_meet 96 = .ok (.iload 6, 2) := dcR 64 32 dcs_cX11_meet_1 (by decide +kernel)
theorem yt_X11_meet_98 : decode cX11_meet 98 = .ok (.aload 4, 2) := dcR 64 34 dcs_cX11_meet_1 (by decide +kernel)
theorem yt_X11_meet_100 : decode cX11_meet 100 = .ok (.getfield 134, 3) := dcR 64 36 dcs_cX11_meet_1 (by decide +kernel)
theorem yt_X11_meet_103 : decode cX11_meet 103 = .ok (.iload_n 3, 1) := dcR 64 39 dcs_cX11_meet_1 (by decide +kernel)
theorem yt_X11_meet_104 : decode cX11_meet 104 = .ok (.iaload, 1) := dcR 64 40 dcs_cX11_meet_1 (by decide +kernel)
theorem yt_X11_meet_105 : decode cX11_meet 105 = .ok (.invokevirtual 360, 3) := dcR 64 41 dcs_cX11_meet_1 (by decide +kernel)
theorem yt_X11_meet_108 : decode cX11_meet 108 = .ok (.istore 6, 2) := dcR 64 44 dcs_cX11_meet_1 (by decide +kernel)
theorem yt_X11_meet_110 : decode cX11_meet 110 = .ok (.iinc 7 1, 3) := dcR 64 46 dcs_cX11_meet_1 (by decide +kernel)
theorem yt_X11_meet_113 : decode cX11_meet 113 = .ok (.goto (-52), 3) := dcR 64 49 dcs_cX11_meet_1 (by decide +kernel)
theorem yt_X11_meet_75 : decode cX11_meet 75 = .ok (.iload 7, 2) := dcR 64 11 dcs_cX11_meet_1 (by decide +kernel)
theorem yt_X11_meet_77 : decode cX11_meet 77 = .ok (.ireturn, 1) := dcR 64 13 dcs_cX11_meet_1 (by decide +kernel)
def xq_X11_meet_61 (n : Nat) (K : Nat → yK) : yK := xE [(0, 100065), (1, 0), (2, 0), (3, 0), (4, 17), (5, 0), (6, 0), (7, 0)] [] (xLd 7 0 (xCst 0 60 (xGt (xCst 0 (-1) xRi) (xLd 5 0 (xLd 6 0 (xEq (xLd 7 0 xRi) (xLd 4 17 (xNm 17 (xLd 5 0 (xLd 4 17 (xNm 17 (xGetO 15 9 11 4 (xLd 2 0 (xAld 11 4 (xCalR 3 [100017, 0, 0] 0 (f_X6_drifted n) (xSt 5 0 (xLd 4 17 (xNm 17 (xLd 6 0 (xLd 4 17 (xNm 17 (xGetO 15 9 11 4 (xLd 3 0 (xAld 11 4 (xCalR 3 [100017, 0, 0] 0 (f_X6_drifted n) (xSt 6 0 (xInc 7 1 (xJ [(0, 100065), (1, 0), (2, 0), (3, 0), (4, 17), (5, 0), (6, 0), (7, 0)] [] (K 61)))))))))))))))))))))))))))))
theorem s_X11_meet_61 {η : zRn} {D : va_G} {cy : Nat → ClassId} {L : List Nat} {Θ : Nat → Option Nat} {p : Program} {l : Launch} {e : Env} {R : Room} {s : State} {m : MethodId} {args : Array Value} {below : List Frame} {meth : Method} {c : Code} {Q : State → Prop} {Qr : yQt} {n : Nat} {K : Nat → yK} (Z : yCz η zkds D vwCl cy L Θ 8 p l e R s m args below meth c Q cX11_meet (tyW cy) RX11 zTW zKP tyW (some .int) 3 68 Qr) (hI61 : yGo η zkds D vwCl cy L Θ 8 p l e R s m args below meth c Q 61 (xw Qr 0 (xJ [(0, 100065), (1, 0), (2, 0), (3, 0), (4, 17), (5, 0), (6, 0), (7, 0)] [] (K 61)))) : yGo η zkds D vwCl cy L Θ 8 p l e R s m args below meth c Q 61 (xw Qr 0 (xJ [(0, 100065), (1, 0), (2, 0), (3, 0), (4, 17), (5, 0), (6, 0), (7, 0)] [] (xq_X11_meet_61 n K))) := xr_E (yr_mono x_ld (yr_iload Z.1 yt_X11_meet_61 (yr_mono x_cst (yr_bipush Z.1 yt_X11_meet_63 (by decide) (yr_mono x_gt (yr_gt Z.1 yt_X11_meet_65 (by first | decide | rfl) (yr_mono x_cst (yr_iconst Z.1 yt_X11_meet_116 (by decide) (yr_mono x_ri (yr_ri Z rfl yt_X11_meet_117)))) (yr_mono x_ld (yr_iload Z.1 yt_X11_meet_68 (yr_mono x_ld (yr_iload Z.1 yt_X11_meet_70 (yr_mono x_eq (yr_ne Z.1 yt_X11_meet_72 (by first | decide | rfl) (yr_mono x_ld (yr_aload Z.1 (by decide) yt_X11_meet_78 (yr_mono (x_nm ⟨by decide, by decide⟩) (yr_nn (yr_mono x_ld (yr_iload Z.1 yt_X11_meet_80 (yr_mono x_ld (yr_aload Z.1 (by decide) yt_X11_meet_82 (yr_mono (x_nm ⟨by decide, by decide⟩) (yr_nn (yr_mono x_geto (yr_getP (lo := 0) (hi := 2147483647) Z.1 yf_RX11_134 (by decide +kernel) yt_X11_meet_84 (yr_mono x_ld (yr_iload_n Z.1 rfl yt_X11_meet_87 (yr_mono x_ald (yr_iald (lo := (-2147483648)) (hi := 2147483647) Z.1 (by decide +kernel) yt_X11_meet_88 (yr_mono x_calR (yr_calR rfl (y_hrunV Z (y := (yX6_drifted, cX6_drifted, 4, (some .int))) (m_X6_drifted l) (ycv_of yw_X6_drifted 360 yt_X11_meet_89 yl_RX11_360 rfl (by decide) (by decide) ⟨15, _, _, _, _, rfl, zkd_15, rfl, rfl⟩)) (yr_mono x_st (yr_istore Z.1 (by decide) yt_X11_meet_92 (yr_mono x_ld (yr_aload Z.1 (by decide) yt_X11_meet_94 (yr_mono (x_nm ⟨by decide, by decide⟩) (yr_nn (yr_mono x_ld (yr_iload Z.1 yt_X11_meet_96 (yr_mono x_ld (yr_aload Z.1 (by decide) yt_X11_meet_98 (yr_mono (x_nm ⟨by decide, by decide⟩) (yr_nn (yr_mono x_geto (yr_getP (lo := 0) (hi := 2147483647) Z.1 yf_RX11_134 (by decide +kernel) yt_X11_meet_100 (yr_mono x_ld (yr_iload_n Z.1 rfl yt_X11_meet_103 (yr_mono x_ald (yr_iald (lo := (-2147483648)) (hi := 2147483647) Z.1 (by decide +kernel) yt_X11_meet_104 (yr_mono x_calR (yr_calR rfl (y_hrunV Z (y := (yX6_drifted, cX6_drifted, 4, (some .int))) (m_X6_drifted l) (ycv_of yw_X6_drifted 360 yt_X11_meet_105 yl_RX11_360 rfl (by decide) (by decide) ⟨15, _, _, _, _, rfl, zkd_15, rfl, rfl⟩)) (yr_mono x_st (yr_istore Z.1 (by decide) yt_X11_meet_108 (yr_mono x_inc (yr_inc Z.1 (by decide) (by decide) yt_X11_meet_110 (yr_goto Z.1 yt_X11_meet_113 (by first | decide | rfl) hI61))))))))))))))))))))))))))))))))))))))))))) (yr_mono x_ld (yr_iload Z.1 yt_X11_meet_75 (yr_mono x_ri (yr_ri Z rfl yt_X11_meet_77))))))))))))))))
def xl_X11_meet : Nat → Nat → yK
  | 0, _ => fun _ _ => none
  | n + 1, pc => (cond (Nat.beq pc 61) (xq_X11_meet_61 n (xl_X11_meet n)) (fun _ _ => none))
theorem l_X11_meet {η : zRn} {D : va_G} {cy : Nat → ClassId} {L : List Nat} {Θ : Nat → Option Nat} {p : Program} {l : Launch} {e : Env} {R : Room} {s : State} {m : MethodId} {args : Array Value} {below : List Frame} {meth : Method} {c : Code} {Q : State → Prop} {Qr : yQt} (Z : yCz η zkds D vwCl cy L Θ 8 p l e R s m args below meth c Q cX11_meet (tyW cy) RX11 zTW zKP tyW (some .int) 3 68 Qr) : ∀ n, yGo η zkds D vwCl cy L Θ 8 p l e R s m args below meth c Q 61 (xw Qr 0 (xJ [(0, 100065), (1, 0), (2, 0), (3, 0), (4, 17), (5, 0), (6, 0), (7, 0)] [] (xl_X11_meet n 61))) := fun n => by
  induction n with
  | zero => exact xr_J0
  | succ n ih => exact s_X11_meet_61 (n := n) (K := xl_X11_meet n) Z ih
theorem yt_X11_meet_0 : decode cX11_meet 0 = .ok (.aload_n 0, 1) := dcR 0 0 dcs_cX11_meet_0 (by decide +kernel)
theorem yt_X11_meet_1 : decode cX11_meet 1 = .ok (.getfield 10, 3) := dcR 0 1 dcs_cX11_meet_0 (by decide +kernel)
theorem yt_X11_meet_4 : decode cX11_meet 4 = .ok (.iload_n 1, 1) := dcR 0 4 dcs_cX11_meet_0 (by decide +kernel)
theorem yt_X11_meet_5 : decode cX11_meet 5 = .ok (.invokevirtual 93, 3) := dcR 0 5 dcs_cX11_meet_0 (by decide +kernel)
theorem yt_X11_meet_8 : decode cX11_meet 8 = .ok (.astore 4, 2) := dcR 0 8 dcs_cX11_meet_0 (by decide +kernel)
theorem yt_X11_meet_10 : decode cX11_meet 10 = .ok (.aload 4, 2) := dcR 0 10 dcs_cX11_meet_0 (by decide +kernel)
theorem yt_X11_meet_12 : decode cX11_meet 12 = .ok (.ifnull 26, 3) := dcR 0 12 dcs_cX11_meet_0 (by decide +kernel)
theorem yt_X11_meet_38 : decode cX11_meet 38 = .ok (.iconst (-1), 1) := dcR 0 38 dcs_cX11_meet_0 (by decide +kernel)
theorem yt_X11_meet_39 : decode cX11_meet 39 = .ok (.ireturn, 1) := dcR 0 39 dcs_cX11_meet_0 (by decide +kernel)
theorem yt_X11_meet_15 : decode cX11_meet 15 = .ok (.iload_n 2, 1) := dcR 0 15 dcs_cX11_meet_0 (by decide +kernel)
theorem yt_X11_meet_16 : decode cX11_meet 16 = .ok (.iload_n 3, 1) := dcR 0 16 dcs_cX11_meet_0 (by decide +kernel)
theorem yt_X11_meet_17 : decode cX11_meet 17 = .ok (.if_icmp .eq 21, 3) := dcR 0 17 dcs_cX11_meet_0 (by decide +kernel)
theorem yt_X11_meet_20 : decode cX11_meet 20 = .ok (.aload 4, 2) := dcR 0 20 dcs_cX11_meet_0 (by decide +kernel)
theorem yt_X11_meet_22 : decode cX11_meet 22 = .ok (.iload_n 2, 1) := dcR 0 22 dcs_cX11_meet_0 (by decide +kernel)
theorem yt_X11_meet_23 : decode cX11_meet 23 = .ok (.invokevirtual 124, 3) := dcR 0 23 dcs_cX11_meet_0 (by decide +kernel)
theorem yt_X11_meet_26 : decode cX11_meet 26 = .ok (.ifCond .eq 12, 3) := dcR 0 26 dcs_cX11_meet_0 (by decide +kernel)
theorem yt_X11_meet_29 : decode cX11_meet 29 = .ok (.aload 4, 2) := dcR 0 29 dcs_cX11_meet_0 (by decide +kernel)
theorem yt_X11_meet_31 : decode cX11_meet 31 = .ok (.iload_n 3, 1) := dcR 0 31 dcs_cX11_meet_0 (by decide +kernel)
theorem yt_X11_meet_32 : decode cX11_meet 32 = .ok (.invokevirtual 124, 3) := dcR 0 32 dcs_cX11_meet_0 (by decide +kernel)
theorem yt_X11_meet_35 : decode cX11_meet 35 = .ok (.ifCond .ne 5, 3) := dcR 0 35 dcs_cX11_meet_0 (by decide +kernel)
theorem yt_X11_meet_40 : decode cX11_meet 40 = .ok (.aload 4, 2) := dcR 0 40 dcs_cX11_meet_0 (by decide +kernel)
theorem yt_X11_meet_42 : decode cX11_meet 42 = .ok (.getfield 128, 3) := dcR 0 42 dcs_cX11_meet_0 (by decide +kernel)
theorem yt_X11_meet_45 : decode cX11_meet 45 = .ok (.iload_n 2, 1) := dcR 0 45 dcs_cX11_meet_0 (by decide +kernel)
theorem yt_X11_meet_46 : decode cX11_meet 46 = .ok (.iaload, 1) := dcR 0 46 dcs_cX11_meet_0 (by decide +kernel)
theorem yt_X11_meet_47 : decode cX11_meet 47 = .ok (.istore 5, 2) := dcR 0 47 dcs_cX11_meet_0 (by decide +kernel)
theorem yt_X11_meet_49 : decode cX11_meet 49 = .ok (.aload 4, 2) := dcR 0 49 dcs_cX11_meet_0 (by decide +kernel)
theorem yt_X11_meet_51 : decode cX11_meet 51 = .ok (.getfield 128, 3) := dcR 0 51 dcs_cX11_meet_0 (by decide +kernel)
theorem yt_X11_meet_54 : decode cX11_meet 54 = .ok (.iload_n 3, 1) := dcR 0 54 dcs_cX11_meet_0 (by decide +kernel)
theorem yt_X11_meet_55 : decode cX11_meet 55 = .ok (.iaload, 1) := dcR 0 55 dcs_cX11_meet_0 (by decide +kernel)
theorem yt_X11_meet_56 : decode cX11_meet 56 = .ok (.istore 6, 2) := dcR 0 56 dcs_cX11_meet_0 (by decide +kernel)
theorem yt_X11_meet_58 : decode cX11_meet 58 = .ok (.iconst 0, 1) := dcR 0 58 dcs_cX11_meet_0 (by decide +kernel)
theorem yt_X11_meet_59 : decode cX11_meet 59 = .ok (.istore 7, 2) := dcR 0 59 dcs_cX11_meet_0 (by decide +kernel)
def xp_X11_meet (n : Nat) (K : Nat → yK) : yX := (xLd 0 100065 (xGetO 63 0 28 2 (xLd 1 0 (xCalR 2 [100030, 0] 17 (f_X9_findSea n) (xSt 4 17 (xLd 4 17 (xNull (xCst 0 (-1) xRi) (xLd 2 0 (xLd 3 0 (xEq (xCst 0 (-1) xRi) (xLd 4 17 (xNm 17 (xLd 2 0 (xCalR 2 [100017, 0] 0 (f_X6_hasShoal n) (xEq0 (xCst 0 (-1) xRi) (xLd 4 17 (xNm 17 (xLd 3 0 (xCalR 2 [100017, 0] 0 (f_X6_hasShoal n) (xEq0 (xCst 0 (-1) xRi) (xLd 4 17 (xNm 17 (xGetO 15 7 9 2 (xLd 2 0 (xAld 9 4 (xSt 5 0 (xLd 4 17 (xNm 17 (xGetO 15 7 9 2 (xLd 3 0 (xAld 9 4 (xSt 6 0 (xCst 0 0 (xSt 7 0 (xJ [(0, 100065), (1, 0), (2, 0), (3, 0), (4, 17), (5, 0), (6, 0), (7, 0)] [] (K 61))))))))))))))))))))))))))))))))))))
theorem s_X11_meet {η : zRn} {D : va_G} {cy : Nat → ClassId} {L : List Nat} {Θ : Nat → Option Nat} {p : Program} {l : Launch} {e : Env} {R : Room} {s : State} {m : MethodId} {args : Array Value} {below : List Frame} {meth : Method} {c : Code} {Q : State → Prop} {Qr : yQt} {n : Nat} {K : Nat → yK} (Z : yCz η zkds D vwCl cy L Θ 8 p l e R s m args below meth c Q cX11_meet (tyW cy) RX11 zTW zKP tyW (some .int) 3 68 Qr) (hI61 : yGo η zkds D vwCl cy L Θ 8 p l e R s m args below meth c Q 61 (xw Qr 0 (xJ [(0, 100065), (1, 0), (2, 0), (3, 0), (4, 17), (5, 0), (6, 0), (7, 0)] [] (K 61)))) : yGo η zkds D vwCl cy L Θ 8 p l e R s m args below meth c Q 0 (xw Qr 0 (xp_X11_meet n K)) := (yr_mono x_ld (yr_aload_n Z.1 rfl (by decide) yt_X11_meet_0 (yr_mono x_geto (yr_getP (lo := 0) (hi := 2147483647) Z.1 yf_RX11_10 (by decide +kernel) yt_X11_meet_1 (yr_mono x_ld (yr_iload_n Z.1 rfl yt_X11_meet_4 (yr_mono x_calR (yr_calR rfl (y_hrunV Z (y := (yX9_findSea, cX9_findSea, 2, (some (.object "ShoalClaims$Sea")))) (m_X9_findSea l) (ycv_of yw_X9_findSea 93 yt_X11_meet_5 yl_RX11_93 rfl (by decide) (by decide) ⟨28, _, _, _, _, rfl, zkd_28, rfl, rfl⟩)) (yr_mono x_st (yr_astore Z.1 (by decide) (by decide) yt_X11_meet_8 (yr_mono x_ld (yr_aload Z.1 (by decide) yt_X11_meet_10 (yr_mono x_null (yr_ifnull Z.1 yt_X11_meet_12 (by first | decide | rfl) (yr_mono x_cst (yr_iconst Z.1 yt_X11_meet_38 (by decide) (yr_mono x_ri (yr_ri Z rfl yt_X11_meet_39)))) (yr_mono x_ld (yr_iload_n Z.1 rfl yt_X11_meet_15 (yr_mono x_ld (yr_iload_n Z.1 rfl yt_X11_meet_16 (yr_mono x_eq (yr_eq Z.1 yt_X11_meet_17 (by first | decide | rfl) (yr_mono x_cst (yr_iconst Z.1 yt_X11_meet_38 (by decide) (yr_mono x_ri (yr_ri Z rfl yt_X11_meet_39)))) (yr_mono x_ld (yr_aload Z.1 (by decide) yt_X11_meet_20 (yr_mono (x_nm ⟨by decide, by decide⟩) (yr_nn (yr_mono x_ld (yr_iload_n Z.1 rfl yt_X11_meet_22 (yr_mono x_calR (yr_calR rfl (y_hrunV Z (y := (yX6_hasShoal, cX6_hasShoal, 2, (some .boolean))) (m_X6_hasShoal l) (ycv_of yw_X6_hasShoal 124 yt_X11_meet_23 yl_RX11_124 rfl (by decide) (by decide) ⟨15, _, _, _, _, rfl, zkd_15, rfl, rfl⟩)) (yr_mono x_eq0 (yr_eq0 Z.1 yt_X11_meet_26 (by first | decide | rfl) (yr_mono x_cst (yr_iconst Z.1 yt_X11_meet_38 (by decide) (yr_mono x_ri (yr_ri Z rfl yt_X11_meet_39)))) (yr_mono x_ld (yr_aload Z.1 (by decide) yt_X11_meet_29 (yr_mono (x_nm ⟨by decide, by decide⟩) (yr_nn (yr_mono x_ld (yr_iload_n Z.1 rfl yt_X11_meet_31 (yr_mono x_calR (yr_calR rfl (y_hrunV Z (y := (yX6_hasShoal, cX6_hasShoal, 2, (some .boolean))) (m_X6_hasShoal l) (ycv_of yw_X6_hasShoal 124 yt_X11_meet_32 yl_RX11_124 rfl (by decide) (by decide) ⟨15, _, _, _, _, rfl, zkd_15, rfl, rfl⟩)) (yr_mono x_eq0 (yr_ne0 Z.1 yt_X11_meet_35 (by first | decide | rfl) (yr_mono x_ld (yr_aload Z.1 (by decide) yt_X11_meet_40 (yr_mono (x_nm ⟨by decide, by decide⟩) (yr_nn (yr_mono x_geto (yr_getP (lo := 0) (hi := 2147483647) Z.1 yf_RX11_128 (by decide +kernel) yt_X11_meet_42 (yr_mono x_ld (yr_iload_n Z.1 rfl yt_X11_meet_45 (yr_mono x_ald (yr_iald (lo := (-2147483648)) (hi := 2147483647) Z.1 (by decide +kernel) yt_X11_meet_46 (yr_mono x_st (yr_istore Z.1 (by decide) yt_X11_meet_47 (yr_mono x_ld (yr_aload Z.1 (by decide) yt_X11_meet_49 (yr_mono (x_nm ⟨by decide, by decide⟩) (yr_nn (yr_mono x_geto (yr_getP (lo := 0) (hi := 2147483647) Z.1 yf_RX11_128 (by decide +kernel) yt_X11_meet_51 (yr_mono x_ld (yr_iload_n Z.1 rfl yt_X11_meet_54 (yr_mono x_ald (yr_iald (lo := (-2147483648)) (hi := 2147483647) Z.1 (by decide +kernel) yt_X11_meet_55 (yr_mono x_st (yr_istore Z.1 (by decide) yt_X11_meet_56 (yr_mono x_cst (yr_iconst Z.1 yt_X11_meet_58 (by decide) (yr_mono x_st (yr_istore Z.1 (by decide) yt_X11_meet_59 hI61)))))))))))))))))))))))))))) (yr_mono x_cst (yr_iconst Z.1 yt_X11_meet_38 (by decide) (yr_mono x_ri (yr_ri Z rfl yt_X11_meet_39))))))))))))))))))))))))))))))))))))))))))))
def f_X11_meet : yFn := fun n ys h => (fun n => xp_X11_meet n (xl_X11_meet n)) n (yar 0 ([100065, 0, 0, 0].zip ys)) [] h
theorem m_X11_meet (l : Launch) : yMet zkds vwCl zTW zKP l (yX11_meet, cX11_meet, 8, (some .int)) 3 68 [100065, 0, 0, 0] (yF 0 f_X11_meet) := y_metF zkp_ok zTW_good (yX11_meet, cX11_meet, 8, (some .int)) 3 68 [100065, 0, 0, 0] 0 (fun n => xp_X11_meet n (xl_X11_meet n)) (by decide +kernel) (by decide) (fun η D cy L Θ p e R s m args below meth c Q Qr n Z => s_X11_meet (n := n) (K := xl_X11_meet n) Z (l_X11_meet Z n))
set_option maxRecDepth 100000 in
theorem e_X11_meet_61 {n : Nat} {x1 x2 x3 x4 x5 x6 x7 : Int} {h : yH} : xl_X11_meet (n + 1) 61 [1, x1, x2, x3, x4, x5, x6, x7] h = if 60 < x7 then (some ((-1), h)) else (if x5 = x6 then (some (x7, h)) else (xg (0 ≤ x4) (xg (0 ≤ x4) (xg (h x4.toNat 9 = (x4 + 4)) (xg (0 ≤ x2 ∧ x2 < 4) (xb (f_X6_drifted n [x4, x5, (h (x4 + 4).toNat x2.toNat)] h) (fun v1 h1 => xg (0 ≤ x4) (xg (0 ≤ x4) (xg (h1 x4.toNat 9 = (x4 + 4)) (xg (0 ≤ x3 ∧ x3 < 4) (xb (f_X6_drifted n [x4, x6, (h1 (x4 + 4).toNat x3.toNat)] h1) (fun v2 h2 => xg (-2147483648 ≤ x7 + 1 ∧ x7 + 1 ≤ 2147483647) (xl_X11_meet n 61 [1, x1, x2, x3, x4, v1, v2, (x7 + 1)] h2))))))))))))) := by rfl
set_option maxRecDepth 100000 in
theorem e_X11_meet {n : Nat} {x1 x2 x3 : Int} {h : yH} : f_X11_meet n [1, x1, x2, x3] h = xg (h 1 0 = 3) (xb (f_X9_findSea n [3, x1] h) (fun v3 h3 => if v3 < 0 then (some ((-1), h3)) else (if x2 = x3 then (some ((-1), h3)) else (xg (0 ≤ v3) (xb (f_X6_hasShoal n [v3, x2] h3) (fun v4 h4 => if v4 = 0 then (some ((-1), h4)) else (xg (0 ≤ v3) (xb (f_X6_hasShoal n [v3, x3] h4) (fun v5 h5 => if v5 = 0 then (some ((-1), h5)) else (xg (0 ≤ v3) (xg (h5 v3.toNat 7 = (v3 + 2)) (xg (0 ≤ x2 ∧ x2 < 4) (xg (0 ≤ v3) (xg (h5 v3.toNat 7 = (v3 + 2)) (xg (0 ≤ x3 ∧ x3 < 4) (xl_X11_meet n 61 [1, x1, x2, x3, v3, (h5 (v3 + 2).toNat x2.toNat), (h5 (v3 + 2).toNat x3.toNat), 0] h5)))))))))))))))) := by rfl
end
section
/-! the class: a sea's pointers; its words' -/
def cSp (b : Nat) (h : yH) : Prop := h b 5 = (b : Int) + 1 ∧ h b 7 = (b : Int) + 2 ∧ h b 8 = (b : Int) + 3 ∧ h b 9 = (b : Int) + 4 ∧ h b 11 = (b : Int) + 5 ∧ h b 12 = (b : Int) + 6 ∧ h b 13 = (b : Int) + 7
theorem cSp.fr {b : Nat} {h h2 : yH} (hp : cSp b h) (e : ∀ j, j = 5 ∨ j = 7 ∨ j = 8 ∨ j = 9 ∨ j = 11 ∨ j = 12 ∨ j = 13 → h2 b j = h b j) : cSp b h2 := by
  obtain ⟨a1, a2, a3, a4, a5, a6, a7⟩ := hp
  exact ⟨by rw [e _ (by omega)]; exact a1, by rw [e _ (by omega)]; exact a2, by rw [e _ (by omega)]; exact a3, by rw [e _ (by omega)]; exact a4, by rw [e _ (by omega)]; exact a5, by rw [e _ (by omega)]; exact a6, by rw [e _ (by omega)]; exact a7⟩
/-- pointers of the class's words and of their sea -/
def cPw (h : yH) : Prop := h 1 4 = 150 ∧ h 150 3 = 160 ∧ cSp 160 h
theorem cPw.fr {h h2 : yH} (hw : cPw h) (e : ∀ a j, (a = 1 ∧ j = 4) ∨ a = 150 ∨ a = 160 → h2 a j = h a j) : cPw h2 := by
  obtain ⟨w1, w2, w3⟩ := hw
  exact ⟨by rw [e _ _ (by omega)]; exact w1, by rw [e _ _ (by omega)]; exact w2, w3.fr (fun j _ => e _ _ (by omega))⟩
/-- what is told stays -/
def k7 (g g2 : yH) : Prop := ∀ a j, 1 ≤ a → a ≤ 7 → g2 a j = g a j
theorem frW_feed {n : Nat} {x1 x2 x3 x4 x5 v : Int} {h h2 : yH} (hn : 6 ≤ n) (hP : cP h) (hm : 0 ≤ h 4 1 ∧ h 4 1 ≤ 600) (e : f_X11_feed n [1, x1, x2, x3, x4, x5] h = some (v, h2)) (hw : cPw h) : cPw h2 := by
  obtain ⟨N, eN⟩ : ∃ N : Nat, h 4 1 = (N : Int) := ⟨(h 4 1).toNat, by omega⟩
  obtain ⟨v', h', e', -, r⟩ := feedC_r (n := n) (x1 := x1) (x2 := x2) (x3 := x3) (x4 := x4) (x5 := x5) hn hP eN (by omega)
  have ee := Option.some.inj (e.symm.trans e')
  have e2 : h2 = h' := congrArg Prod.snd ee
  rw [e2]
  rcases r with ⟨-, -, r⟩ | ⟨-, -, -, r⟩
  · rw [r]; exact hw
  · exact hw.fr (fun a j w => by rw [r a j (by omega), if_neg (by omega)])
theorem frW_end {n : Nat} {x v : Int} {h h2 : yH} (hP : cP h) (hm : 0 ≤ h 4 1 ∧ h 4 1 ≤ 600) (e : f_X11_end n [1, x] h = some (v, h2)) (hw : cPw h) : cPw h2 := by
  obtain ⟨v', h', e', r⟩ := endC_r (n := n) (x := x) hP hm
  have e2 : h2 = h' := congrArg Prod.snd (Option.some.inj (e.symm.trans e'))
  rw [e2]
  rcases r with ⟨-, -, r⟩ | ⟨-, -, r⟩
  · rw [r]; exact hw
  · exact hw.fr (fun a j w => by rw [r, zup_ne (by omega)])
theorem frW_text {n : Nat} {sort at_ v : Int} {h h2 : yH} (hn : 2800 ≤ n) (hP : cP h) (hm : 0 ≤ h 4 1 ∧ h 4 1 ≤ 600) (h6 : ∀ j, j < 3 → 0 ≤ h 6 j ∧ h 6 j ≤ 2) (e : f_X11_text n [1, sort, at_] h = some (v, h2)) (hw : cPw h) : cPw h2 := by
  obtain ⟨v', h', e', r⟩ := textC_e (u := fun i => yari 7 (h 5 i) 255) (N := (h 4 1).toNat) (n := n) (sort := sort) (at_ := at_) (t0 := tI sort.toNat) hn ⟨by omega, by omega, fun _ _ => rfl, hP⟩ h6 (fun _ _ => rfl)
  have e2 : h2 = h' := congrArg Prod.snd (Option.some.inj (e.symm.trans e'))
  rw [e2]
  exact hw.fr (fun a j w => r.2.2.1 a j (by omega) (by omega) (by omega))
end
section
/-! what is told is asked for: deed, sea, shoal, boat -/
theorem RR.gf {F : Prop} {h g g2 : yH} (R : RR F h g) (hL : lnI h) (hm : h 4 1 ≤ 600) (gP : rP g2) (e : ∀ a j, a ≤ 7 ∨ a = 34 → g2 a j = g a j) : RR F h g2 := by
  obtain ⟨hP, -, R0, RI0⟩ := R
  exact ⟨hP, gP, R0.fr (fun _ _ _ _ => rfl) (fun j _ _ => e 0 j (by omega)) ⟨e 1 _ (by omega), e 2 _ (by omega), e 3 _ (by omega)⟩ (fun j _ _ => e 4 j (by omega)) (fun j _ _ => e 5 j (by omega)) (fun j _ _ => e 6 j (by omega)) (fun j _ _ => e 7 j (by omega)) hm, RI0.fr hL (fun _ _ _ => rfl) (fun _ => rfl) (fun j => e 34 j (by omega)) (fun j _ => e 0 j (by omega)) (fun a j w _ => e a j (by omega)) (fun j _ => e 4 j (by omega)) (fun j _ => e 5 j (by omega)) (fun j _ => e 6 j (by omega)) (fun j _ => e 7 j (by omega))⟩
theorem RR.n6 {F : Prop} {h g : yH} (R : RR F h g) {j : Nat} (hj : j < 3) : h 6 j = g 4 j := by
  have := R.2.2.1.2.2.1 j hj
  rw [show 0 + 6 = 6 from rfl, show 3 * 0 + j = j by omega] at this
  exact this
theorem findSea_e {n : Nat} {x : Int} {h : yH} (hP : cP h) (hb : h 6 0 ≤ 2) : f_X9_findSea n [3, x] h = some (if 0 ≤ x ∧ x < h 6 0 then 20 + 10 * x else -1, h) := by
  rw [e_X9_findSea]
  by_cases w : x < 0
  · rw [if_pos w, if_neg (show ¬ (0 ≤ x ∧ x < h 6 0) by omega)]
  · rw [if_neg w, xg_pos (hP.p (by decide))]
    by_cases w2 : x < h 6 0
    · have e7 : h 7 x.toNat = 7 + 13 + 10 * x := by
        rcases (show x = 0 ∨ x = 1 by omega) with rfl | rfl
        · exact hP.p (a := 7) (j := 0) (v := 20) (by decide)
        · exact hP.p (a := 7) (j := 1) (v := 30) (by decide)
      rw [if_pos w2, xg_pos (hP.p (by decide)), xg_pos (by omega), xg_pos e7, if_pos (show 0 ≤ x ∧ x < h 6 0 by omega), show (7 : Int) + 13 + 10 * x = 20 + 10 * x by omega]
    · rw [if_neg w2, if_neg (show ¬ (0 ≤ x ∧ x < h 6 0) by omega)]
theorem findDay_e {n : Nat} {x : Int} {h : yH} (hP : cP h) (hb : h 6 1 ≤ 2) : f_X9_findDay n [3, x] h = some (if 0 ≤ x ∧ x < h 6 1 then 40 + 10 * x else -1, h) := by
  rw [e_X9_findDay]
  by_cases w : x < 0
  · rw [if_pos w, if_neg (show ¬ (0 ≤ x ∧ x < h 6 1) by omega)]
  · rw [if_neg w, xg_pos (hP.p (by decide))]
    by_cases w2 : x < h 6 1
    · have e7 : h 8 x.toNat = 8 + 32 + 10 * x := by
        rcases (show x = 0 ∨ x = 1 by omega) with rfl | rfl
        · exact hP.p (a := 8) (j := 0) (v := 40) (by decide)
        · exact hP.p (a := 8) (j := 1) (v := 50) (by decide)
      rw [if_pos w2, xg_pos (hP.p (by decide)), xg_pos (by omega), xg_pos e7, if_pos (show 0 ≤ x ∧ x < h 6 1 by omega), show (8 : Int) + 32 + 10 * x = 40 + 10 * x by omega]
    · rw [if_neg w2, if_neg (show ¬ (0 ≤ x ∧ x < h 6 1) by omega)]
theorem findDispute_e {n : Nat} {x : Int} {h : yH} (hP : cP h) (hb : h 6 2 ≤ 2) : f_X9_findDispute n [3, x] h = some (if 0 ≤ x ∧ x < h 6 2 then 60 + 10 * x else -1, h) := by
  rw [e_X9_findDispute]
  by_cases w : x < 0
  · rw [if_pos w, if_neg (show ¬ (0 ≤ x ∧ x < h 6 2) by omega)]
  · rw [if_neg w, xg_pos (hP.p (by decide))]
    by_cases w2 : x < h 6 2
    · have e7 : h 9 x.toNat = 9 + 51 + 10 * x := by
        rcases (show x = 0 ∨ x = 1 by omega) with rfl | rfl
        · exact hP.p (a := 9) (j := 0) (v := 60) (by decide)
        · exact hP.p (a := 9) (j := 1) (v := 70) (by decide)
      rw [if_pos w2, xg_pos (hP.p (by decide)), xg_pos (by omega), xg_pos e7, if_pos (show 0 ≤ x ∧ x < h 6 2 by omega), show (9 : Int) + 51 + 10 * x = 60 + 10 * x by omega]
    · rw [if_neg w2, if_neg (show ¬ (0 ≤ x ∧ x < h 6 2) by omega)]
/-! deed -/
theorem hasDay_e {n : Nat} {x : Int} {g : yH} (gP : rP g) (h4 : ∀ j, j < 12 → 0 ≤ g 4 j ∧ g 4 j ≤ 2) : f_X12_hasDay n [35, x] g = some (if 0 ≤ x ∧ x < g 4 1 then 1 else 0, zup g 35 33 x) := by
  rw [e_X12_hasDay, is_e (by rw [zup_ne (by omega)]; exact gP.2.2.2.2.1) (by omega) (by rw [zup_ne (by omega)]; exact h4 1 (by omega)), xb_some, zup_ne (show ¬ (4 = 35 ∧ (1 : Int).toNat = 33) by omega)]
  by_cases w : 0 ≤ x ∧ x < g 4 1
  · rw [show g 4 (1 : Int).toNat = g 4 1 from rfl, if_pos w, xg_pos (by decide)]
  · rw [show g 4 (1 : Int).toNat = g 4 1 from rfl, if_neg w, xg_pos (by decide)]
/-- what deed answers, of a day's numbers -/
def ddV (t : Nat → Int) (k w : Int) : Int := if k = -1 then (if w = 0 then t 0 else -2) else if 0 ≤ k ∧ k < t 0 ∧ 0 ≤ w ∧ w ≤ 3 then t (1 + 4 * k.toNat + w.toNat) else -2
theorem deedC_e {n d : Nat} {k w : Int} {t : Nat → Int} {h : yH} (hP : cP h) (hb : h 6 1 ≤ 2) (hd : d < 2) (hdm : (d : Int) < h 6 1) (hD : cD (40 + 10 * d) t h) (h0 : 0 ≤ t 0 ∧ t 0 ≤ 30) : f_X11_deed n [1, (d : Int), k, w] h = some (ddV t k w, h) := by
  have pb := hP.b
  rw [e_X11_deed, xg_pos (hP.p (by decide)), findDay_e hP hb, xb_some, if_pos (show 0 ≤ (d : Int) ∧ (d : Int) < h 6 1 by omega), if_neg (by omega)]
  have p1 : h (40 + 10 * d) 1 = ((40 + 10 * d : Nat) : Int) + 1 := by
    rcases (show d = 0 ∨ d = 1 by omega) with rfl | rfl
    · exact hP.p (a := 40) (j := 1) (v := 41) (by decide)
    · exact hP.p (a := 50) (j := 1) (v := 51) (by decide)
  have p2 : h (40 + 10 * d) 2 = ((40 + 10 * d : Nat) : Int) + 2 := by
    rcases (show d = 0 ∨ d = 1 by omega) with rfl | rfl
    · exact hP.p (a := 40) (j := 2) (v := 42) (by decide)
    · exact hP.p (a := 50) (j := 2) (v := 52) (by decide)
  have ev : (40 + 10 * (d : Int)).toNat = 40 + 10 * d := by omega
  have ec : (40 + 10 * (d : Int)) = ((40 + 10 * d : Nat) : Int) := by omega
  have e1 : (40 + 10 * (d : Int) + 1).toNat = 40 + 10 * d + 1 := by omega
  have e2 : (40 + 10 * (d : Int) + 2).toNat = 40 + 10 * d + 2 := by omega
  rw [ev, e1]
  unfold ddV
  by_cases c1 : k = -1
  · rw [if_pos c1, if_pos c1]
    by_cases c2 : w = 0
    · rw [if_pos c2, if_pos c2, xg_pos (by omega), hD.1]
    · rw [if_neg c2, if_neg c2]
  · rw [if_neg c1, if_neg c1]
    by_cases c3 : k < 0
    · rw [if_pos c3, if_neg (by omega)]
    · rw [if_neg c3, xg_pos (by omega), hD.1]
      by_cases c4 : k < t 0
      · rw [if_pos c4]
        by_cases c5 : w < 0
        · rw [if_pos c5, if_neg (by omega)]
        · rw [if_neg c5]
          by_cases c6 : 3 < w
          · rw [if_pos c6, if_neg (by omega)]
          · rw [if_neg c6, if_pos (show 0 ≤ k ∧ k < t 0 ∧ 0 ≤ w ∧ w ≤ 3 by omega)]
            obtain ⟨q1, q2, q3, q4⟩ := hD.2 k.toNat (by omega)
            by_cases c7 : w = 0
            · rw [if_pos c7, xg_pos (by omega), xg_pos (by rw [p1]; omega), xg_pos (by omega), q1, c7]
              rfl
            · rw [if_neg c7, xg_pos (by omega), xg_pos (by omega), e_X1_numberOf, ev, e2, xg_pos (by rw [p2]; omega), xg_pos (by omega), xg_pos (by omega), xg_pos (by omega), xb_some]
              rcases (show w = 1 ∨ w = 2 ∨ w = 3 by omega) with rfl | rfl | rfl
              · rw [show (3 * k + (1 - 1)).toNat = 3 * k.toNat by omega, q2, show 1 + 4 * k.toNat + (1 : Int).toNat = 2 + 4 * k.toNat by omega]
              · rw [show (3 * k + (2 - 1)).toNat = 3 * k.toNat + 1 by omega, q3, show 1 + 4 * k.toNat + (2 : Int).toNat = 3 + 4 * k.toNat by omega]
              · rw [show (3 * k + (3 - 1)).toNat = 3 * k.toNat + 2 by omega, q4, show 1 + 4 * k.toNat + (3 : Int).toNat = 4 + 4 * k.toNat by omega]
      · rw [if_neg c4, if_neg (by omega)]
theorem deedR_e {n d : Nat} {k w : Int} {t : Nat → Int} {g : yH} (gP : rP g) (h4 : ∀ j, j < 12 → 0 ≤ g 4 j ∧ g 4 j ≤ 2) (hd : d < 2) (hdm : (d : Int) < g 4 1) (hT : ∀ j, j < 121 → g 6 (121 * d + j) = t j) (h0 : 0 ≤ t 0 ∧ t 0 ≤ 30) : f_X12_deed n [35, (d : Int), k, w] g = some (ddV t k w, zup (zup g 35 0 0) 35 33 (d : Int)) := by
  have gP1 : rP (zup g 35 0 0) := gP.fr (fun j hj => by rw [zup_ne (by omega)])
  rw [e_X12_deed, hasDay_e gP1 (fun j hj => by rw [zup_ne (by omega)]; exact h4 j hj), xb_some, zup_ne (show ¬ (4 = 35 ∧ 1 = 0) by omega), if_pos (show 0 ≤ (d : Int) ∧ (d : Int) < g 4 1 by omega), if_neg (by decide)]
  have p7 : (zup (zup g 35 0 0) 35 33 (d : Int)) 35 7 = 6 := by rw [zup_ne (by omega), zup_ne (by omega)]; exact gP.2.2.2.2.2.2.1
  have p33 : (zup (zup g 35 0 0) 35 33 (d : Int)) 35 33 = (d : Int) := zup_at _ _ _ _
  have hT2 : ∀ j, j < 121 → (zup (zup g 35 0 0) 35 33 (d : Int)) 6 (121 * d + j) = t j := fun j hj => by rw [zup_ne (by omega), zup_ne (by omega)]; exact hT j hj
  generalize zup (zup g 35 0 0) 35 33 (d : Int) = g1 at *
  have eD : f_X12_deeds n [35] g1 = some (t 0, g1) := by
    rw [e_X12_deeds, xg_pos p7, p33, xg_pos (by omega), xg_pos (by omega), show (121 * (d : Int)).toNat = 121 * d + 0 by omega, hT2 0 (by omega)]
  unfold ddV
  by_cases c1 : k = -1
  · rw [if_pos c1, if_pos c1]
    by_cases c2 : w = 0
    · rw [if_pos c2, if_pos c2, eD, xb_some]
    · rw [if_neg c2, if_neg c2]
  · rw [if_neg c1, if_neg c1, eD, xb_some, xg_pos (by omega)]
    by_cases c3 : 0 ≤ k ∧ k ≤ t 0 - 1
    · rw [in_t c3, xb_some, if_neg (by decide)]
      by_cases c4 : 0 ≤ w ∧ w ≤ 3
      · rw [in_t c4, xb_some, if_neg (by decide), if_pos (by omega), e_X12_deedOf, xg_pos p7, p33, xg_pos (by omega), xg_pos (by omega), xg_pos (by omega), xg_pos (by omega), xg_pos (by omega), xg_pos (by omega), xb_some, show (121 * (d : Int) + 1 + 4 * k + w).toNat = 121 * d + (1 + 4 * k.toNat + w.toNat) by omega, hT2 _ (by omega)]
      · rw [in_f c4, xb_some, if_pos rfl, if_neg (by omega)]
    · rw [in_f c3, xb_some, if_pos rfl, if_neg (by omega)]
theorem RR_deed {F : Prop} {m n : Nat} {x k w : Int} {h g : yH} (R : RR F h g) (hL : lnI h) (hm : h 4 1 ≤ 600) (h4 : ∀ j, j < 12 → 0 ≤ g 4 j ∧ g 4 j ≤ 2) : ∃ v h2 g2, f_X11_deed n [1, x, k, w] h = some (v, h2) ∧ f_X12_deed m [35, x, k, w] g = some (v, g2) ∧ RR F h2 g2 ∧ ∀ a j, h2 a j = h a j := by
  have hP := R.1
  have gP := R.2.1
  have n1 := R.n6 (j := 1) (by decide)
  have b1 := h4 1 (by decide)
  by_cases c : 0 ≤ x ∧ x < h 6 1
  · obtain ⟨d, rfl⟩ : ∃ d : Nat, x = (d : Int) := ⟨x.toNat, by omega⟩
    obtain ⟨t, a1, a2, a3⟩ := R.2.2.1.2.2.2.2.2.2.1 d (by omega)
    have tw := a3 (by rw [← show g 4 1 = g 4 (3 * 0 + 1) from rfl, ← n1]; exact c.2)
    rw [show 0 + 40 + 10 * d = 40 + 10 * d by omega] at a1
    have e1 := deedC_e (n := n) (k := k) (w := w) hP (by omega) (by omega) c.2 a1 tw.1
    have e2 := deedR_e (n := m) (k := k) (w := w) (t := t) gP h4 (d := d) (by omega) (by omega) (fun j hj => by rw [← a2 j hj, show 242 * 0 + 121 * d + j = 121 * d + j by omega]) tw.1
    exact ⟨_, _, _, e1, e2, R.gf hL hm (gP.fr (fun j hj => by rw [zup_ne (by omega), zup_ne (by omega)])) (fun a j q => by rw [zup_ne (by omega), zup_ne (by omega)]), fun _ _ => rfl⟩
  · have e1 : f_X11_deed n [1, x, k, w] h = some (-2, h) := by
      rw [e_X11_deed, xg_pos (hP.p (by decide)), findDay_e hP (by omega), xb_some, if_neg c, if_pos (by decide)]
    have e2 : f_X12_deed m [35, x, k, w] g = some (-2, zup (zup g 35 0 0) 35 33 x) := by
      rw [e_X12_deed, hasDay_e (gP.fr (fun j hj => by rw [zup_ne (by omega)])) (fun j hj => by rw [zup_ne (by omega)]; exact h4 j hj), xb_some, zup_ne (show ¬ (4 = 35 ∧ 1 = 0) by omega), if_neg (show ¬ (0 ≤ x ∧ x < g 4 1) by omega), if_pos rfl]
    exact ⟨_, _, _, e1, e2, R.gf hL hm (gP.fr (fun j hj => by rw [zup_ne (by omega), zup_ne (by omega)])) (fun a j q => by rw [zup_ne (by omega), zup_ne (by omega)]), fun _ _ => rfl⟩
end
section
/-! the reference: a sea in hand -/
/-- all pointers of the Model -/
def rQL : List (Nat × Int) := [(1, 0), (2, 1), (3, 2), (4, 3), (5, 4), (6, 5), (7, 6), (8, 7), (18, 8), (19, 9), (30, 10), (31, 11), (32, 12), (36, 13), (37, 14), (38, 15), (39, 20), (40, 19), (41, 16), (42, 17), (43, 18), (44, 21), (45, 22), (46, 23), (47, 24), (48, 25), (52, 27), (53, 28), (54, 26), (58, 29), (59, 30), (60, 31), (61, 32), (62, 33), (63, 34)]
def rQ (g : yH) : Prop := ∀ p ∈ rQL, g 35 p.1 = p.2
theorem rQ.p {g : yH} (hq : rQ g) {j : Nat} {k : Int} (hm : (j, k) ∈ rQL) : g 35 j = k := hq _ hm
theorem rQ.P {g : yH} (hq : rQ g) : rP g := ⟨hq.p (j := 1) (k := 0) (by decide), hq.p (j := 2) (k := 1) (by decide), hq.p (j := 3) (k := 2) (by decide), hq.p (j := 4) (k := 3) (by decide), hq.p (j := 5) (k := 4) (by decide), hq.p (j := 6) (k := 5) (by decide), hq.p (j := 7) (k := 6) (by decide), hq.p (j := 8) (k := 7) (by decide), hq.p (j := 18) (k := 8) (by decide), hq.p (j := 19) (k := 9) (by decide)⟩
def rQs : List Nat := rQL.map Prod.fst
theorem rQ.fr {g g2 : yH} (hq : rQ g) (e : ∀ j, j ∈ rQs → g2 35 j = g 35 j) : rQ g2 := fun p hp => by
  rw [e p.1 (List.mem_map.mpr ⟨p, hp, rfl⟩)]
  exact hq p hp
theorem rQ.up {g : yH} {a j : Nat} {x : Int} (hq : rQ g) (hn : a ≠ 35 ∨ rQs.contains j = false) : rQ (zup g a j x) := hq.fr (fun i hi => zup_ne (fun w => by
  rcases hn with hn | hn
  · exact hn w.1.symm
  · rw [← w.2] at hn
    have := List.contains_iff_mem.mpr hi
    rw [this] at hn
    cases hn))
/-- a sea in hand: which one, and its numbers -/
def sH (s : Nat) (t : Nat → Int) (g : yH) : Prop := s < 2 ∧ g 35 23 = (s : Int) ∧ (∀ j, j < 50 → g 5 (50 * s + j) = t j) ∧ rQ g
theorem sH.fr {s : Nat} {t : Nat → Int} {g g2 : yH} (H : sH s t g) (e : ∀ a j, a = 5 ∨ (a = 35 ∧ (j = 23 ∨ j ∈ rQs)) → g2 a j = g a j) : sH s t g2 := ⟨H.1, by rw [e _ _ (by omega)]; exact H.2.1, fun j hj => by rw [e _ _ (by omega)]; exact H.2.2.1 j hj, H.2.2.2.fr (fun j hj => e _ _ (Or.inr ⟨rfl, Or.inr hj⟩))⟩
theorem of_e {n s : Nat} {t : Nat → Int} {g : yH} (H : sH s t g) {x : Int} {k : Nat} (hx : x = (k : Int)) (hk : k < 50) : f_X12_of n [35, x] g = some (t k, g) := by
  obtain ⟨h1, h2, h3, h4⟩ := H
  subst hx
  rw [e_X12_of, xg_pos (h4.p (j := 6) (k := 5) (by decide)), h2, xg_pos (by omega), xg_pos (by omega), xg_pos (by omega), show (50 * (s : Int) + (k : Int)).toNat = 50 * s + k by omega, h3 k hk]
/-- the fields of a sea in hand -/
def sF (t : Nat → Int) (g : yH) : Prop := g 35 24 = t 0 ∧ g 35 25 = t 1 ∧ g 35 26 = t 2 ∧ g 35 27 = t 3 ∧ g 35 29 = t 5 ∧ g 35 28 = t 6
theorem hand_l {n0 s : Nat} {x1 : Int} {t : Nat → Int} {g : yH} (hW : tW0 t) (H : sH s t g) (hF : sF t g) : ∀ (m b n : Nat) (g1 : yH), 7 - b = m → (b : Int) ≤ t 6 → m ≤ n → (∀ a j, a ≠ 10 → a ≠ 11 → g1 a j = g a j) → (∀ i : Nat, i < b → g1 10 i = t (31 + 3 * i) ∧ g1 11 i = t (32 + 3 * i)) →
    yR (xl_X12_hand n 73 [35, x1, (b : Int)] g1) (fun v g2 => v = 1 ∧ (∀ a j, a ≠ 10 → a ≠ 11 → g2 a j = g a j) ∧ ∀ i : Nat, (i : Int) < t 6 → g2 10 i = t (31 + 3 * i) ∧ g2 11 i = t (32 + 3 * i)) := by
  have w6 : 0 ≤ t 6 ∧ t 6 ≤ 6 := hW.2.2.2.2.2.2.1
  intro m
  induction m with
  | zero =>
    intro b n g1 e1 e2
    omega
  | succ m ih =>
    intro b n g1 e1 e2 e3 fr hb
    obtain ⟨n, rfl⟩ : ∃ n', n = n' + 1 := ⟨n - 1, by omega⟩
    rw [e_X12_hand_73, fr 35 28 (by omega) (by omega), hF.2.2.2.2.2]
    have H1 : sH s t g1 := H.fr (fun a j w => fr a j (by omega) (by omega))
    by_cases c : (b : Int) < t 6
    · have wb := hW.2.2.2.2.2.2.2.2.2.2 b (by omega)
      rw [if_pos c, xg_pos (H1.2.2.2.p (j := 30) (k := 10) (by decide)), xg_pos (by omega), xg_pos (by omega), of_e H1 (k := 31 + 3 * b) (by omega) (by omega), xb_some, xg_pos (by omega), xg_pos (by omega), xg_pos (H1.2.2.2.p (j := 31) (k := 11) (by decide)), xg_pos (by omega), xg_pos (by omega), xg_pos (by omega), Int.toNat_natCast]
      have H2 : sH s t (zup g1 10 b (t (31 + 3 * b))) := H1.fr (fun a j w => zup_ne (by omega))
      rw [of_e H2 (k := 32 + 3 * b) (by omega) (by omega), xb_some, xg_pos (by omega), xg_pos (by omega), show (b : Int) + 1 = ((b + 1 : Nat) : Int) by omega]
      refine ih (b + 1) n _ (by omega) (by omega) (by omega) (fun a j w1 w2 => by rw [zup_ne (by omega), zup_ne (by omega)]; exact fr a j w1 w2) (fun i hi => ?_)
      by_cases ci : i = b
      · subst ci
        exact ⟨by rw [zup_ne (by omega), zup_at], by rw [zup_at]⟩
      · rw [zup_ne (by omega), zup_ne (by omega), zup_ne (by omega), zup_ne (by omega)]
        exact hb i (by omega)
    · rw [if_neg c]
      exact yR.s ⟨rfl, fr, fun i hi => hb i (by omega)⟩
/-- what hand() leaves -/
def hdR (s : Nat) (t : Nat → Int) (g g2 : yH) : Prop := sH s t g2 ∧ sF t g2 ∧ (∀ b : Nat, (b : Int) < t 6 → g2 10 b = t (31 + 3 * b) ∧ g2 11 b = t (32 + 3 * b)) ∧ ∀ a j, ¬ (a = 35 ∧ 23 ≤ j ∧ j ≤ 29) → a ≠ 10 → a ≠ 11 → g2 a j = g a j
theorem hand_e {n s : Nat} {t : Nat → Int} {g : yH} (hn : 7 ≤ n) (hq : rQ g) (h4 : ∀ j, j < 12 → 0 ≤ g 4 j ∧ g 4 j ≤ 2) (hs : (s : Int) < g 4 0) (ht : ∀ j, j < 50 → g 5 (50 * s + j) = t j) (hW : tW0 t) : yR (f_X12_hand n [35, (s : Int)] g) (fun v g2 => v = 1 ∧ hdR s t g g2) := by
  have b4 := h4 0 (by decide)
  obtain ⟨w0, w1, w2, w3, w4, w5, w6, -⟩ := id hW
  rw [e_X12_hand, is_e (s := 0) (hq.p (j := 5) (k := 4) (by decide)) (by decide) b4, xb_some, show g 4 (0 : Int).toNat = g 4 0 from rfl, if_pos (show 0 ≤ (s : Int) ∧ (s : Int) < g 4 0 by omega), if_neg (by decide), xg_pos (by omega)]
  have mk : ∀ (g1 : yH) (k j : Nat), sH s t g1 → 24 ≤ j → j ≤ 29 → sH s t (zup g1 35 j (t k)) := fun g1 k j H h1 h2 => H.fr (fun a i w => zup_ne (fun c => by
    obtain ⟨c1, c2⟩ := c
    rcases w with w | ⟨-, w | w⟩
    · omega
    · omega
    · have : ∀ j ∈ rQs, ¬ (23 ≤ j ∧ j ≤ 29) := by decide
      have := this i w
      omega))
  have H0 : sH s t (zup g 35 23 (s : Int)) := ⟨by omega, zup_at _ _ _ _, fun j hj => by rw [zup_ne (by omega)]; exact ht j hj, hq.up (Or.inr (by decide))⟩
  rw [of_e (x := 0) H0 (k := 0) rfl (by omega), xb_some, xg_pos (by omega)]
  have H1 := mk _ 0 24 H0 (by omega) (by omega)
  rw [of_e (x := 1) H1 (k := 1) rfl (by omega), xb_some, xg_pos (by omega)]
  have H2 := mk _ 1 25 H1 (by omega) (by omega)
  rw [of_e (x := 2) H2 (k := 2) rfl (by omega), xb_some]
  have H3 := mk _ 2 26 H2 (by omega) (by omega)
  rw [of_e (x := 3) H3 (k := 3) rfl (by omega), xb_some]
  have H4 := mk _ 3 27 H3 (by omega) (by omega)
  rw [of_e (x := 5) H4 (k := 5) rfl (by omega), xb_some, xg_pos (by omega)]
  have H5 := mk _ 5 29 H4 (by omega) (by omega)
  rw [of_e (x := 6) H5 (k := 6) rfl (by omega), xb_some, xg_pos (by omega)]
  have H6 := mk _ 6 28 H5 (by omega) (by omega)
  have F6 : sF t (zup (zup (zup (zup (zup (zup (zup g 35 23 (s : Int)) 35 24 (t 0)) 35 25 (t 1)) 35 26 (t 2)) 35 27 (t 3)) 35 29 (t 5)) 35 28 (t 6)) := by
    refine ⟨?_, ?_, ?_, ?_, ?_, ?_⟩ <;> simp [zup]
  have fr : ∀ a j, ¬ (a = 35 ∧ 23 ≤ j ∧ j ≤ 29) → (zup (zup (zup (zup (zup (zup (zup g 35 23 (s : Int)) 35 24 (t 0)) 35 25 (t 1)) 35 26 (t 2)) 35 27 (t 3)) 35 29 (t 5)) 35 28 (t 6)) a j = g a j := fun a j w => by
    rw [zup_ne (by omega), zup_ne (by omega), zup_ne (by omega), zup_ne (by omega), zup_ne (by omega), zup_ne (by omega), zup_ne (by omega)]
  generalize zup (zup (zup (zup (zup (zup (zup g 35 23 (s : Int)) 35 24 (t 0)) 35 25 (t 1)) 35 26 (t 2)) 35 27 (t 3)) 35 29 (t 5)) 35 28 (t 6) = g6 at *
  refine (hand_l (n0 := n) hW H6 F6 7 0 n g6 rfl (by omega) hn (fun _ _ _ _ => rfl) (fun i hi => absurd hi (by omega))).m (fun v g2 ⟨r1, r2, r3⟩ => ⟨r1, ?_, ?_, r3, fun a j w w10 w11 => by rw [r2 a j w10 w11]; exact fr a j w⟩)
  · exact H6.fr (fun a j w => r2 a j (by omega) (by omega))
  · obtain ⟨f0, f1, f2, f3, f4, f5⟩ := F6
    exact ⟨by rw [r2 _ _ (by omega) (by omega)]; exact f0, by rw [r2 _ _ (by omega) (by omega)]; exact f1, by rw [r2 _ _ (by omega) (by omega)]; exact f2, by rw [r2 _ _ (by omega) (by omega)]; exact f3, by rw [r2 _ _ (by omega) (by omega)]; exact f4, by rw [r2 _ _ (by omega) (by omega)]; exact f5⟩
theorem hand_n {n : Nat} {x : Int} {g : yH} (hq : rQ g) (h4 : ∀ j, j < 12 → 0 ≤ g 4 j ∧ g 4 j ≤ 2) (hs : ¬ (0 ≤ x ∧ x < g 4 0)) : f_X12_hand n [35, x] g = some (0, g) := by
  rw [e_X12_hand, is_e (s := 0) (hq.p (j := 5) (k := 4) (by decide)) (by decide) (h4 0 (by decide)), xb_some, show g 4 (0 : Int).toNat = g 4 0 from rfl, if_neg hs, if_pos rfl]
end
section
/-! sea, shoal, boat -/
theorem cP.sp {h : yH} (hP : cP h) {s : Nat} (hs : s < 2) : cSp (20 + 10 * s) h := by
  rcases (show s = 0 ∨ s = 1 by omega) with rfl | rfl
  · exact ⟨hP.p (a := 20) (j := 5) (v := 21) (by decide), hP.p (a := 20) (j := 7) (v := 22) (by decide), hP.p (a := 20) (j := 8) (v := 23) (by decide), hP.p (a := 20) (j := 9) (v := 24) (by decide), hP.p (a := 20) (j := 11) (v := 25) (by decide), hP.p (a := 20) (j := 12) (v := 26) (by decide), hP.p (a := 20) (j := 13) (v := 27) (by decide)⟩
  · exact ⟨hP.p (a := 30) (j := 5) (v := 31) (by decide), hP.p (a := 30) (j := 7) (v := 32) (by decide), hP.p (a := 30) (j := 8) (v := 33) (by decide), hP.p (a := 30) (j := 9) (v := 34) (by decide), hP.p (a := 30) (j := 11) (v := 35) (by decide), hP.p (a := 30) (j := 12) (v := 36) (by decide), hP.p (a := 30) (j := 13) (v := 37) (by decide)⟩
theorem RR.sea {h g : yH} (R : RR True h g) {s : Nat} (hs : s < 2) (hm : (s : Int) < g 4 0) : ∃ t : Nat → Int, cS (20 + 10 * s) t h ∧ cSp (20 + 10 * s) h ∧ (∀ j, j < 50 → g 5 (50 * s + j) = t j) ∧ tW0 t := by
  obtain ⟨t, a1, a2, a3⟩ := R.2.2.1.2.2.2.2.2.1 s hs
  have b1 := a1 trivial
  rw [show 0 + 20 + 10 * s = 20 + 10 * s by omega] at b1
  exact ⟨t, b1, R.1.sp hs, fun j hj => by rw [← a2 j hj, show 100 * 0 + 50 * s + j = 50 * s + j by omega], a3 hm⟩
/-- after a sea is in hand all is told as before -/
theorem RR.hd {F : Prop} {s : Nat} {t : Nat → Int} {h g g2 : yH} (R : RR F h g) (hL : lnI h) (hm : h 4 1 ≤ 600) (H : hdR s t g g2) : RR F h g2 := R.gf hL hm H.1.2.2.2.P (fun a j w => H.2.2.2 a j (by omega) (by omega) (by omega))
theorem c0_q {g : yH} (hq : rQ g) : rQ (zup g 35 0 0) := hq.up (Or.inr (by decide))
theorem c0_4 {g : yH} (h4 : ∀ j, j < 12 → 0 ≤ g 4 j ∧ g 4 j ≤ 2) : ∀ j, j < 12 → 0 ≤ (zup g 35 0 0) 4 j ∧ (zup g 35 0 0) 4 j ≤ 2 := fun j hj => by
  rw [zup_ne (by omega)]
  exact h4 j hj
/-- a question to a sea: where there is none such both say the same; where there is one, what each says of it -/
theorem RR_ask {k : Nat} {c r : yFn} {x none' : Int} {As : List Int} {m n : Nat} {h g : yH} (R : RR True h g) (hL : lnI h) (hm : h 4 1 ≤ 600) (hq : rQ g) (h4 : ∀ j, j < 12 → 0 ≤ g 4 j ∧ g 4 j ≤ 2)
    (cn : ¬ (0 ≤ x ∧ x < h 6 0) → c n (1 :: x :: As) h = some (none', h)) (rn : ¬ (0 ≤ x ∧ x < g 4 0) → yR (r m (35 :: x :: As) g) (fun v g2 => v = none' ∧ RR True h g2))
    (ask : ∀ (s : Nat) (t : Nat → Int), x = (s : Int) → s < 2 → (s : Int) < h 6 0 → (s : Int) < g 4 0 → tW0 t → cS (20 + 10 * s) t h → cSp (20 + 10 * s) h → (∀ j, j < 50 → g 5 (50 * s + j) = t j) → ∃ v h2 g2, c n (1 :: x :: As) h = some (v, h2) ∧ r m (35 :: x :: As) g = some (v, g2) ∧ RR True h2 g2 ∧ ∀ a j, h2 a j = h a j) :
    ∃ v h2 g2, c n (1 :: x :: As) h = some (v, h2) ∧ r m (35 :: x :: As) g = some (v, g2) ∧ RR True h2 g2 ∧ ∀ a j, h2 a j = h a j := by
  have n0 := R.n6 (j := 0) (by decide)
  have b0 := h4 0 (by decide)
  by_cases w : 0 ≤ x ∧ x < h 6 0
  · obtain ⟨s, rfl⟩ : ∃ s : Nat, x = (s : Int) := ⟨x.toNat, by omega⟩
    obtain ⟨t, a1, a2, a3, a4⟩ := R.sea (s := s) (by omega) (by omega)
    exact ask s t rfl (by omega) w.2 (by omega) a4 a1 a2 a3
  · obtain ⟨v, g2, e2, rfl, R2⟩ := rn (by omega)
    exact ⟨_, h, g2, cn w, e2, R2, fun _ _ => rfl⟩
/-- what sea answers -/
def seaV (t : Nat → Int) (w : Int) : Int := if 0 ≤ w ∧ w ≤ 6 then t w.toNat else if 10 ≤ w ∧ w ≤ 21 then t (7 + (w.toNat - 10)) else -1
theorem seaC_e {n s : Nat} {w : Int} {t : Nat → Int} {h : yH} (hP : cP h) (hb : h 6 0 ≤ 2) (hs : (s : Int) < h 6 0) (hS : cS (20 + 10 * s) t h) : f_X11_sea n [1, (s : Int), w] h = some (seaV t w, h) := by
  have sp := hP.sp (s := s) (by omega)
  obtain ⟨a0, a1, a2, a3, a4, a5, a6, a7, a8, a9, a10⟩ := hS
  rw [e_X11_sea, xg_pos (hP.p (by decide)), findSea_e hP hb, xb_some, if_pos (show 0 ≤ (s : Int) ∧ (s : Int) < h 6 0 by omega), if_neg (by omega), show (20 + 10 * (s : Int)).toNat = 20 + 10 * s by omega, show (20 + 10 * (s : Int) + 1).toNat = 20 + 10 * s + 1 by omega]
  unfold seaV
  by_cases c0 : w = 0
  · rw [if_pos c0, xg_pos (by omega), if_pos (by omega), a0, c0]; rfl
  rw [if_neg c0]
  by_cases c1 : w = 1
  · rw [if_pos c1, xg_pos (by omega), if_pos (by omega), a1, c1]; rfl
  rw [if_neg c1]
  by_cases c2 : w = 2
  · rw [if_pos c2, xg_pos (by omega), if_pos (by omega), a2, c2]; rfl
  rw [if_neg c2]
  by_cases c3 : w = 3
  · rw [if_pos c3, xg_pos (by omega), if_pos (by omega), a3, c3]; rfl
  rw [if_neg c3]
  by_cases c4 : w = 4
  · rw [if_pos c4, xg_pos (by omega), if_pos (by omega), a4, c4]; rfl
  rw [if_neg c4]
  by_cases c5 : w = 5
  · rw [if_pos c5, xg_pos (by omega), if_pos (by omega), a5, c5]; rfl
  rw [if_neg c5]
  by_cases c6 : w = 6
  · rw [if_pos c6, xg_pos (by omega), if_pos (by omega), a6, c6]; rfl
  rw [if_neg c6, if_neg (show ¬ (0 ≤ w ∧ w ≤ 6) by omega)]
  by_cases c7 : w < 10
  · rw [if_pos c7, if_neg (by omega)]
  · rw [if_neg c7]
    by_cases c8 : w < 22
    · rw [if_pos c8, xg_pos (by omega), xg_pos (by rw [sp.1]; omega), xg_pos (by omega), xg_pos (by omega), if_pos (by omega), show (w - 10).toNat = w.toNat - 10 by omega, a8 _ (by omega)]
    · rw [if_neg c8, if_neg (by omega)]
theorem seaR_e {m s : Nat} {w : Int} {t : Nat → Int} {g : yH} (hn : 7 ≤ m) (hq : rQ g) (h4 : ∀ j, j < 12 → 0 ≤ g 4 j ∧ g 4 j ≤ 2) (hs : (s : Int) < g 4 0) (ht : ∀ j, j < 50 → g 5 (50 * s + j) = t j) (hW : tW0 t) : yR (f_X12_sea m [35, (s : Int), w] g) (fun v g2 => v = seaV t w ∧ hdR s t (zup g 35 0 0) g2) := by
  refine yR.e e_X12_sea ?_
  refine yR.b (hand_e hn (c0_q hq) (c0_4 h4) (by rw [zup_ne (by omega)]; exact hs) (fun j hj => by rw [zup_ne (by omega)]; exact ht j hj) hW) (fun v g2 ⟨rv, H⟩ => ?_)
  subst rv
  refine yR.f (by decide) ?_
  unfold seaV
  by_cases c1 : 0 ≤ w ∧ w ≤ 6
  · rw [in_t c1, xb_some, if_neg (by decide), e_X12_sea_34, if_pos (by omega), of_e H.1 (k := w.toNat) (by omega) (by omega), xb_some, if_pos c1]
    exact yR.s ⟨rfl, H⟩
  · rw [in_f c1, xb_some, if_pos rfl, if_neg c1]
    by_cases c2 : 10 ≤ w ∧ w ≤ 21
    · rw [in_t c2, xb_some, if_neg (by decide), e_X12_sea_34, if_neg (by omega), xg_pos (by omega), xg_pos (by omega), of_e H.1 (k := 7 + (w.toNat - 10)) (by omega) (by omega), xb_some, if_pos c2]
      exact yR.s ⟨rfl, H⟩
    · rw [in_f c2, xb_some, if_pos rfl, if_neg c2]
      exact yR.s ⟨rfl, H⟩
theorem RR_sea {m n : Nat} {x w : Int} {h g : yH} (hn : 7 ≤ m) (R : RR True h g) (hL : lnI h) (hm : h 4 1 ≤ 600) (hq : rQ g) (h4 : ∀ j, j < 12 → 0 ≤ g 4 j ∧ g 4 j ≤ 2) : ∃ v h2 g2, f_X11_sea n [1, x, w] h = some (v, h2) ∧ f_X12_sea m [35, x, w] g = some (v, g2) ∧ RR True h2 g2 ∧ ∀ a j, h2 a j = h a j := by
  have hP := R.1
  have n0 := R.n6 (j := 0) (by decide)
  have b0 := h4 0 (by decide)
  refine RR_ask (k := 0) (none' := -1) R hL hm hq h4 (fun c => ?_) (fun c => ?_) (fun s t e hs h6 h4' hW hS hp ht => ?_)
  · rw [e_X11_sea, xg_pos (hP.p (by decide)), findSea_e hP (by omega), xb_some, if_neg c, if_pos (by decide)]
  · refine ⟨-1, zup g 35 0 0, ?_, rfl, R.c0 hL hm⟩
    rw [e_X12_sea, hand_n (c0_q hq) (c0_4 h4) (by rw [zup_ne (by omega)]; exact c), xb_some, if_pos rfl]
  · subst e
    obtain ⟨v, g2, e2, rv, H⟩ := seaR_e (m := m) (w := w) hn hq h4 h4' ht hW
    subst rv
    exact ⟨_, h, g2, seaC_e hP (by omega) h6 hS, e2, (R.c0 hL hm).hd hL hm H, fun _ _ => rfl⟩
/-- what shoal answers -/
def shoalV (t : Nat → Int) (k w : Int) : Int := if 0 ≤ k ∧ k < t 5 ∧ 0 ≤ w ∧ w ≤ 2 then t (19 + 3 * k.toNat + w.toNat) else -1
theorem hasShoal_e {n b : Nat} {k : Int} {t : Nat → Int} {h : yH} (hS : cS b t h) : f_X6_hasShoal n [(b : Int), k] h = some (if 0 ≤ k ∧ k < t 5 then 1 else 0, h) := by
  rw [e_X6_hasShoal, Int.toNat_natCast, hS.2.2.2.2.2.1]
  by_cases c : k < 0
  · rw [if_pos c, if_neg (by omega)]
  · rw [if_neg c]
    by_cases c2 : k < t 5
    · rw [if_pos c2, if_pos (by omega)]
    · rw [if_neg c2, if_neg (by omega)]
theorem hasBoat_e {n b : Nat} {k : Int} {t : Nat → Int} {h : yH} (hS : cS b t h) : f_X6_hasBoat n [(b : Int), k] h = some (if 0 ≤ k ∧ k < t 6 then 1 else 0, h) := by
  rw [e_X6_hasBoat, Int.toNat_natCast, hS.2.2.2.2.2.2.1]
  by_cases c : k < 0
  · rw [if_pos c, if_neg (by omega)]
  · rw [if_neg c]
    by_cases c2 : k < t 6
    · rw [if_pos c2, if_pos (by omega)]
    · rw [if_neg c2, if_neg (by omega)]
theorem shoalC_e {n s : Nat} {k w : Int} {t : Nat → Int} {h : yH} (hP : cP h) (hb : h 6 0 ≤ 2) (hs : (s : Int) < h 6 0) (hS : cS (20 + 10 * s) t h) (hW : tW0 t) : f_X11_shoal n [1, (s : Int), k, w] h = some (shoalV t k w, h) := by
  have sp := hP.sp (s := s) (by omega)
  have w5 := hW.2.2.2.2.2.1
  have a9 := hS.2.2.2.2.2.2.2.2.2.1
  rw [e_X11_shoal, xg_pos (hP.p (by decide)), findSea_e hP hb, xb_some, if_pos (show 0 ≤ (s : Int) ∧ (s : Int) < h 6 0 by omega), if_neg (by omega), xg_pos (by omega), show 20 + 10 * (s : Int) = ((20 + 10 * s : Nat) : Int) by omega, hasShoal_e hS, xb_some]
  unfold shoalV
  by_cases c1 : 0 ≤ k ∧ k < t 5
  · obtain ⟨q1, q2, q3⟩ := a9 k.toNat (by omega)
    have e2 : (((20 + 10 * s : Nat) : Int) + 2).toNat = 20 + 10 * s + 2 := by omega
    have e3 : (((20 + 10 * s : Nat) : Int) + 3).toNat = 20 + 10 * s + 3 := by omega
    have e4 : (((20 + 10 * s : Nat) : Int) + 4).toNat = 20 + 10 * s + 4 := by omega
    rw [if_pos c1, if_neg (by decide), Int.toNat_natCast, e2, e3, e4]
    by_cases d0 : w = 0
    · rw [if_pos d0, xg_pos (by omega), xg_pos sp.2.1, xg_pos (by omega), q1, if_pos (by omega), d0]; rfl
    rw [if_neg d0]
    by_cases d1 : w = 1
    · rw [if_pos d1, xg_pos (by omega), xg_pos sp.2.2.1, xg_pos (by omega), q2, if_pos (by omega), d1, show 19 + 3 * k.toNat + (1 : Int).toNat = 20 + 3 * k.toNat by omega]
    rw [if_neg d1]
    by_cases d2 : w = 2
    · rw [if_pos d2, xg_pos (by omega), xg_pos sp.2.2.2.1, xg_pos (by omega), q3, if_pos (by omega), d2, show 19 + 3 * k.toNat + (2 : Int).toNat = 21 + 3 * k.toNat by omega]
    rw [if_neg d2, if_neg (by omega)]
  · rw [if_neg c1, if_pos rfl, if_neg (by omega)]
theorem shoalR_e {m s : Nat} {k w : Int} {t : Nat → Int} {g : yH} (hn : 7 ≤ m) (hq : rQ g) (h4 : ∀ j, j < 12 → 0 ≤ g 4 j ∧ g 4 j ≤ 2) (hs : (s : Int) < g 4 0) (ht : ∀ j, j < 50 → g 5 (50 * s + j) = t j) (hW : tW0 t) : yR (f_X12_shoal m [35, (s : Int), k, w] g) (fun v g2 => v = shoalV t k w ∧ hdR s t (zup g 35 0 0) g2) := by
  have w5 := hW.2.2.2.2.2.1
  refine yR.e e_X12_shoal ?_
  refine yR.b (hand_e hn (c0_q hq) (c0_4 h4) (by rw [zup_ne (by omega)]; exact hs) (fun j hj => by rw [zup_ne (by omega)]; exact ht j hj) hW) (fun v g2 ⟨rv, H⟩ => ?_)
  subst rv
  refine yR.f (by decide) ?_
  rw [H.2.1.2.2.2.2.1]
  refine yR.g (by omega) ?_
  unfold shoalV
  by_cases c1 : 0 ≤ k ∧ k ≤ t 5 - 1
  · rw [in_t c1, xb_some, if_neg (by decide)]
    by_cases c2 : 0 ≤ w ∧ w ≤ 2
    · rw [in_t c2, xb_some, if_neg (by decide), xg_pos (by omega), xg_pos (by omega), xg_pos (by omega), of_e H.1 (k := 19 + 3 * k.toNat + w.toNat) (by omega) (by omega), xb_some, if_pos (by omega)]
      exact yR.s ⟨rfl, H⟩
    · rw [in_f c2, xb_some, if_pos rfl, if_neg (by omega)]
      exact yR.s ⟨rfl, H⟩
  · rw [in_f c1, xb_some, if_pos rfl, if_neg (by omega)]
    exact yR.s ⟨rfl, H⟩
theorem RR_shoal {m n : Nat} {x k w : Int} {h g : yH} (hn : 7 ≤ m) (R : RR True h g) (hL : lnI h) (hm : h 4 1 ≤ 600) (hq : rQ g) (h4 : ∀ j, j < 12 → 0 ≤ g 4 j ∧ g 4 j ≤ 2) : ∃ v h2 g2, f_X11_shoal n [1, x, k, w] h = some (v, h2) ∧ f_X12_shoal m [35, x, k, w] g = some (v, g2) ∧ RR True h2 g2 ∧ ∀ a j, h2 a j = h a j := by
  have hP := R.1
  have n0 := R.n6 (j := 0) (by decide)
  have b0 := h4 0 (by decide)
  refine RR_ask (k := 0) (none' := -1) R hL hm hq h4 (fun c => ?_) (fun c => ?_) (fun s t e hs h6 h4' hW hS hp ht => ?_)
  · rw [e_X11_shoal, xg_pos (hP.p (by decide)), findSea_e hP (by omega), xb_some, if_neg c, if_pos (by decide)]
  · refine ⟨-1, zup g 35 0 0, ?_, rfl, R.c0 hL hm⟩
    rw [e_X12_shoal, hand_n (c0_q hq) (c0_4 h4) (by rw [zup_ne (by omega)]; exact c), xb_some, if_pos rfl]
  · subst e
    obtain ⟨v, g2, e2, rv, H⟩ := shoalR_e (m := m) (k := k) (w := w) hn hq h4 h4' ht hW
    subst rv
    exact ⟨_, h, g2, shoalC_e hP (by omega) h6 hS hW, e2, (R.c0 hL hm).hd hL hm H, fun _ _ => rfl⟩
/-! bits -/
theorem bit_01 (x : Int) : yari 7 x 1 = 0 ∨ yari 7 x 1 = 1 := by
  unfold yari
  show ((Int32.ofInt x) &&& (Int32.ofInt 1)).toInt = 0 ∨ ((Int32.ofInt x) &&& (Int32.ofInt 1)).toInt = 1
  generalize Int32.ofInt x = a
  have h : (a &&& (Int32.ofInt 1)) = 0 ∨ (a &&& (Int32.ofInt 1)) = 1 := by
    have e1 : (Int32.ofInt 1).toBitVec = 1#32 := by decide
    have h2 : (a &&& (Int32.ofInt 1)).toBitVec = a.toBitVec &&& 1#32 := by rw [Int32.toBitVec_and, e1]
    have h3 : a.toBitVec &&& 1#32 = 0#32 ∨ a.toBitVec &&& 1#32 = 1#32 := by
      have : (a.toBitVec &&& 1#32).toNat = a.toBitVec.toNat % 2 := by
        rw [BitVec.toNat_and]
        show a.toBitVec.toNat &&& 1 = _
        exact Nat.and_one_is_mod _
      rcases Nat.mod_two_eq_zero_or_one a.toBitVec.toNat with w | w
      · left
        apply BitVec.eq_of_toNat_eq
        rw [this, w]
        rfl
      · right
        apply BitVec.eq_of_toNat_eq
        rw [this, w]
        rfl
    rcases h3 with h3 | h3
    · left
      apply Int32.toBitVec_inj.mp
      rw [h2, h3]
      rfl
    · right
      apply Int32.toBitVec_inj.mp
      rw [h2, h3]
      rfl
  rcases h with h | h
  · left; rw [h]; rfl
  · right; rw [h]; rfl
/-- what boat answers -/
def boatV (t : Nat → Int) (b w : Int) : Int := if 0 ≤ b ∧ b < t 6 ∧ 0 ≤ w ∧ w ≤ 3 then (if w = 3 then yari 7 (yari 6 (t 49) b) 1 else t (31 + 3 * b.toNat + w.toNat)) else -1
theorem boatC_e {n s : Nat} {k w : Int} {t : Nat → Int} {h : yH} (hP : cP h) (hb : h 6 0 ≤ 2) (hs : (s : Int) < h 6 0) (hS : cS (20 + 10 * s) t h) (hW : tW0 t) : f_X11_boat n [1, (s : Int), k, w] h = some (boatV t k w, h) := by
  have sp := hP.sp (s := s) (by omega)
  have w6 := hW.2.2.2.2.2.2.1
  have a10 := hS.2.2.2.2.2.2.2.2.2.2
  have a7 := hS.2.2.2.2.2.2.2.1
  rw [e_X11_boat, xg_pos (hP.p (by decide)), findSea_e hP hb, xb_some, if_pos (show 0 ≤ (s : Int) ∧ (s : Int) < h 6 0 by omega), if_neg (by omega), xg_pos (by omega), show 20 + 10 * (s : Int) = ((20 + 10 * s : Nat) : Int) by omega, hasBoat_e hS, xb_some]
  unfold boatV
  by_cases c1 : 0 ≤ k ∧ k < t 6
  · obtain ⟨q1, q2, q3⟩ := a10 k.toNat (by omega)
    have e2 : (((20 + 10 * s : Nat) : Int) + 5).toNat = 20 + 10 * s + 5 := by omega
    have e3 : (((20 + 10 * s : Nat) : Int) + 6).toNat = 20 + 10 * s + 6 := by omega
    have e4 : (((20 + 10 * s : Nat) : Int) + 7).toNat = 20 + 10 * s + 7 := by omega
    rw [if_pos c1, if_neg (by decide), Int.toNat_natCast, e2, e3, e4, a7]
    by_cases d0 : w = 0
    · rw [if_pos d0, xg_pos (by omega), xg_pos sp.2.2.2.2.1, xg_pos (by omega), q1, if_pos (by omega), if_neg (by omega), d0]; rfl
    rw [if_neg d0]
    by_cases d1 : w = 1
    · rw [if_pos d1, xg_pos (by omega), xg_pos sp.2.2.2.2.2.1, xg_pos (by omega), q2, if_pos (by omega), if_neg (by omega), d1, show 31 + 3 * k.toNat + (1 : Int).toNat = 32 + 3 * k.toNat by omega]
    rw [if_neg d1]
    by_cases d2 : w = 2
    · rw [if_pos d2, xg_pos (by omega), xg_pos sp.2.2.2.2.2.2, xg_pos (by omega), q3, if_pos (by omega), if_neg (by omega), d2, show 31 + 3 * k.toNat + (2 : Int).toNat = 33 + 3 * k.toNat by omega]
    rw [if_neg d2]
    by_cases d3 : w = 3
    · rw [if_pos d3, xg_pos (by omega), if_pos (by omega), if_pos d3]
    rw [if_neg d3, if_neg (by omega)]
  · rw [if_neg c1, if_pos rfl, if_neg (by omega)]
theorem boatR_e {m s : Nat} {k w : Int} {t : Nat → Int} {g : yH} (hn : 7 ≤ m) (hq : rQ g) (h4 : ∀ j, j < 12 → 0 ≤ g 4 j ∧ g 4 j ≤ 2) (hs : (s : Int) < g 4 0) (ht : ∀ j, j < 50 → g 5 (50 * s + j) = t j) (hW : tW0 t) : yR (f_X12_boat m [35, (s : Int), k, w] g) (fun v g2 => v = boatV t k w ∧ hdR s t (zup g 35 0 0) g2) := by
  have w6 := hW.2.2.2.2.2.2.1
  refine yR.e e_X12_boat ?_
  refine yR.b (hand_e hn (c0_q hq) (c0_4 h4) (by rw [zup_ne (by omega)]; exact hs) (fun j hj => by rw [zup_ne (by omega)]; exact ht j hj) hW) (fun v g2 ⟨rv, H⟩ => ?_)
  subst rv
  refine yR.f (by decide) ?_
  rw [e_X12_isBoat, H.2.1.2.2.2.2.2, xg_pos (by omega)]
  unfold boatV
  by_cases c1 : 0 ≤ k ∧ k ≤ t 6 - 1
  · rw [in_t c1, xb_some, xg_pos (by decide), xb_some, if_neg (by decide)]
    by_cases c2 : 0 ≤ w ∧ w ≤ 3
    · rw [in_t c2, xb_some, if_neg (by decide), if_pos (show 0 ≤ k ∧ k < t 6 ∧ 0 ≤ w ∧ w ≤ 3 by omega)]
      by_cases c3 : w < 3
      · rw [if_pos c3, xg_pos (by omega), xg_pos (by omega), xg_pos (by omega), of_e H.1 (k := 31 + 3 * k.toNat + w.toNat) (by omega) (by omega), xb_some, if_neg (by omega)]
        exact yR.s ⟨rfl, H⟩
      · rw [if_neg c3, of_e (x := 49) H.1 (k := 49) rfl (by omega), xb_some, e_X12_isIn, if_pos (show w = 3 by omega)]
        rcases bit_01 (yari 6 (t 49) k) with e | e
        · rw [e, if_neg (by decide), xb_some, if_pos rfl]
          exact yR.s ⟨rfl, H⟩
        · rw [e, if_pos rfl, xb_some, if_neg (by decide)]
          exact yR.s ⟨rfl, H⟩
    · rw [in_f c2, xb_some, if_pos rfl, if_neg (by omega)]
      exact yR.s ⟨rfl, H⟩
  · rw [in_f c1, xb_some, xg_pos (by decide), xb_some, if_pos rfl, if_neg (by omega)]
    exact yR.s ⟨rfl, H⟩
theorem RR_boat {m n : Nat} {x k w : Int} {h g : yH} (hn : 7 ≤ m) (R : RR True h g) (hL : lnI h) (hm : h 4 1 ≤ 600) (hq : rQ g) (h4 : ∀ j, j < 12 → 0 ≤ g 4 j ∧ g 4 j ≤ 2) : ∃ v h2 g2, f_X11_boat n [1, x, k, w] h = some (v, h2) ∧ f_X12_boat m [35, x, k, w] g = some (v, g2) ∧ RR True h2 g2 ∧ ∀ a j, h2 a j = h a j := by
  have hP := R.1
  have n0 := R.n6 (j := 0) (by decide)
  have b0 := h4 0 (by decide)
  refine RR_ask (k := 0) (none' := -1) R hL hm hq h4 (fun c => ?_) (fun c => ?_) (fun s t e hs h6 h4' hW hS hp ht => ?_)
  · rw [e_X11_boat, xg_pos (hP.p (by decide)), findSea_e hP (by omega), xb_some, if_neg c, if_pos (by decide)]
  · refine ⟨-1, zup g 35 0 0, ?_, rfl, R.c0 hL hm⟩
    rw [e_X12_boat, hand_n (c0_q hq) (c0_4 h4) (by rw [zup_ne (by omega)]; exact c), xb_some, if_pos rfl]
  · subst e
    obtain ⟨v, g2, e2, rv, H⟩ := boatR_e (m := m) (k := k) (w := w) hn hq h4 h4' ht hW
    subst rv
    exact ⟨_, h, g2, boatC_e hP (by omega) h6 hS hW, e2, (R.c0 hL hm).hd hL hm H, fun _ _ => rfl⟩
end
section
/-! steps and costs -/
theorem yqrF : ∀ x : Fin 64, ∀ w : Fin 8, yari 3 (x.val : Int) ((w.val : Int) + 1) = (x.val : Int) / ((w.val : Int) + 1) ∧ yari 4 (x.val : Int) ((w.val : Int) + 1) = (x.val : Int) % ((w.val : Int) + 1) := by decide +kernel
theorem yqr {x w : Int} (hx : 0 ≤ x ∧ x ≤ 63) (hw : 1 ≤ w ∧ w ≤ 8) : yari 3 x w = x / w ∧ yari 4 x w = x % w := by
  have := yqrF ⟨x.toNat, by omega⟩ ⟨(w - 1).toNat, by omega⟩
  simp only at this
  rw [show ((x.toNat : Nat) : Int) = x by omega, show (((w - 1).toNat : Nat) : Int) + 1 = w by omega] at this
  exact this
theorem yqr_b {x w : Int} (hx : 0 ≤ x ∧ x ≤ 63) (hw : 1 ≤ w ∧ w ≤ 8) : (0 ≤ x / w ∧ x / w ≤ 63) ∧ 0 ≤ x % w ∧ x % w ≤ 7 := by
  have h1 := Int.ediv_nonneg hx.1 (show 0 ≤ w by omega)
  have h2 := Int.ediv_le_self w hx.1
  have h3 := Int.emod_nonneg x (show w ≠ 0 by omega)
  have h4 := Int.emod_lt_of_pos x (show 0 < w by omega)
  omega
/-- how far against the wind -/
def agn (sd dS dE : Int) : Int := if sd = 0 then dS else if sd = 1 then -dE else if sd = 2 then -dS else dE
def cst (W sd st x y : Int) : Int := (if 0 ≤ y / W - x / W then y / W - x / W else -(y / W - x / W)) + (if 0 ≤ y % W - x % W then y % W - x % W else -(y % W - x % W)) + (if 0 < agn sd (y / W - x / W) (y % W - x % W) then agn sd (y / W - x / W) (y % W - x % W) * st else 0)
theorem cost_e {n b : Nat} {x y W sd st : Int} {h : yH} (h0 : h b 0 = W) (h2 : h b 2 = sd) (h3 : h b 3 = st) (hW : 1 ≤ W ∧ W ≤ 8) (hst : 0 ≤ st ∧ st ≤ 3) (hx : 0 ≤ x ∧ x ≤ 63) (hy : 0 ≤ y ∧ y ≤ 63) : f_X6_cost n [(b : Int), x, y] h = some (cst W sd st x y, h) := by
  obtain ⟨q1, q2⟩ := yqr hx hW
  obtain ⟨q3, q4⟩ := yqr hy hW
  obtain ⟨b1, b2⟩ := yqr_b hx hW
  obtain ⟨b3, b4⟩ := yqr_b hy hW
  rw [e_X6_cost, Int.toNat_natCast, h0, h2, if_neg (by omega), q1, q2, q3, q4]
  unfold cst agn
  generalize x / W = xr at *
  generalize x % W = xc at *
  generalize y / W = yr at *
  generalize y % W = yc at *
  have key : ∀ a : Int, -63 ≤ a ∧ a ≤ 63 → xq_X6_cost_93 n [(b : Int), x, y, yr - xr, yc - xc, a] h = some ((if 0 ≤ yr - xr then yr - xr else -(yr - xr)) + (if 0 ≤ yc - xc then yc - xc else -(yc - xc)) + (if 0 < a then a * st else 0), h) := by
    intro a ha
    rw [e_X6_cost_93, Int.toNat_natCast, h3, xg_pos (by omega), xg_pos (by omega), xg_pos (by split <;> split <;> omega)]
    by_cases c : 0 < a
    · have hm : 0 ≤ a * st ∧ a * st ≤ 189 := by
        rcases (show st = 0 ∨ st = 1 ∨ st = 2 ∨ st = 3 by omega) with e | e | e | e <;> rw [e] <;> omega
      rw [if_pos c, if_pos c, xg_pos (by omega), xg_pos (by split <;> split <;> omega)]
    · rw [if_neg c, if_neg c, Int.add_zero]
  rw [xg_pos (by omega), xg_pos (by omega), xg_pos (by omega), xg_pos (by omega), xg_pos (by omega), xg_pos (by omega)]
  by_cases c0 : sd = 0
  · rw [if_pos c0, if_pos c0, key _ (by omega)]
  rw [if_neg c0, if_neg c0]
  by_cases c1 : sd = 1
  · rw [if_pos c1, if_pos c1, xg_pos (by omega), key _ (by omega)]
  rw [if_neg c1, if_neg c1]
  by_cases c2 : sd = 2
  · rw [if_pos c2, if_pos c2, xg_pos (by omega), key _ (by omega)]
  rw [if_neg c2, if_neg c2, key _ (by omega)]
theorem greater_e {n : Nat} {v : Int} {h : yH} : f_X12_greater n [0, v] h = some (if v < 0 then 0 else v, h) := by
  rw [e_X12_greater]
  by_cases c : v < 0
  · rw [if_pos c, if_pos c]
  · rw [if_neg c, if_neg c]
def stp (W s x y : Int) : Int := if s = 0 then (if x / W - y / W < 0 then 0 else x / W - y / W) else if s = 1 then (if y % W - x % W < 0 then 0 else y % W - x % W) else if s = 2 then (if y / W - x / W < 0 then 0 else y / W - x / W) else (if x % W - y % W < 0 then 0 else x % W - y % W)
theorem stp_b {W s x y : Int} (hW : 1 ≤ W ∧ W ≤ 8) (hx : 0 ≤ x ∧ x ≤ 63) (hy : 0 ≤ y ∧ y ≤ 63) : 0 ≤ stp W s x y ∧ stp W s x y ≤ 63 := by
  obtain ⟨b1, b2⟩ := yqr_b hx hW
  obtain ⟨b3, b4⟩ := yqr_b hy hW
  unfold stp
  generalize x / W = xr at *
  generalize x % W = xc at *
  generalize y / W = yr at *
  generalize y % W = yc at *
  split
  · split <;> omega
  · split
    · split <;> omega
    · split <;> split <;> omega
theorem stepsTo_e {n : Nat} {x y s W : Int} {g : yH} (h24 : g 35 24 = W) (hW : 1 ≤ W ∧ W ≤ 8) (hx : 0 ≤ x ∧ x ≤ 63) (hy : 0 ≤ y ∧ y ≤ 63) : f_X12_stepsTo n [35, x, y, s] g = some (stp W s x y, g) := by
  obtain ⟨q1, q2⟩ := yqr hx hW
  obtain ⟨q3, q4⟩ := yqr hy hW
  obtain ⟨b1, b2⟩ := yqr_b hx hW
  obtain ⟨b3, b4⟩ := yqr_b hy hW
  rw [e_X12_stepsTo, h24, q1, q2, q3, q4]
  unfold stp
  generalize x / W = xr at *
  generalize x % W = xc at *
  generalize y / W = yr at *
  generalize y % W = yc at *
  by_cases c0 : s = 0
  · rw [if_pos c0, if_pos c0, xg_pos (by omega), xg_pos (by omega), xg_pos (by omega), greater_e, xb_some]
  rw [if_neg c0, if_neg c0]
  by_cases c1 : s = 1
  · rw [if_pos c1, if_pos c1, xg_pos (by omega), xg_pos (by omega), xg_pos (by omega), greater_e, xb_some]
  rw [if_neg c1, if_neg c1]
  by_cases c2 : s = 2
  · rw [if_pos c2, if_pos c2, xg_pos (by omega), xg_pos (by omega), xg_pos (by omega), greater_e, xb_some]
  rw [if_neg c2, if_neg c2, xg_pos (by omega), xg_pos (by omega), xg_pos (by omega), greater_e, xb_some]
theorem yq4F : ∀ s : Fin 4, yari 4 ((s.val : Int) + 2) 4 = ((s.val : Int) + 2) % 4 := by decide +kernel
theorem costOf_e {n : Nat} {x y W sd st : Int} {g : yH} (hn : 5 ≤ n) (h24 : g 35 24 = W) (h26 : g 35 26 = sd) (h27 : g 35 27 = st) (hW : 1 ≤ W ∧ W ≤ 8) (hsd : 0 ≤ sd ∧ sd ≤ 3) (hst : 0 ≤ st ∧ st ≤ 3) (hx : 0 ≤ x ∧ x ≤ 63) (hy : 0 ≤ y ∧ y ≤ 63) : f_X12_costOf n [35, x, y] g = some (cst W sd st x y, g) := by
  obtain ⟨n, rfl⟩ : ∃ n', n = n' + 5 := ⟨n - 5, by omega⟩
  have q := yq4F ⟨sd.toNat, by omega⟩
  simp only at q
  rw [show ((sd.toNat : Nat) : Int) = sd by omega] at q
  have sb := fun s => stp_b (s := s) hW hx hy
  have s0 := sb 0
  have s1 := sb 1
  have s2 := sb 2
  have s3 := sb 3
  have sa := sb ((sd + 2) % 4)
  have hm : 0 ≤ st * stp W ((sd + 2) % 4) x y ∧ st * stp W ((sd + 2) % 4) x y ≤ 189 := by
    rcases (show st = 0 ∨ st = 1 ∨ st = 2 ∨ st = 3 by omega) with e | e | e | e <;> rw [e] <;> omega
  rw [e_X12_costOf, h26, h27, xg_pos (by omega), q, stepsTo_e h24 hW hx hy, xb_some, xg_pos (by omega)]
  rw [e_X12_costOf_23, if_pos (by decide), stepsTo_e h24 hW hx hy, xb_some, xg_pos (by omega), xg_pos (by omega)]
  rw [e_X12_costOf_23, if_pos (by decide), stepsTo_e h24 hW hx hy, xb_some, show (0 : Int) + 1 = 1 from rfl, xg_pos (by omega), xg_pos (by omega)]
  rw [e_X12_costOf_23, if_pos (by decide), stepsTo_e h24 hW hx hy, xb_some, show (1 : Int) + 1 = 2 from rfl, xg_pos (by omega), xg_pos (by omega)]
  rw [e_X12_costOf_23, if_pos (by decide), stepsTo_e h24 hW hx hy, xb_some, show (2 : Int) + 1 = 3 from rfl, xg_pos (by omega), xg_pos (by omega)]
  rw [e_X12_costOf_23, if_neg (by decide)]
  congr 2
  clear q s0 s1 s2 s3 sa sb hm
  obtain ⟨b1, b2⟩ := yqr_b hx hW
  obtain ⟨b3, b4⟩ := yqr_b hy hW
  unfold cst agn
  rcases (show sd = 0 ∨ sd = 1 ∨ sd = 2 ∨ sd = 3 by omega) with rfl | rfl | rfl | rfl
  all_goals
    unfold stp
    generalize x / W = xr at *
    generalize x % W = xc at *
    generalize y / W = yr at *
    generalize y % W = yc at *
    rcases (show st = 0 ∨ st = 1 ∨ st = 2 ∨ st = 3 by omega) with rfl | rfl | rfl | rfl
    all_goals
      simp
      omega
end
section
/-! how many bits -/
def bcn (x : Int) : Int := x % 2 + x / 2 % 2 + x / 4 % 2 + x / 8 % 2 + x / 16 % 2 + x / 32 % 2
theorem bcF : ∀ x : Fin 64, (-2147483648 ≤ (x.val : Int) - (yari 7 (yushr (x.val : Int) 1) 1431655765) ∧ (x.val : Int) - (yari 7 (yushr (x.val : Int) 1) 1431655765) ≤ 2147483647) ∧ (-2147483648 ≤ (yari 7 ((x.val : Int) - (yari 7 (yushr (x.val : Int) 1) 1431655765)) 858993459) + (yari 7 (yushr ((x.val : Int) - (yari 7 (yushr (x.val : Int) 1) 1431655765)) 2) 858993459) ∧ (yari 7 ((x.val : Int) - (yari 7 (yushr (x.val : Int) 1) 1431655765)) 858993459) + (yari 7 (yushr ((x.val : Int) - (yari 7 (yushr (x.val : Int) 1) 1431655765)) 2) 858993459) ≤ 2147483647) ∧ (-2147483648 ≤ ((yari 7 ((x.val : Int) - (yari 7 (yushr (x.val : Int) 1) 1431655765)) 858993459) + (yari 7 (yushr ((x.val : Int) - (yari 7 (yushr (x.val : Int) 1) 1431655765)) 2) 858993459)) + (yushr ((yari 7 ((x.val : Int) - (yari 7 (yushr (x.val : Int) 1) 1431655765)) 858993459) + (yari 7 (yushr ((x.val : Int) - (yari 7 (yushr (x.val : Int) 1) 1431655765)) 2) 858993459)) 4) ∧ ((yari 7 ((x.val : Int) - (yari 7 (yushr (x.val : Int) 1) 1431655765)) 858993459) + (yari 7 (yushr ((x.val : Int) - (yari 7 (yushr (x.val : Int) 1) 1431655765)) 2) 858993459)) + (yushr ((yari 7 ((x.val : Int) - (yari 7 (yushr (x.val : Int) 1) 1431655765)) 858993459) + (yari 7 (yushr ((x.val : Int) - (yari 7 (yushr (x.val : Int) 1) 1431655765)) 2) 858993459)) 4) ≤ 2147483647) ∧ (-2147483648 ≤ (yari 7 (((yari 7 ((x.val : Int) - (yari 7 (yushr (x.val : Int) 1) 1431655765)) 858993459) + (yari 7 (yushr ((x.val : Int) - (yari 7 (yushr (x.val : Int) 1) 1431655765)) 2) 858993459)) + (yushr ((yari 7 ((x.val : Int) - (yari 7 (yushr (x.val : Int) 1) 1431655765)) 858993459) + (yari 7 (yushr ((x.val : Int) - (yari 7 (yushr (x.val : Int) 1) 1431655765)) 2) 858993459)) 4)) 252645135) + (yushr (yari 7 (((yari 7 ((x.val : Int) - (yari 7 (yushr (x.val : Int) 1) 1431655765)) 858993459) + (yari 7 (yushr ((x.val : Int) - (yari 7 (yushr (x.val : Int) 1) 1431655765)) 2) 858993459)) + (yushr ((yari 7 ((x.val : Int) - (yari 7 (yushr (x.val : Int) 1) 1431655765)) 858993459) + (yari 7 (yushr ((x.val : Int) - (yari 7 (yushr (x.val : Int) 1) 1431655765)) 2) 858993459)) 4)) 252645135) 8) ∧ (yari 7 (((yari 7 ((x.val : Int) - (yari 7 (yushr (x.val : Int) 1) 1431655765)) 858993459) + (yari 7 (yushr ((x.val : Int) - (yari 7 (yushr (x.val : Int) 1) 1431655765)) 2) 858993459)) + (yushr ((yari 7 ((x.val : Int) - (yari 7 (yushr (x.val : Int) 1) 1431655765)) 858993459) + (yari 7 (yushr ((x.val : Int) - (yari 7 (yushr (x.val : Int) 1) 1431655765)) 2) 858993459)) 4)) 252645135) + (yushr (yari 7 (((yari 7 ((x.val : Int) - (yari 7 (yushr (x.val : Int) 1) 1431655765)) 858993459) + (yari 7 (yushr ((x.val : Int) - (yari 7 (yushr (x.val : Int) 1) 1431655765)) 2) 858993459)) + (yushr ((yari 7 ((x.val : Int) - (yari 7 (yushr (x.val : Int) 1) 1431655765)) 858993459) + (yari 7 (yushr ((x.val : Int) - (yari 7 (yushr (x.val : Int) 1) 1431655765)) 2) 858993459)) 4)) 252645135) 8) ≤ 2147483647) ∧ (-2147483648 ≤ ((yari 7 (((yari 7 ((x.val : Int) - (yari 7 (yushr (x.val : Int) 1) 1431655765)) 858993459) + (yari 7 (yushr ((x.val : Int) - (yari 7 (yushr (x.val : Int) 1) 1431655765)) 2) 858993459)) + (yushr ((yari 7 ((x.val : Int) - (yari 7 (yushr (x.val : Int) 1) 1431655765)) 858993459) + (yari 7 (yushr ((x.val : Int) - (yari 7 (yushr (x.val : Int) 1) 1431655765)) 2) 858993459)) 4)) 252645135) + (yushr (yari 7 (((yari 7 ((x.val : Int) - (yari 7 (yushr (x.val : Int) 1) 1431655765)) 858993459) + (yari 7 (yushr ((x.val : Int) - (yari 7 (yushr (x.val : Int) 1) 1431655765)) 2) 858993459)) + (yushr ((yari 7 ((x.val : Int) - (yari 7 (yushr (x.val : Int) 1) 1431655765)) 858993459) + (yari 7 (yushr ((x.val : Int) - (yari 7 (yushr (x.val : Int) 1) 1431655765)) 2) 858993459)) 4)) 252645135) 8)) + (yushr ((yari 7 (((yari 7 ((x.val : Int) - (yari 7 (yushr (x.val : Int) 1) 1431655765)) 858993459) + (yari 7 (yushr ((x.val : Int) - (yari 7 (yushr (x.val : Int) 1) 1431655765)) 2) 858993459)) + (yushr ((yari 7 ((x.val : Int) - (yari 7 (yushr (x.val : Int) 1) 1431655765)) 858993459) + (yari 7 (yushr ((x.val : Int) - (yari 7 (yushr (x.val : Int) 1) 1431655765)) 2) 858993459)) 4)) 252645135) + (yushr (yari 7 (((yari 7 ((x.val : Int) - (yari 7 (yushr (x.val : Int) 1) 1431655765)) 858993459) + (yari 7 (yushr ((x.val : Int) - (yari 7 (yushr (x.val : Int) 1) 1431655765)) 2) 858993459)) + (yushr ((yari 7 ((x.val : Int) - (yari 7 (yushr (x.val : Int) 1) 1431655765)) 858993459) + (yari 7 (yushr ((x.val : Int) - (yari 7 (yushr (x.val : Int) 1) 1431655765)) 2) 858993459)) 4)) 252645135) 8)) 16) ∧ ((yari 7 (((yari 7 ((x.val : Int) - (yari 7 (yushr (x.val : Int) 1) 1431655765)) 858993459) + (yari 7 (yushr ((x.val : Int) - (yari 7 (yushr (x.val : Int) 1) 1431655765)) 2) 858993459)) + (yushr ((yari 7 ((x.val : Int) - (yari 7 (yushr (x.val : Int) 1) 1431655765)) 858993459) + (yari 7 (yushr ((x.val : Int) - (yari 7 (yushr (x.val : Int) 1) 1431655765)) 2) 858993459)) 4)) 252645135) + (yushr (yari 7 (((yari 7 ((x.val : Int) - (yari 7 (yushr (x.val : Int) 1) 1431655765)) 858993459) + (yari 7 (yushr ((x.val : Int) - (yari 7 (yushr (x.val : Int) 1) 1431655765)) 2) 858993459)) + (yushr ((yari 7 ((x.val : Int) - (yari 7 (yushr (x.val : Int) 1) 1431655765)) 858993459) + (yari 7 (yushr ((x.val : Int) - (yari 7 (yushr (x.val : Int) 1) 1431655765)) 2) 858993459)) 4)) 252645135) 8)) + (yushr ((yari 7 (((yari 7 ((x.val : Int) - (yari 7 (yushr (x.val : Int) 1) 1431655765)) 858993459) + (yari 7 (yushr ((x.val : Int) - (yari 7 (yushr (x.val : Int) 1) 1431655765)) 2) 858993459)) + (yushr ((yari 7 ((x.val : Int) - (yari 7 (yushr (x.val : Int) 1) 1431655765)) 858993459) + (yari 7 (yushr ((x.val : Int) - (yari 7 (yushr (x.val : Int) 1) 1431655765)) 2) 858993459)) 4)) 252645135) + (yushr (yari 7 (((yari 7 ((x.val : Int) - (yari 7 (yushr (x.val : Int) 1) 1431655765)) 858993459) + (yari 7 (yushr ((x.val : Int) - (yari 7 (yushr (x.val : Int) 1) 1431655765)) 2) 858993459)) + (yushr ((yari 7 ((x.val : Int) - (yari 7 (yushr (x.val : Int) 1) 1431655765)) 858993459) + (yari 7 (yushr ((x.val : Int) - (yari 7 (yushr (x.val : Int) 1) 1431655765)) 2) 858993459)) 4)) 252645135) 8)) 16) ≤ 2147483647) ∧ (yari 7 (((yari 7 (((yari 7 ((x.val : Int) - (yari 7 (yushr (x.val : Int) 1) 1431655765)) 858993459) + (yari 7 (yushr ((x.val : Int) - (yari 7 (yushr (x.val : Int) 1) 1431655765)) 2) 858993459)) + (yushr ((yari 7 ((x.val : Int) - (yari 7 (yushr (x.val : Int) 1) 1431655765)) 858993459) + (yari 7 (yushr ((x.val : Int) - (yari 7 (yushr (x.val : Int) 1) 1431655765)) 2) 858993459)) 4)) 252645135) + (yushr (yari 7 (((yari 7 ((x.val : Int) - (yari 7 (yushr (x.val : Int) 1) 1431655765)) 858993459) + (yari 7 (yushr ((x.val : Int) - (yari 7 (yushr (x.val : Int) 1) 1431655765)) 2) 858993459)) + (yushr ((yari 7 ((x.val : Int) - (yari 7 (yushr (x.val : Int) 1) 1431655765)) 858993459) + (yari 7 (yushr ((x.val : Int) - (yari 7 (yushr (x.val : Int) 1) 1431655765)) 2) 858993459)) 4)) 252645135) 8)) + (yushr ((yari 7 (((yari 7 ((x.val : Int) - (yari 7 (yushr (x.val : Int) 1) 1431655765)) 858993459) + (yari 7 (yushr ((x.val : Int) - (yari 7 (yushr (x.val : Int) 1) 1431655765)) 2) 858993459)) + (yushr ((yari 7 ((x.val : Int) - (yari 7 (yushr (x.val : Int) 1) 1431655765)) 858993459) + (yari 7 (yushr ((x.val : Int) - (yari 7 (yushr (x.val : Int) 1) 1431655765)) 2) 858993459)) 4)) 252645135) + (yushr (yari 7 (((yari 7 ((x.val : Int) - (yari 7 (yushr (x.val : Int) 1) 1431655765)) 858993459) + (yari 7 (yushr ((x.val : Int) - (yari 7 (yushr (x.val : Int) 1) 1431655765)) 2) 858993459)) + (yushr ((yari 7 ((x.val : Int) - (yari 7 (yushr (x.val : Int) 1) 1431655765)) 858993459) + (yari 7 (yushr ((x.val : Int) - (yari 7 (yushr (x.val : Int) 1) 1431655765)) 2) 858993459)) 4)) 252645135) 8)) 16)) 63) = bcn (x.val : Int) := by decide +kernel
theorem bc_e {n : Nat} {x : Int} {h : yH} (hx : 0 ≤ x ∧ x ≤ 63) : f_J6_bitCount_0f7a4 n [x] h = some (bcn x, h) := by
  obtain ⟨k, rfl⟩ : ∃ k : Fin 64, x = (k.val : Int) := ⟨⟨x.toNat, by omega⟩, by simp only; omega⟩
  obtain ⟨g0, g1, g2, g3, g4, v⟩ := bcF k
  rw [e_J6_bitCount_0f7a4, xg_pos g0, xg_pos g1, xg_pos g2, xg_pos g3, xg_pos g4, v]
theorem isInF : ∀ x : Fin 64, ∀ k : Fin 16, yari 7 (yari 6 (x.val : Int) (k.val : Int)) 1 = (x.val : Int) / 2 ^ k.val % 2 := by decide +kernel
theorem isIn_e {n : Nat} {x : Int} {k : Nat} {h : yH} (hx : 0 ≤ x ∧ x ≤ 63) (hk : k < 16) : f_X12_isIn n [x, (k : Int)] h = some (x / 2 ^ k % 2, h) := by
  obtain ⟨d, rfl⟩ : ∃ d : Fin 64, x = (d.val : Int) := ⟨⟨x.toNat, by omega⟩, by simp only; omega⟩
  rw [e_X12_isIn, isInF d ⟨k, hk⟩]
  simp only
  have h2 : ∀ z : Int, z % 2 = 0 ∨ z % 2 = 1 := fun z => by omega
  rcases h2 ((d.val : Int) / 2 ^ k) with e | e
  · rw [e, if_neg (by decide)]
  · rw [e, if_pos rfl]
def bsm (x : Int) : Nat → Nat → Int
  | 0, _ => 0
  | m + 1, k => x / 2 ^ k % 2 + bsm x m (k + 1)
theorem bsmF : ∀ x : Fin 64, bsm (x.val : Int) 16 0 = bcn (x.val : Int) := by decide +kernel
theorem ones_l {x : Int} {h : yH} (hx : 0 ≤ x ∧ x ≤ 63) : ∀ (m k n : Nat) (a : Int), m + k = 16 → m < n → 0 ≤ a ∧ a ≤ k → xl_X12_ones n 4 [x, a, (k : Int)] h = some (a + bsm x m k, h) := by
  intro m
  induction m with
  | zero =>
    intro k n a e1 e2 e3
    obtain ⟨n, rfl⟩ : ∃ n', n = n' + 1 := ⟨n - 1, by omega⟩
    rw [e_X12_ones_4, if_neg (by omega)]
    show _ = some (a + 0, h)
    rw [Int.add_zero]
  | succ m ih =>
    intro k n a e1 e2 e3
    obtain ⟨n, rfl⟩ : ∃ n', n = n' + 1 := ⟨n - 1, by omega⟩
    rw [e_X12_ones_4, if_pos (by omega), isIn_e hx (by omega), xb_some]
    show _ = some (a + (x / 2 ^ k % 2 + bsm x m (k + 1)), h)
    have h2 : ∀ z : Int, z % 2 = 0 ∨ z % 2 = 1 := fun z => by omega
    rcases h2 (x / 2 ^ k) with e | e
    · rw [e, if_pos rfl, xg_pos (by omega), xg_pos (by omega), show (k : Int) + 1 = ((k + 1 : Nat) : Int) by omega, ih (k + 1) n _ (by omega) (by omega) (by omega)]
      congr 2
      omega
    · rw [e, if_neg (by decide), xg_pos (by omega), xg_pos (by omega), show (k : Int) + 1 = ((k + 1 : Nat) : Int) by omega, ih (k + 1) n _ (by omega) (by omega) (by omega)]
      congr 2
      omega
theorem bcn_b {x : Int} : 0 ≤ bcn x ∧ bcn x ≤ 6 := by
  unfold bcn
  omega
theorem ones_e {n : Nat} {x : Int} {h : yH} (hn : 17 ≤ n) (hx : 0 ≤ x ∧ x ≤ 63) : f_X12_ones n [x] h = some (bcn x, h) := by
  rw [e_X12_ones]
  have := ones_l (h := h) hx 16 0 n 0 rfl (by omega) (by omega)
  rw [show ((0 : Nat) : Int) = 0 from rfl] at this
  rw [this, Int.zero_add]
  have q := bsmF ⟨x.toNat, by omega⟩
  simp only at q
  rw [show ((x.toNat : Nat) : Int) = x by omega] at q
  rw [q]
end
section
/-! who hears whom -/
def hq (u : Nat → Int) (fr vo : Int) (a i : Nat) : Bool := decide (i ≠ a) && (decide (yari 7 (yari 6 (u 49) (i : Int)) 1 = 0) && decide (cst (u 0) (u 2) (u 3) fr (u (31 + 3 * i)) ≤ vo))
theorem hq_t {u : Nat → Int} {fr vo : Int} {a i : Nat} (h1 : i ≠ a) (h2 : yari 7 (yari 6 (u 49) (i : Int)) 1 = 0) (h3 : cst (u 0) (u 2) (u 3) fr (u (31 + 3 * i)) ≤ vo) : hq u fr vo a i = true := by
  unfold hq
  rw [decide_eq_true h1, decide_eq_true h2, decide_eq_true h3]
  rfl
theorem hq_f {u : Nat → Int} {fr vo : Int} {a i : Nat} (h : ¬ (i ≠ a ∧ yari 7 (yari 6 (u 49) (i : Int)) 1 = 0 ∧ cst (u 0) (u 2) (u 3) fr (u (31 + 3 * i)) ≤ vo)) : hq u fr vo a i = false := by
  cases e : hq u fr vo a i with
  | false => rfl
  | true =>
    unfold hq at e
    simp only [Bool.and_eq_true, decide_eq_true_eq] at e
    exact absurd e h
def hst (u : Nat → Int) (fr vo : Int) (a : Nat) : Nat → Int
  | 0 => 0
  | k + 1 => if hq u fr vo a k = true then yari 8 (hst u fr vo a k) (yari 5 1 (k : Int)) else hst u fr vo a k
theorem hst_t {u : Nat → Int} {fr vo : Int} {a k : Nat} (h : hq u fr vo a k = true) : hst u fr vo a (k + 1) = yari 8 (hst u fr vo a k) (yari 5 1 (k : Int)) := if_pos h
theorem hst_f {u : Nat → Int} {fr vo : Int} {a k : Nat} (h : hq u fr vo a k = false) : hst u fr vo a (k + 1) = hst u fr vo a k := if_neg (by rw [h]; decide)
theorem hst_b {u : Nat → Int} {fr vo : Int} {a : Nat} : ∀ k, k ≤ 6 → 0 ≤ hst u fr vo a k ∧ hst u fr vo a k ≤ 63 := by
  intro k
  induction k with
  | zero => intro _; exact ⟨Int.le_refl _, (by decide : (0 : Int) ≤ 63)⟩
  | succ k ih =>
    intro hk
    have := ih (by omega)
    cases e : hq u fr vo a k with
    | false => rw [hst_f e]; exact this
    | true => rw [hst_t e]; exact or6 this (by omega)
/-- all who hear a -/
def hrs (u : Nat → Int) (a : Nat) : Int := hst u (u (31 + 3 * a)) (u (32 + 3 * a)) a (u 6).toNat
theorem hrs_b {u : Nat → Int} {a : Nat} (hW : tW0 u) : 0 ≤ hrs u a ∧ hrs u a ≤ 63 := hst_b _ (by have := hW.2.2.2.2.2.2.1; omega)
theorem tW0.wd {u : Nat → Int} (h : tW0 u) : (1 ≤ u 0 ∧ u 0 ≤ 8) ∧ (1 ≤ u 1 ∧ u 1 ≤ 8) ∧ (0 ≤ u 2 ∧ u 2 ≤ 3) ∧ (0 ≤ u 3 ∧ u 3 ≤ 3) ∧ 0 ≤ u 6 ∧ u 6 ≤ 6 := by
  obtain ⟨h0, h1, h2, h3, h4, h5, h6, -⟩ := h
  omega
theorem tW0.bt {u : Nat → Int} (h : tW0 u) {b : Nat} (hb : b < 6) : (0 ≤ u (31 + 3 * b) ∧ u (31 + 3 * b) ≤ 63) ∧ (0 ≤ u (32 + 3 * b) ∧ u (32 + 3 * b) ≤ 20) ∧ 0 ≤ u (33 + 3 * b) ∧ u (33 + 3 * b) ≤ 2 := h.2.2.2.2.2.2.2.2.2.2 b hb
theorem hearers_l {b a : Nat} {fr vo : Int} {u : Nat → Int} {h : yH} (hS : cS b u h) (hW : tW0 u) (hfr : 0 ≤ fr ∧ fr ≤ 63) : ∀ (m k n : Nat), 7 - k = m → (k : Int) ≤ u 6 → m ≤ n → xl_X6_hearers_t n 6 [(b : Int), (a : Int), fr, vo, ((b + 5 : Nat) : Int), hst u fr vo a k, (k : Int)] h = some (hst u fr vo a (u 6).toNat, h) := by
  obtain ⟨w0, w1, w2, w3, w6⟩ := hW.wd
  obtain ⟨a0, a1, a2, a3, a4, a5, a6, a7, a8, a9, a10⟩ := id hS
  intro m
  induction m with
  | zero => intro k n e1 e2; omega
  | succ m ih =>
    intro k n e1 e2 e3
    obtain ⟨n, rfl⟩ : ∃ n', n = n' + 1 := ⟨n - 1, by omega⟩
    rw [e_X6_hearers_t_6, Int.toNat_natCast, a6, a7]
    by_cases c : (k : Int) < u 6
    · have nx := ih (k + 1) n (by omega) (by omega) (by omega)
      have wb := hW.bt (b := k) (by omega)
      rw [if_pos c]
      by_cases c1 : (k : Int) = (a : Int)
      · rw [if_pos c1, e_X6_hearers_t_38, if_pos rfl, xg_pos (by omega), show (k : Int) + 1 = ((k + 1 : Nat) : Int) by omega]
        rw [hst_f (hq_f (fun q => q.1 (by omega)))] at nx
        exact nx
      · rw [if_neg c1]
        by_cases c2 : yari 7 (yari 6 (u 49) (k : Int)) 1 = 0
        · rw [if_pos c2, e_X6_hearers_t_38, if_neg (by decide), xg_pos (by omega), Int.toNat_natCast, Int.toNat_natCast, (a10 k c).1, cost_e a0 a2 a3 w0 w3 hfr wb.1, xb_some]
          by_cases c3 : vo < cst (u 0) (u 2) (u 3) fr (u (31 + 3 * k))
          · rw [if_pos c3, xg_pos (by omega), show (k : Int) + 1 = ((k + 1 : Nat) : Int) by omega]
            rw [hst_f (hq_f (fun q => by have := q.2.2; omega))] at nx
            exact nx
          · rw [if_neg c3, xg_pos (by omega), show (k : Int) + 1 = ((k + 1 : Nat) : Int) by omega]
            rw [hst_t (hq_t (fun q => c1 (by omega)) c2 (by omega))] at nx
            exact nx
        · rw [if_neg c2, e_X6_hearers_t_38, if_pos rfl, xg_pos (by omega), show (k : Int) + 1 = ((k + 1 : Nat) : Int) by omega]
          rw [hst_f (hq_f (fun q => c2 q.2.1))] at nx
          exact nx
    · rw [if_neg c, show (u 6).toNat = k by omega]
theorem hearers_e {b a n : Nat} {fr vo : Int} {u : Nat → Int} {h : yH} (hn : 7 ≤ n) (hS : cS b u h) (hW : tW0 u) (hfr : 0 ≤ fr ∧ fr ≤ 63) : f_X6_hearers_t n [(b : Int), (a : Int), fr, vo, ((b + 5 : Nat) : Int)] h = some (hst u fr vo a (u 6).toNat, h) := by
  rw [e_X6_hearers_t]
  exact hearers_l hS hW hfr 7 0 n rfl (hW.wd).2.2.2.2.1 hn
theorem asTold_e {b a n : Nat} {u : Nat → Int} {h : yH} (hn : 7 ≤ n) (hS : cS b u h) (hp : cSp b h) (hW : tW0 u) (ha : (a : Int) < u 6) : f_X6_hearersAsTold n [(b : Int), (a : Int)] h = some (hrs u a, h) := by
  have w := hW.wd
  have wb := hW.bt (b := a) (by omega)
  have q := hS.2.2.2.2.2.2.2.2.2.2 a ha
  rw [e_X6_hearersAsTold, Int.toNat_natCast, Int.toNat_natCast, show ((b : Int) + 5) = ((b + 5 : Nat) : Int) by omega, show ((b : Int) + 6) = ((b + 6 : Nat) : Int) by omega, Int.toNat_natCast, Int.toNat_natCast, xg_pos (by rw [hp.2.2.2.2.1]; omega), xg_pos (by omega), xg_pos (by rw [hp.2.2.2.2.2.1]; omega), xg_pos (by omega), xg_pos (by rw [hp.2.2.2.2.1]; omega), q.1, q.2.1, hearers_e hn hS hW wb.1, xb_some]
  rfl
/-! the reference: what it has in hand, maybe with another wind, another voice -/
def hv (s : Nat) (t u : Nat → Int) (g : yH) : Prop := sH s t g ∧ u 49 = t 49 ∧ g 35 24 = u 0 ∧ g 35 25 = u 1 ∧ g 35 26 = u 2 ∧ g 35 27 = u 3 ∧ g 35 28 = u 6 ∧ ∀ i : Nat, (i : Int) < u 6 → g 10 i = u (31 + 3 * i) ∧ g 11 i = u (32 + 3 * i)
theorem hdR.v {s : Nat} {t : Nat → Int} {g g2 : yH} (H : hdR s t g g2) : hv s t t g2 := ⟨H.1, rfl, H.2.1.1, H.2.1.2.1, H.2.1.2.2.1, H.2.1.2.2.2.1, H.2.1.2.2.2.2.2, H.2.2.1⟩
theorem hearsIt_e {n s a k : Nat} {t u : Nat → Int} {g : yH} (hn : 5 ≤ n) (H : hv s t u g) (hW : tW0 u) (ha : (a : Int) < u 6) (hk : (k : Int) < u 6) : f_X12_hearsIt n [35, (k : Int), (a : Int)] g = some (if hq u (u (31 + 3 * a)) (u (32 + 3 * a)) a k = true then 1 else 0, g) := by
  obtain ⟨h1, h49, p0, p1, p2, p3, p6, pb⟩ := id H
  obtain ⟨w0, w1, w2, w3, w6⟩ := hW.wd
  have wa := hW.bt (b := a) (by omega)
  have wk := hW.bt (b := k) (by omega)
  rw [e_X12_hearsIt]
  by_cases c1 : (a : Int) = (k : Int)
  · rw [if_pos c1, hq_f (fun q => q.1 (by omega))]
    rfl
  · rw [if_neg c1, of_e (x := 49) h1 (k := 49) rfl (by omega), xb_some, e_X12_isIn, ← h49]
    rcases bit_01 (yari 6 (u 49) (k : Int)) with e | e
    · rw [e, if_neg (by decide), xb_some, if_pos rfl, xg_pos (h1.2.2.2.p (j := 30) (k := 10) (by decide)), xg_pos (by omega), xg_pos (h1.2.2.2.p (j := 30) (k := 10) (by decide)), xg_pos (by omega), Int.toNat_natCast, Int.toNat_natCast, (pb a ha).1, (pb k hk).1, costOf_e hn p0 p2 p3 w0 w2 w3 wa.1 wk.1, xb_some, xg_pos (h1.2.2.2.p (j := 31) (k := 11) (by decide)), xg_pos (by omega), (pb a ha).2]
      by_cases c3 : u (32 + 3 * a) < cst (u 0) (u 2) (u 3) (u (31 + 3 * a)) (u (31 + 3 * k))
      · rw [if_pos c3, hq_f (fun q => by have := q.2.2; omega)]
        rfl
      · rw [if_neg c3, hq_t (fun q => c1 (by omega)) e (by omega)]
        rfl
    · rw [e, if_pos rfl, xb_some, if_neg (by decide), hq_f (fun q => by have := q.2.1; omega)]
      rfl
theorem hearersOf_l {s a : Nat} {t u : Nat → Int} {g : yH} (H : hv s t u g) (hW : tW0 u) (ha : (a : Int) < u 6) : ∀ (m k n : Nat), 7 - k = m → (k : Int) ≤ u 6 → m + 5 ≤ n → xl_X12_hearersOf n 4 [35, (a : Int), hst u (u (31 + 3 * a)) (u (32 + 3 * a)) a k, (k : Int)] g = some (hrs u a, g) := by
  obtain ⟨w0, w1, w2, w3, w6⟩ := hW.wd
  intro m
  induction m with
  | zero => intro k n e1 e2; omega
  | succ m ih =>
    intro k n e1 e2 e3
    obtain ⟨n, rfl⟩ : ∃ n', n = n' + 1 := ⟨n - 1, by omega⟩
    rw [e_X12_hearersOf_4, H.2.2.2.2.2.2.1]
    by_cases c : (k : Int) < u 6
    · have nx := ih (k + 1) n (by omega) (by omega) (by omega)
      have hb := hst_b (u := u) (fr := u (31 + 3 * a)) (vo := u (32 + 3 * a)) (a := a) k (by omega)
      rw [if_pos c, hearsIt_e (by omega) H hW ha c, xb_some]
      cases e : hq u (u (31 + 3 * a)) (u (32 + 3 * a)) a k with
      | false =>
        rw [if_pos (by decide), xg_pos (by omega), or0 hb, show (k : Int) + 1 = ((k + 1 : Nat) : Int) by omega]
        rw [hst_f e] at nx
        exact nx
      | true =>
        rw [if_neg (by decide), xg_pos (by omega), show (k : Int) + 1 = ((k + 1 : Nat) : Int) by omega]
        rw [hst_t e] at nx
        exact nx
    · rw [if_neg c]
      unfold hrs
      rw [show (u 6).toNat = k by omega]
theorem hearersOf_e {n s a : Nat} {t u : Nat → Int} {g : yH} (hn : 12 ≤ n) (H : hv s t u g) (hW : tW0 u) (ha : (a : Int) < u 6) : f_X12_hearersOf n [35, (a : Int)] g = some (hrs u a, g) := by
  rw [e_X12_hearersOf]
  exact hearersOf_l H hW ha 7 0 n rfl (hW.wd).2.2.2.2.1 hn
end
