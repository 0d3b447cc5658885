section
/-! the reference as functions: told over, images -/
set_option maxRecDepth 100000 in
theorem yq_X12_copyRow : tables_1_8[153]? = some (.code yX12_copyRow cX12_copyRow 5 none) := rfl
theorem yw_X12_copyRow : zMS yX12_copyRow cX12_copyRow 5 none 4 := ⟨⟨zTi_1 13 (by decide +kernel) rfl, zTi_8 153 yq_X12_copyRow rfl, ⟨by decide, by decide⟩, by decide +kernel⟩, zTi_8 152 (by decide +kernel) rfl⟩
theorem yt_X12_copyRow_3 : decode cX12_copyRow 3 = .ok (.iload 4, 2) := by decide +kernel
theorem yt_X12_copyRow_5 : decode cX12_copyRow 5 = .ok (.iload_n 1, 1) := by decide +kernel
theorem yt_X12_copyRow_6 : decode cX12_copyRow 6 = .ok (.if_icmp .ge 25, 3) := by decide +kernel
theorem yt_X12_copyRow_31 : decode cX12_copyRow 31 = .ok (.return_, 1) := by decide +kernel
theorem yt_X12_copyRow_9 : decode cX12_copyRow 9 = .ok (.aload_n 0, 1) := by decide +kernel
theorem yt_X12_copyRow_10 : decode cX12_copyRow 10 = .ok (.iload_n 1, 1) := by decide +kernel
theorem yt_X12_copyRow_11 : decode cX12_copyRow 11 = .ok (.iload_n 3, 1) := by decide +kernel
theorem yt_X12_copyRow_12 : decode cX12_copyRow 12 = .ok (.imul, 1) := by decide +kernel
theorem yt_X12_copyRow_13 : decode cX12_copyRow 13 = .ok (.iload 4, 2) := by decide +kernel
theorem yt_X12_copyRow_15 : decode cX12_copyRow 15 = .ok (.iadd, 1) := by decide +kernel
theorem yt_X12_copyRow_16 : decode cX12_copyRow 16 = .ok (.aload_n 0, 1) := by decide +kernel
theorem yt_X12_copyRow_17 : decode cX12_copyRow 17 = .ok (.iload_n 1, 1) := by decide +kernel
theorem yt_X12_copyRow_18 : decode cX12_copyRow 18 = .ok (.iload_n 2, 1) := by decide +kernel
theorem yt_X12_copyRow_19 : decode cX12_copyRow 19 = .ok (.imul, 1) := by decide +kernel
theorem yt_X12_copyRow_20 : decode cX12_copyRow 20 = .ok (.iload 4, 2) := by decide +kernel
theorem yt_X12_copyRow_22 : decode cX12_copyRow 22 = .ok (.iadd, 1) := by decide +kernel
theorem yt_X12_copyRow_23 : decode cX12_copyRow 23 = .ok (.iaload, 1) := by decide +kernel
theorem yt_X12_copyRow_24 : decode cX12_copyRow 24 = .ok (.iastore, 1) := by decide +kernel
theorem yt_X12_copyRow_25 : decode cX12_copyRow 25 = .ok (.iinc 4 1, 3) := by decide +kernel
theorem yt_X12_copyRow_28 : decode cX12_copyRow 28 = .ok (.goto (-25), 3) := by decide +kernel
def xq_X12_copyRow_1_3 (n : Nat) (K : Nat → yK) : yK := xE [(0, 100003), (1, 0), (2, 0), (3, 0), (4, 0)] [] (xLd 4 0 (xLd 1 0 (xLt (xLd 0 100003 (xLd 1 0 (xLd 3 0 (xMul (xLd 4 0 (xAdd (xLd 0 100003 (xLd 1 0 (xLd 2 0 (xMul (xLd 4 0 (xAdd (xAld 1 4 (xAst 1 4 (fun _ => 0) (fun _ => 600) (xInc 4 1 (xJ [(0, 100003), (1, 0), (2, 0), (3, 0), (4, 0)] [] (K 3))))))))))))))))) xRv)))
theorem s_X12_copyRow_1_3 {η : zRn} {D : va_G} {cy : Nat → ClassId} {L : List Nat} {Θ : Nat → Option Nat} {p : Program} {l : Launch} {e : Env} {R : Room} {s : State} {m : MethodId} {args : Array Value} {below : List Frame} {meth : Method} {c : Code} {Q : State → Prop} {Qr : yQt} {n : Nat} {K : Nat → yK} (Z : yCz η zkdm D vwCl cy L Θ 5 p l e R s m args below meth c Q cX12_copyRow (tyW cy) RX12 zTW zKPr tyW none 0 0 Qr) (hI3 : yGo η zkdm D vwCl cy L Θ 5 p l e R s m args below meth c Q 3 (xw Qr 0 (xJ [(0, 100003), (1, 0), (2, 0), (3, 0), (4, 0)] [] (K 3)))) : yGo η zkdm D vwCl cy L Θ 5 p l e R s m args below meth c Q 3 (xw Qr 0 (xJ [(0, 100003), (1, 0), (2, 0), (3, 0), (4, 0)] [] (xq_X12_copyRow_1_3 n K))) := xr_E (yr_mono x_ld (yr_iload Z.1 yt_X12_copyRow_3 (yr_mono x_ld (yr_iload_n Z.1 rfl yt_X12_copyRow_5 (yr_mono x_lt (yr_ge Z.1 yt_X12_copyRow_6 (by decide) (yr_mono x_rv (yr_rv Z rfl yt_X12_copyRow_31)) (yr_mono x_ld (yr_aload_n Z.1 rfl (by decide) yt_X12_copyRow_9 (yr_mono x_ld (yr_iload_n Z.1 rfl yt_X12_copyRow_10 (yr_mono x_ld (yr_iload_n Z.1 rfl yt_X12_copyRow_11 (yr_mono x_mul (yr_mul Z.1 yt_X12_copyRow_12 (yr_mono x_ld (yr_iload Z.1 yt_X12_copyRow_13 (yr_mono x_add (yr_add Z.1 yt_X12_copyRow_15 (yr_mono x_ld (yr_aload_n Z.1 rfl (by decide) yt_X12_copyRow_16 (yr_mono x_ld (yr_iload_n Z.1 rfl yt_X12_copyRow_17 (yr_mono x_ld (yr_iload_n Z.1 rfl yt_X12_copyRow_18 (yr_mono x_mul (yr_mul Z.1 yt_X12_copyRow_19 (yr_mono x_ld (yr_iload Z.1 yt_X12_copyRow_20 (yr_mono x_add (yr_add Z.1 yt_X12_copyRow_22 (yr_mono x_ald (yr_iald (lo := 0) (hi := 600) Z.1 (by decide +kernel) yt_X12_copyRow_23 (yr_mono x_ast (yr_iast (lo := 0) (hi := 600) Z.1 (by decide +kernel) yt_X12_copyRow_24 (yr_mono x_inc (yr_inc Z.1 (by decide) (by decide) yt_X12_copyRow_25 (yr_goto Z.1 yt_X12_copyRow_28 (by decide) hI3)))))))))))))))))))))))))))))))))))))
def xl_X12_copyRow_1 : Nat → Nat → yK
  | 0, _ => fun _ _ => none
  | n + 1, pc => (cond (Nat.beq pc 3) (xq_X12_copyRow_1_3 n (xl_X12_copyRow_1 n)) (fun _ _ => none))
theorem l_X12_copyRow_1 {η : zRn} {D : va_G} {cy : Nat → ClassId} {L : List Nat} {Θ : Nat → Option Nat} {p : Program} {l : Launch} {e : Env} {R : Room} {s : State} {m : MethodId} {args : Array Value} {below : List Frame} {meth : Method} {c : Code} {Q : State → Prop} {Qr : yQt} (Z : yCz η zkdm D vwCl cy L Θ 5 p l e R s m args below meth c Q cX12_copyRow (tyW cy) RX12 zTW zKPr tyW none 0 0 Qr) : ∀ n, yGo η zkdm D vwCl cy L Θ 5 p l e R s m args below meth c Q 3 (xw Qr 0 (xJ [(0, 100003), (1, 0), (2, 0), (3, 0), (4, 0)] [] (xl_X12_copyRow_1 n 3))) := fun n => by
  induction n with
  | zero => exact xr_J0
  | succ n ih => exact s_X12_copyRow_1_3 (n := n) (K := xl_X12_copyRow_1 n) Z ih
theorem yt_X12_copyRow_0 : decode cX12_copyRow 0 = .ok (.iconst 0, 1) := by decide +kernel
theorem yt_X12_copyRow_1 : decode cX12_copyRow 1 = .ok (.istore 4, 2) := by decide +kernel
def xp_X12_copyRow_1 (n : Nat) (K : Nat → yK) : yX := (xCst 0 0 (xSt 4 0 (xJ [(0, 100003), (1, 0), (2, 0), (3, 0), (4, 0)] [] (K 3))))
theorem s_X12_copyRow_1 {η : zRn} {D : va_G} {cy : Nat → ClassId} {L : List Nat} {Θ : Nat → Option Nat} {p : Program} {l : Launch} {e : Env} {R : Room} {s : State} {m : MethodId} {args : Array Value} {below : List Frame} {meth : Method} {c : Code} {Q : State → Prop} {Qr : yQt} {n : Nat} {K : Nat → yK} (Z : yCz η zkdm D vwCl cy L Θ 5 p l e R s m args below meth c Q cX12_copyRow (tyW cy) RX12 zTW zKPr tyW none 0 0 Qr) (hI3 : yGo η zkdm D vwCl cy L Θ 5 p l e R s m args below meth c Q 3 (xw Qr 0 (xJ [(0, 100003), (1, 0), (2, 0), (3, 0), (4, 0)] [] (K 3)))) : yGo η zkdm D vwCl cy L Θ 5 p l e R s m args below meth c Q 0 (xw Qr 0 (xp_X12_copyRow_1 n K)) := (yr_mono x_cst (yr_iconst Z.1 yt_X12_copyRow_0 (by decide) (yr_mono x_st (yr_istore Z.1 (by decide) yt_X12_copyRow_1 hI3))))
def f_X12_copyRow_1 : yFn := fun n ys h => (fun n => xp_X12_copyRow_1 n (xl_X12_copyRow_1 n)) n (yar 0 ([100003, 0, 0, 0].zip ys)) [] h
theorem m_X12_copyRow_1 (l : Launch) : yMet zkdm vwCl zTW zKPr l (yX12_copyRow, cX12_copyRow, 5, none) 0 0 [100003, 0, 0, 0] (yF 0 f_X12_copyRow_1) := y_metF zkpr_ok zTW_good (yX12_copyRow, cX12_copyRow, 5, none) 0 0 [100003, 0, 0, 0] 0 (fun n => xp_X12_copyRow_1 n (xl_X12_copyRow_1 n)) (by decide +kernel) (by decide) (fun η D cy L Θ p e R s m args below meth c Q Qr n Z => s_X12_copyRow_1 (n := n) (K := xl_X12_copyRow_1 n) Z (l_X12_copyRow_1 Z n))
set_option maxRecDepth 100000 in
theorem e_X12_copyRow_1_3 {n : Nat} {x1 x2 x3 x4 : Int} {h : yH} : xl_X12_copyRow_1 (n + 1) 3 [1, x1, x2, x3, x4] h = if x4 < x1 then (xg (-2147483648 ≤ x1 * x3 ∧ x1 * x3 ≤ 2147483647) (xg (-2147483648 ≤ (x1 * x3) + x4 ∧ (x1 * x3) + x4 ≤ 2147483647) (xg (-2147483648 ≤ x1 * x2 ∧ x1 * x2 ≤ 2147483647) (xg (-2147483648 ≤ (x1 * x2) + x4 ∧ (x1 * x2) + x4 ≤ 2147483647) (xg (0 ≤ ((x1 * x2) + x4) ∧ ((x1 * x2) + x4) < 4) (xg (0 ≤ ((x1 * x3) + x4) ∧ ((x1 * x3) + x4) < 4) (xg (0 ≤ (h 1 ((x1 * x2) + x4).toNat) ∧ (h 1 ((x1 * x2) + x4).toNat) ≤ 600) (xg (-2147483648 ≤ x4 + 1 ∧ x4 + 1 ≤ 2147483647) (xl_X12_copyRow_1 n 3 [1, x1, x2, x3, (x4 + 1)] (zup h 1 ((x1 * x3) + x4).toNat (h 1 ((x1 * x2) + x4).toNat))))))))))) else (some (0, h)) := by rfl
set_option maxRecDepth 100000 in
theorem e_X12_copyRow_1 {n : Nat} {x1 x2 x3 : Int} {h : yH} : f_X12_copyRow_1 n [1, x1, x2, x3] h = xl_X12_copyRow_1 n 3 [1, x1, x2, x3, 0] h := by rfl
def xq_X12_copyRow_2_3 (n : Nat) (K : Nat → yK) : yK := xE [(0, 100004), (1, 0), (2, 0), (3, 0), (4, 0)] [] (xLd 4 0 (xLd 1 0 (xLt (xLd 0 100004 (xLd 1 0 (xLd 3 0 (xMul (xLd 4 0 (xAdd (xLd 0 100004 (xLd 1 0 (xLd 2 0 (xMul (xLd 4 0 (xAdd (xAld 2 4 (xAst0 2 4 (xInc 4 1 (xJ [(0, 100004), (1, 0), (2, 0), (3, 0), (4, 0)] [] (K 3))))))))))))))))) xRv)))
theorem s_X12_copyRow_2_3 {η : zRn} {D : va_G} {cy : Nat → ClassId} {L : List Nat} {Θ : Nat → Option Nat} {p : Program} {l : Launch} {e : Env} {R : Room} {s : State} {m : MethodId} {args : Array Value} {below : List Frame} {meth : Method} {c : Code} {Q : State → Prop} {Qr : yQt} {n : Nat} {K : Nat → yK} (Z : yCz η zkdm D vwCl cy L Θ 5 p l e R s m args below meth c Q cX12_copyRow (tyW cy) RX12 zTW zKPr tyW none 0 0 Qr) (hI3 : yGo η zkdm D vwCl cy L Θ 5 p l e R s m args below meth c Q 3 (xw Qr 0 (xJ [(0, 100004), (1, 0), (2, 0), (3, 0), (4, 0)] [] (K 3)))) : yGo η zkdm D vwCl cy L Θ 5 p l e R s m args below meth c Q 3 (xw Qr 0 (xJ [(0, 100004), (1, 0), (2, 0), (3, 0), (4, 0)] [] (xq_X12_copyRow_2_3 n K))) := xr_E (yr_mono x_ld (yr_iload Z.1 yt_X12_copyRow_3 (yr_mono x_ld (yr_iload_n Z.1 rfl yt_X12_copyRow_5 (yr_mono x_lt (yr_ge Z.1 yt_X12_copyRow_6 (by decide) (yr_mono x_rv (yr_rv Z rfl yt_X12_copyRow_31)) (yr_mono x_ld (yr_aload_n Z.1 rfl (by decide) yt_X12_copyRow_9 (yr_mono x_ld (yr_iload_n Z.1 rfl yt_X12_copyRow_10 (yr_mono x_ld (yr_iload_n Z.1 rfl yt_X12_copyRow_11 (yr_mono x_mul (yr_mul Z.1 yt_X12_copyRow_12 (yr_mono x_ld (yr_iload Z.1 yt_X12_copyRow_13 (yr_mono x_add (yr_add Z.1 yt_X12_copyRow_15 (yr_mono x_ld (yr_aload_n Z.1 rfl (by decide) yt_X12_copyRow_16 (yr_mono x_ld (yr_iload_n Z.1 rfl yt_X12_copyRow_17 (yr_mono x_ld (yr_iload_n Z.1 rfl yt_X12_copyRow_18 (yr_mono x_mul (yr_mul Z.1 yt_X12_copyRow_19 (yr_mono x_ld (yr_iload Z.1 yt_X12_copyRow_20 (yr_mono x_add (yr_add Z.1 yt_X12_copyRow_22 (yr_mono x_ald (yr_iald (lo := (-2147483648)) (hi := 2147483647) Z.1 (by decide +kernel) yt_X12_copyRow_23 (xr_ast0 (yr_iast (lo := (-2147483648)) (hi := 2147483647) Z.1 (by decide +kernel) yt_X12_copyRow_24 (yr_mono x_inc (yr_inc Z.1 (by decide) (by decide) yt_X12_copyRow_25 (yr_goto Z.1 yt_X12_copyRow_28 (by decide) hI3)))))))))))))))))))))))))))))))))))))
def xl_X12_copyRow_2 : Nat → Nat → yK
  | 0, _ => fun _ _ => none
  | n + 1, pc => (cond (Nat.beq pc 3) (xq_X12_copyRow_2_3 n (xl_X12_copyRow_2 n)) (fun _ _ => none))
theorem l_X12_copyRow_2 {η : zRn} {D : va_G} {cy : Nat → ClassId} {L : List Nat} {Θ : Nat → Option Nat} {p : Program} {l : Launch} {e : Env} {R : Room} {s : State} {m : MethodId} {args : Array Value} {below : List Frame} {meth : Method} {c : Code} {Q : State → Prop} {Qr : yQt} (Z : yCz η zkdm D vwCl cy L Θ 5 p l e R s m args below meth c Q cX12_copyRow (tyW cy) RX12 zTW zKPr tyW none 0 0 Qr) : ∀ n, yGo η zkdm D vwCl cy L Θ 5 p l e R s m args below meth c Q 3 (xw Qr 0 (xJ [(0, 100004), (1, 0), (2, 0), (3, 0), (4, 0)] [] (xl_X12_copyRow_2 n 3))) := fun n => by
  induction n with
  | zero => exact xr_J0
  | succ n ih => exact s_X12_copyRow_2_3 (n := n) (K := xl_X12_copyRow_2 n) Z ih
def xp_X12_copyRow_2 (n : Nat) (K : Nat → yK) : yX := (xCst 0 0 (xSt 4 0 (xJ [(0, 100004), (1, 0), (2, 0), (3, 0), (4, 0)] [] (K 3))))
theorem s_X12_copyRow_2 {η : zRn} {D : va_G} {cy : Nat → ClassId} {L : List Nat} {Θ : Nat → Option Nat} {p : Program} {l : Launch} {e : Env} {R : Room} {s : State} {m : MethodId} {args : Array Value} {below : List Frame} {meth : Method} {c : Code} {Q : State → Prop} {Qr : yQt} {n : Nat} {K : Nat → yK} (Z : yCz η zkdm D vwCl cy L Θ 5 p l e R s m args below meth c Q cX12_copyRow (tyW cy) RX12 zTW zKPr tyW none 0 0 Qr) (hI3 : yGo η zkdm D vwCl cy L Θ 5 p l e R s m args below meth c Q 3 (xw Qr 0 (xJ [(0, 100004), (1, 0), (2, 0), (3, 0), (4, 0)] [] (K 3)))) : yGo η zkdm D vwCl cy L Θ 5 p l e R s m args below meth c Q 0 (xw Qr 0 (xp_X12_copyRow_2 n K)) := (yr_mono x_cst (yr_iconst Z.1 yt_X12_copyRow_0 (by decide) (yr_mono x_st (yr_istore Z.1 (by decide) yt_X12_copyRow_1 hI3))))
def f_X12_copyRow_2 : yFn := fun n ys h => (fun n => xp_X12_copyRow_2 n (xl_X12_copyRow_2 n)) n (yar 0 ([100004, 0, 0, 0].zip ys)) [] h
theorem m_X12_copyRow_2 (l : Launch) : yMet zkdm vwCl zTW zKPr l (yX12_copyRow, cX12_copyRow, 5, none) 0 0 [100004, 0, 0, 0] (yF 0 f_X12_copyRow_2) := y_metF zkpr_ok zTW_good (yX12_copyRow, cX12_copyRow, 5, none) 0 0 [100004, 0, 0, 0] 0 (fun n => xp_X12_copyRow_2 n (xl_X12_copyRow_2 n)) (by decide +kernel) (by decide) (fun η D cy L Θ p e R s m args below meth c Q Qr n Z => s_X12_copyRow_2 (n := n) (K := xl_X12_copyRow_2 n) Z (l_X12_copyRow_2 Z n))
set_option maxRecDepth 100000 in
theorem e_X12_copyRow_2_3 {n : Nat} {x1 x2 x3 x4 : Int} {h : yH} : xl_X12_copyRow_2 (n + 1) 3 [2, x1, x2, x3, x4] h = if x4 < x1 then (xg (-2147483648 ≤ x1 * x3 ∧ x1 * x3 ≤ 2147483647) (xg (-2147483648 ≤ (x1 * x3) + x4 ∧ (x1 * x3) + x4 ≤ 2147483647) (xg (-2147483648 ≤ x1 * x2 ∧ x1 * x2 ≤ 2147483647) (xg (-2147483648 ≤ (x1 * x2) + x4 ∧ (x1 * x2) + x4 ≤ 2147483647) (xg (0 ≤ ((x1 * x2) + x4) ∧ ((x1 * x2) + x4) < 4) (xg (0 ≤ ((x1 * x3) + x4) ∧ ((x1 * x3) + x4) < 4) (xg (-2147483648 ≤ x4 + 1 ∧ x4 + 1 ≤ 2147483647) (xl_X12_copyRow_2 n 3 [2, x1, x2, x3, (x4 + 1)] (zup h 2 ((x1 * x3) + x4).toNat (h 2 ((x1 * x2) + x4).toNat)))))))))) else (some (0, h)) := by rfl
set_option maxRecDepth 100000 in
theorem e_X12_copyRow_2 {n : Nat} {x1 x2 x3 : Int} {h : yH} : f_X12_copyRow_2 n [2, x1, x2, x3] h = xl_X12_copyRow_2 n 3 [2, x1, x2, x3, 0] h := by rfl
def xq_X12_copyRow_3_3 (n : Nat) (K : Nat → yK) : yK := xE [(0, 100005), (1, 0), (2, 0), (3, 0), (4, 0)] [] (xLd 4 0 (xLd 1 0 (xLt (xLd 0 100005 (xLd 1 0 (xLd 3 0 (xMul (xLd 4 0 (xAdd (xLd 0 100005 (xLd 1 0 (xLd 2 0 (xMul (xLd 4 0 (xAdd (xAld 3 4 (xAst0 3 4 (xInc 4 1 (xJ [(0, 100005), (1, 0), (2, 0), (3, 0), (4, 0)] [] (K 3))))))))))))))))) xRv)))
theorem s_X12_copyRow_3_3 {η : zRn} {D : va_G} {cy : Nat → ClassId} {L : List Nat} {Θ : Nat → Option Nat} {p : Program} {l : Launch} {e : Env} {R : Room} {s : State} {m : MethodId} {args : Array Value} {below : List Frame} {meth : Method} {c : Code} {Q : State → Prop} {Qr : yQt} {n : Nat} {K : Nat → yK} (Z : yCz η zkdm D vwCl cy L Θ 5 p l e R s m args below meth c Q cX12_copyRow (tyW cy) RX12 zTW zKPr tyW none 0 0 Qr) (hI3 : yGo η zkdm D vwCl cy L Θ 5 p l e R s m args below meth c Q 3 (xw Qr 0 (xJ [(0, 100005), (1, 0), (2, 0), (3, 0), (4, 0)] [] (K 3)))) : yGo η zkdm D vwCl cy L Θ 5 p l e R s m args below meth c Q 3 (xw Qr 0 (xJ [(0, 100005), (1, 0), (2, 0), (3, 0), (4, 0)] [] (xq_X12_copyRow_3_3 n K))) := xr_E (yr_mono x_ld (yr_iload Z.1 yt_X12_copyRow_3 (yr_mono x_ld (yr_iload_n Z.1 rfl yt_X12_copyRow_5 (yr_mono x_lt (yr_ge Z.1 yt_X12_copyRow_6 (by decide) (yr_mono x_rv (yr_rv Z rfl yt_X12_copyRow_31)) (yr_mono x_ld (yr_aload_n Z.1 rfl (by decide) yt_X12_copyRow_9 (yr_mono x_ld (yr_iload_n Z.1 rfl yt_X12_copyRow_10 (yr_mono x_ld (yr_iload_n Z.1 rfl yt_X12_copyRow_11 (yr_mono x_mul (yr_mul Z.1 yt_X12_copyRow_12 (yr_mono x_ld (yr_iload Z.1 yt_X12_copyRow_13 (yr_mono x_add (yr_add Z.1 yt_X12_copyRow_15 (yr_mono x_ld (yr_aload_n Z.1 rfl (by decide) yt_X12_copyRow_16 (yr_mono x_ld (yr_iload_n Z.1 rfl yt_X12_copyRow_17 (yr_mono x_ld (yr_iload_n Z.1 rfl yt_X12_copyRow_18 (yr_mono x_mul (yr_mul Z.1 yt_X12_copyRow_19 (yr_mono x_ld (yr_iload Z.1 yt_X12_copyRow_20 (yr_mono x_add (yr_add Z.1 yt_X12_copyRow_22 (yr_mono x_ald (yr_iald (lo := (-2147483648)) (hi := 2147483647) Z.1 (by decide +kernel) yt_X12_copyRow_23 (xr_ast0 (yr_iast (lo := (-2147483648)) (hi := 2147483647) Z.1 (by decide +kernel) yt_X12_copyRow_24 (yr_mono x_inc (yr_inc Z.1 (by decide) (by decide) yt_X12_copyRow_25 (yr_goto Z.1 yt_X12_copyRow_28 (by decide) hI3)))))))))))))))))))))))))))))))))))))
def xl_X12_copyRow_3 : Nat → Nat → yK
  | 0, _ => fun _ _ => none
  | n + 1, pc => (cond (Nat.beq pc 3) (xq_X12_copyRow_3_3 n (xl_X12_copyRow_3 n)) (fun _ _ => none))
theorem l_X12_copyRow_3 {η : zRn} {D : va_G} {cy : Nat → ClassId} {L : List Nat} {Θ : Nat → Option Nat} {p : Program} {l : Launch} {e : Env} {R : Room} {s : State} {m : MethodId} {args : Array Value} {below : List Frame} {meth : Method} {c : Code} {Q : State → Prop} {Qr : yQt} (Z : yCz η zkdm D vwCl cy L Θ 5 p l e R s m args below meth c Q cX12_copyRow (tyW cy) RX12 zTW zKPr tyW none 0 0 Qr) : ∀ n, yGo η zkdm D vwCl cy L Θ 5 p l e R s m args below meth c Q 3 (xw Qr 0 (xJ [(0, 100005), (1, 0), (2, 0), (3, 0), (4, 0)] [] (xl_X12_copyRow_3 n 3))) := fun n => by
  induction n with
  | zero => exact xr_J0
  | succ n ih => exact s_X12_copyRow_3_3 (n := n) (K := xl_X12_copyRow_3 n) Z ih
def xp_X12_copyRow_3 (n : Nat) (K : Nat → yK) : yX := (xCst 0 0 (xSt 4 0 (xJ [(0, 100005), (1, 0), (2, 0), (3, 0), (4, 0)] [] (K 3))))
theorem s_X12_copyRow_3 {η : zRn} {D : va_G} {cy : Nat → ClassId} {L : List Nat} {Θ : Nat → Option Nat} {p : Program} {l : Launch} {e : Env} {R : Room} {s : State} {m : MethodId} {args : Array Value} {below : List Frame} {meth : Method} {c : Code} {Q : State → Prop} {Qr : yQt} {n : Nat} {K : Nat → yK} (Z : yCz η zkdm D vwCl cy L Θ 5 p l e R s m args below meth c Q cX12_copyRow (tyW cy) RX12 zTW zKPr tyW none 0 0 Qr) (hI3 : yGo η zkdm D vwCl cy L Θ 5 p l e R s m args below meth c Q 3 (xw Qr 0 (xJ [(0, 100005), (1, 0), (2, 0), (3, 0), (4, 0)] [] (K 3)))) : yGo η zkdm D vwCl cy L Θ 5 p l e R s m args below meth c Q 0 (xw Qr 0 (xp_X12_copyRow_3 n K)) := (yr_mono x_cst (yr_iconst Z.1 yt_X12_copyRow_0 (by decide) (yr_mono x_st (yr_istore Z.1 (by decide) yt_X12_copyRow_1 hI3))))
def f_X12_copyRow_3 : yFn := fun n ys h => (fun n => xp_X12_copyRow_3 n (xl_X12_copyRow_3 n)) n (yar 0 ([100005, 0, 0, 0].zip ys)) [] h
theorem m_X12_copyRow_3 (l : Launch) : yMet zkdm vwCl zTW zKPr l (yX12_copyRow, cX12_copyRow, 5, none) 0 0 [100005, 0, 0, 0] (yF 0 f_X12_copyRow_3) := y_metF zkpr_ok zTW_good (yX12_copyRow, cX12_copyRow, 5, none) 0 0 [100005, 0, 0, 0] 0 (fun n => xp_X12_copyRow_3 n (xl_X12_copyRow_3 n)) (by decide +kernel) (by decide) (fun η D cy L Θ p e R s m args below meth c Q Qr n Z => s_X12_copyRow_3 (n := n) (K := xl_X12_copyRow_3 n) Z (l_X12_copyRow_3 Z n))
set_option maxRecDepth 100000 in
theorem e_X12_copyRow_3_3 {n : Nat} {x1 x2 x3 x4 : Int} {h : yH} : xl_X12_copyRow_3 (n + 1) 3 [3, x1, x2, x3, x4] h = if x4 < x1 then (xg (-2147483648 ≤ x1 * x3 ∧ x1 * x3 ≤ 2147483647) (xg (-2147483648 ≤ (x1 * x3) + x4 ∧ (x1 * x3) + x4 ≤ 2147483647) (xg (-2147483648 ≤ x1 * x2 ∧ x1 * x2 ≤ 2147483647) (xg (-2147483648 ≤ (x1 * x2) + x4 ∧ (x1 * x2) + x4 ≤ 2147483647) (xg (0 ≤ ((x1 * x2) + x4) ∧ ((x1 * x2) + x4) < 4) (xg (0 ≤ ((x1 * x3) + x4) ∧ ((x1 * x3) + x4) < 4) (xg (-2147483648 ≤ x4 + 1 ∧ x4 + 1 ≤ 2147483647) (xl_X12_copyRow_3 n 3 [3, x1, x2, x3, (x4 + 1)] (zup h 3 ((x1 * x3) + x4).toNat (h 3 ((x1 * x2) + x4).toNat)))))))))) else (some (0, h)) := by rfl
set_option maxRecDepth 100000 in
theorem e_X12_copyRow_3 {n : Nat} {x1 x2 x3 : Int} {h : yH} : f_X12_copyRow_3 n [3, x1, x2, x3] h = xl_X12_copyRow_3 n 3 [3, x1, x2, x3, 0] h := by rfl
def xq_X12_copyRow_4_3 (n : Nat) (K : Nat → yK) : yK := xE [(0, 100006), (1, 0), (2, 0), (3, 0), (4, 0)] [] (xLd 4 0 (xLd 1 0 (xLt (xLd 0 100006 (xLd 1 0 (xLd 3 0 (xMul (xLd 4 0 (xAdd (xLd 0 100006 (xLd 1 0 (xLd 2 0 (xMul (xLd 4 0 (xAdd (xAld 4 12 (xAst 4 12 (fun _ => 0) (fun _ => 2) (xInc 4 1 (xJ [(0, 100006), (1, 0), (2, 0), (3, 0), (4, 0)] [] (K 3))))))))))))))))) xRv)))
theorem s_X12_copyRow_4_3 {η : zRn} {D : va_G} {cy : Nat → ClassId} {L : List Nat} {Θ : Nat → Option Nat} {p : Program} {l : Launch} {e : Env} {R : Room} {s : State} {m : MethodId} {args : Array Value} {below : List Frame} {meth : Method} {c : Code} {Q : State → Prop} {Qr : yQt} {n : Nat} {K : Nat → yK} (Z : yCz η zkdm D vwCl cy L Θ 5 p l e R s m args below meth c Q cX12_copyRow (tyW cy) RX12 zTW zKPr tyW none 0 0 Qr) (hI3 : yGo η zkdm D vwCl cy L Θ 5 p l e R s m args below meth c Q 3 (xw Qr 0 (xJ [(0, 100006), (1, 0), (2, 0), (3, 0), (4, 0)] [] (K 3)))) : yGo η zkdm D vwCl cy L Θ 5 p l e R s m args below meth c Q 3 (xw Qr 0 (xJ [(0, 100006), (1, 0), (2, 0), (3, 0), (4, 0)] [] (xq_X12_copyRow_4_3 n K))) := xr_E (yr_mono x_ld (yr_iload Z.1 yt_X12_copyRow_3 (yr_mono x_ld (yr_iload_n Z.1 rfl yt_X12_copyRow_5 (yr_mono x_lt (yr_ge Z.1 yt_X12_copyRow_6 (by decide) (yr_mono x_rv (yr_rv Z rfl yt_X12_copyRow_31)) (yr_mono x_ld (yr_aload_n Z.1 rfl (by decide) yt_X12_copyRow_9 (yr_mono x_ld (yr_iload_n Z.1 rfl yt_X12_copyRow_10 (yr_mono x_ld (yr_iload_n Z.1 rfl yt_X12_copyRow_11 (yr_mono x_mul (yr_mul Z.1 yt_X12_copyRow_12 (yr_mono x_ld (yr_iload Z.1 yt_X12_copyRow_13 (yr_mono x_add (yr_add Z.1 yt_X12_copyRow_15 (yr_mono x_ld (yr_aload_n Z.1 rfl (by decide) yt_X12_copyRow_16 (yr_mono x_ld (yr_iload_n Z.1 rfl yt_X12_copyRow_17 (yr_mono x_ld (yr_iload_n Z.1 rfl yt_X12_copyRow_18 (yr_mono x_mul (yr_mul Z.1 yt_X12_copyRow_19 (yr_mono x_ld (yr_iload Z.1 yt_X12_copyRow_20 (yr_mono x_add (yr_add Z.1 yt_X12_copyRow_22 (yr_mono x_ald (yr_iald (lo := 0) (hi := 2) Z.1 (by decide +kernel) yt_X12_copyRow_23 (yr_mono x_ast (yr_iast (lo := 0) (hi := 2) Z.1 (by decide +kernel) yt_X12_copyRow_24 (yr_mono x_inc (yr_inc Z.1 (by decide) (by decide) yt_X12_copyRow_25 (yr_goto Z.1 yt_X12_copyRow_28 (by decide) hI3)))))))))))))))))))))))))))))))))))))
def xl_X12_copyRow_4 : Nat → Nat → yK
  | 0, _ => fun _ _ => none
  | n + 1, pc => (cond (Nat.beq pc 3) (xq_X12_copyRow_4_3 n (xl_X12_copyRow_4 n)) (fun _ _ => none))
theorem l_X12_copyRow_4 {η : zRn} {D : va_G} {cy : Nat → ClassId} {L : List Nat} {Θ : Nat → Option Nat} {p : Program} {l : Launch} {e : Env} {R : Room} {s : State} {m : MethodId} {args : Array Value} {below : List Frame} {meth : Method} {c : Code} {Q : State → Prop} {Qr : yQt} (Z : yCz η zkdm D vwCl cy L Θ 5 p l e R s m args below meth c Q cX12_copyRow (tyW cy) RX12 zTW zKPr tyW none 0 0 Qr) : ∀ n, yGo η zkdm D vwCl cy L Θ 5 p l e R s m args below meth c Q 3 (xw Qr 0 (xJ [(0, 100006), (1, 0), (2, 0), (3, 0), (4, 0)] [] (xl_X12_copyRow_4 n 3))) := fun n => by
  induction n with
  | zero => exact xr_J0
  | succ n ih => exact s_X12_copyRow_4_3 (n := n) (K := xl_X12_copyRow_4 n) Z ih
def xp_X12_copyRow_4 (n : Nat) (K : Nat → yK) : yX := (xCst 0 0 (xSt 4 0 (xJ [(0, 100006), (1, 0), (2, 0), (3, 0), (4, 0)] [] (K 3))))
theorem s_X12_copyRow_4 {η : zRn} {D : va_G} {cy : Nat → ClassId} {L : List Nat} {Θ : Nat → Option Nat} {p : Program} {l : Launch} {e : Env} {R : Room} {s : State} {m : MethodId} {args : Array Value} {below : List Frame} {meth : Method} {c : Code} {Q : State → Prop} {Qr : yQt} {n : Nat} {K : Nat → yK} (Z : yCz η zkdm D vwCl cy L Θ 5 p l e R s m args below meth c Q cX12_copyRow (tyW cy) RX12 zTW zKPr tyW none 0 0 Qr) (hI3 : yGo η zkdm D vwCl cy L Θ 5 p l e R s m args below meth c Q 3 (xw Qr 0 (xJ [(0, 100006), (1, 0), (2, 0), (3, 0), (4, 0)] [] (K 3)))) : yGo η zkdm D vwCl cy L Θ 5 p l e R s m args below meth c Q 0 (xw Qr 0 (xp_X12_copyRow_4 n K)) := (yr_mono x_cst (yr_iconst Z.1 yt_X12_copyRow_0 (by decide) (yr_mono x_st (yr_istore Z.1 (by decide) yt_X12_copyRow_1 hI3))))
def f_X12_copyRow_4 : yFn := fun n ys h => (fun n => xp_X12_copyRow_4 n (xl_X12_copyRow_4 n)) n (yar 0 ([100006, 0, 0, 0].zip ys)) [] h
theorem m_X12_copyRow_4 (l : Launch) : yMet zkdm vwCl zTW zKPr l (yX12_copyRow, cX12_copyRow, 5, none) 0 0 [100006, 0, 0, 0] (yF 0 f_X12_copyRow_4) := y_metF zkpr_ok zTW_good (yX12_copyRow, cX12_copyRow, 5, none) 0 0 [100006, 0, 0, 0] 0 (fun n => xp_X12_copyRow_4 n (xl_X12_copyRow_4 n)) (by decide +kernel) (by decide) (fun η D cy L Θ p e R s m args below meth c Q Qr n Z => s_X12_copyRow_4 (n := n) (K := xl_X12_copyRow_4 n) Z (l_X12_copyRow_4 Z n))
set_option maxRecDepth 100000 in
theorem e_X12_copyRow_4_3 {n : Nat} {x1 x2 x3 x4 : Int} {h : yH} : xl_X12_copyRow_4 (n + 1) 3 [4, x1, x2, x3, x4] h = if x4 < x1 then (xg (-2147483648 ≤ x1 * x3 ∧ x1 * x3 ≤ 2147483647) (xg (-2147483648 ≤ (x1 * x3) + x4 ∧ (x1 * x3) + x4 ≤ 2147483647) (xg (-2147483648 ≤ x1 * x2 ∧ x1 * x2 ≤ 2147483647) (xg (-2147483648 ≤ (x1 * x2) + x4 ∧ (x1 * x2) + x4 ≤ 2147483647) (xg (0 ≤ ((x1 * x2) + x4) ∧ ((x1 * x2) + x4) < 12) (xg (0 ≤ ((x1 * x3) + x4) ∧ ((x1 * x3) + x4) < 12) (xg (0 ≤ (h 4 ((x1 * x2) + x4).toNat) ∧ (h 4 ((x1 * x2) + x4).toNat) ≤ 2) (xg (-2147483648 ≤ x4 + 1 ∧ x4 + 1 ≤ 2147483647) (xl_X12_copyRow_4 n 3 [4, x1, x2, x3, (x4 + 1)] (zup h 4 ((x1 * x3) + x4).toNat (h 4 ((x1 * x2) + x4).toNat))))))))))) else (some (0, h)) := by rfl
set_option maxRecDepth 100000 in
theorem e_X12_copyRow_4 {n : Nat} {x1 x2 x3 : Int} {h : yH} : f_X12_copyRow_4 n [4, x1, x2, x3] h = xl_X12_copyRow_4 n 3 [4, x1, x2, x3, 0] h := by rfl
def xq_X12_copyRow_5_3 (n : Nat) (K : Nat → yK) : yK := xE [(0, 100007), (1, 0), (2, 0), (3, 0), (4, 0)] [] (xLd 4 0 (xLd 1 0 (xLt (xLd 0 100007 (xLd 1 0 (xLd 3 0 (xMul (xLd 4 0 (xAdd (xLd 0 100007 (xLd 1 0 (xLd 2 0 (xMul (xLd 4 0 (xAdd (xAld 5 400 (xAst 5 400 (fun j => (zty (zkdm.getD 5 (0, 0, 0, [])) j).2.1) (fun j => (zty (zkdm.getD 5 (0, 0, 0, [])) j).2.2) (xInc 4 1 (xJ [(0, 100007), (1, 0), (2, 0), (3, 0), (4, 0)] [] (K 3))))))))))))))))) xRv)))
theorem s_X12_copyRow_5_3 {η : zRn} {D : va_G} {cy : Nat → ClassId} {L : List Nat} {Θ : Nat → Option Nat} {p : Program} {l : Launch} {e : Env} {R : Room} {s : State} {m : MethodId} {args : Array Value} {below : List Frame} {meth : Method} {c : Code} {Q : State → Prop} {Qr : yQt} {n : Nat} {K : Nat → yK} (Z : yCz η zkdm D vwCl cy L Θ 5 p l e R s m args below meth c Q cX12_copyRow (tyW cy) RX12 zTW zKPr tyW none 0 0 Qr) (hI3 : yGo η zkdm D vwCl cy L Θ 5 p l e R s m args below meth c Q 3 (xw Qr 0 (xJ [(0, 100007), (1, 0), (2, 0), (3, 0), (4, 0)] [] (K 3)))) : yGo η zkdm D vwCl cy L Θ 5 p l e R s m args below meth c Q 3 (xw Qr 0 (xJ [(0, 100007), (1, 0), (2, 0), (3, 0), (4, 0)] [] (xq_X12_copyRow_5_3 n K))) := xr_E (yr_mono x_ld (yr_iload Z.1 yt_X12_copyRow_3 (yr_mono x_ld (yr_iload_n Z.1 rfl yt_X12_copyRow_5 (yr_mono x_lt (yr_ge Z.1 yt_X12_copyRow_6 (by decide) (yr_mono x_rv (yr_rv Z rfl yt_X12_copyRow_31)) (yr_mono x_ld (yr_aload_n Z.1 rfl (by decide) yt_X12_copyRow_9 (yr_mono x_ld (yr_iload_n Z.1 rfl yt_X12_copyRow_10 (yr_mono x_ld (yr_iload_n Z.1 rfl yt_X12_copyRow_11 (yr_mono x_mul (yr_mul Z.1 yt_X12_copyRow_12 (yr_mono x_ld (yr_iload Z.1 yt_X12_copyRow_13 (yr_mono x_add (yr_add Z.1 yt_X12_copyRow_15 (yr_mono x_ld (yr_aload_n Z.1 rfl (by decide) yt_X12_copyRow_16 (yr_mono x_ld (yr_iload_n Z.1 rfl yt_X12_copyRow_17 (yr_mono x_ld (yr_iload_n Z.1 rfl yt_X12_copyRow_18 (yr_mono x_mul (yr_mul Z.1 yt_X12_copyRow_19 (yr_mono x_ld (yr_iload Z.1 yt_X12_copyRow_20 (yr_mono x_add (yr_add Z.1 yt_X12_copyRow_22 (yr_mono x_ald (yr_ialdK Z.1 yak_zkdm_5 yt_X12_copyRow_23 (yr_mono x_ast (yr_iastK Z.1 yak_zkdm_5 yt_X12_copyRow_24 (yr_mono x_inc (yr_inc Z.1 (by decide) (by decide) yt_X12_copyRow_25 (yr_goto Z.1 yt_X12_copyRow_28 (by decide) hI3)))))))))))))))))))))))))))))))))))))
def xl_X12_copyRow_5 : Nat → Nat → yK
  | 0, _ => fun _ _ => none
  | n + 1, pc => (cond (Nat.beq pc 3) (xq_X12_copyRow_5_3 n (xl_X12_copyRow_5 n)) (fun _ _ => none))
theorem l_X12_copyRow_5 {η : zRn} {D : va_G} {cy : Nat → ClassId} {L : List Nat} {Θ : Nat → Option Nat} {p : Program} {l : Launch} {e : Env} {R : Room} {s : State} {m : MethodId} {args : Array Value} {below : List Frame} {meth : Method} {c : Code} {Q : State → Prop} {Qr : yQt} (Z : yCz η zkdm D vwCl cy L Θ 5 p l e R s m args below meth c Q cX12_copyRow (tyW cy) RX12 zTW zKPr tyW none 0 0 Qr) : ∀ n, yGo η zkdm D vwCl cy L Θ 5 p l e R s m args below meth c Q 3 (xw Qr 0 (xJ [(0, 100007), (1, 0), (2, 0), (3, 0), (4, 0)] [] (xl_X12_copyRow_5 n 3))) := fun n => by
  induction n with
  | zero => exact xr_J0
  | succ n ih => exact s_X12_copyRow_5_3 (n := n) (K := xl_X12_copyRow_5 n) Z ih
def xp_X12_copyRow_5 (n : Nat) (K : Nat → yK) : yX := (xCst 0 0 (xSt 4 0 (xJ [(0, 100007), (1, 0), (2, 0), (3, 0), (4, 0)] [] (K 3))))
theorem s_X12_copyRow_5 {η : zRn} {D : va_G} {cy : Nat → ClassId} {L : List Nat} {Θ : Nat → Option Nat} {p : Program} {l : Launch} {e : Env} {R : Room} {s : State} {m : MethodId} {args : Array Value} {below : List Frame} {meth : Method} {c : Code} {Q : State → Prop} {Qr : yQt} {n : Nat} {K : Nat → yK} (Z : yCz η zkdm D vwCl cy L Θ 5 p l e R s m args below meth c Q cX12_copyRow (tyW cy) RX12 zTW zKPr tyW none 0 0 Qr) (hI3 : yGo η zkdm D vwCl cy L Θ 5 p l e R s m args below meth c Q 3 (xw Qr 0 (xJ [(0, 100007), (1, 0), (2, 0), (3, 0), (4, 0)] [] (K 3)))) : yGo η zkdm D vwCl cy L Θ 5 p l e R s m args below meth c Q 0 (xw Qr 0 (xp_X12_copyRow_5 n K)) := (yr_mono x_cst (yr_iconst Z.1 yt_X12_copyRow_0 (by decide) (yr_mono x_st (yr_istore Z.1 (by decide) yt_X12_copyRow_1 hI3))))
def f_X12_copyRow_5 : yFn := fun n ys h => (fun n => xp_X12_copyRow_5 n (xl_X12_copyRow_5 n)) n (yar 0 ([100007, 0, 0, 0].zip ys)) [] h
theorem m_X12_copyRow_5 (l : Launch) : yMet zkdm vwCl zTW zKPr l (yX12_copyRow, cX12_copyRow, 5, none) 0 0 [100007, 0, 0, 0] (yF 0 f_X12_copyRow_5) := y_metF zkpr_ok zTW_good (yX12_copyRow, cX12_copyRow, 5, none) 0 0 [100007, 0, 0, 0] 0 (fun n => xp_X12_copyRow_5 n (xl_X12_copyRow_5 n)) (by decide +kernel) (by decide) (fun η D cy L Θ p e R s m args below meth c Q Qr n Z => s_X12_copyRow_5 (n := n) (K := xl_X12_copyRow_5 n) Z (l_X12_copyRow_5 Z n))
set_option maxRecDepth 100000 in
theorem e_X12_copyRow_5_3 {n : Nat} {x1 x2 x3 x4 : Int} {h : yH} : xl_X12_copyRow_5 (n + 1) 3 [5, x1, x2, x3, x4] h = if x4 < x1 then (xg (-2147483648 ≤ x1 * x3 ∧ x1 * x3 ≤ 2147483647) (xg (-2147483648 ≤ (x1 * x3) + x4 ∧ (x1 * x3) + x4 ≤ 2147483647) (xg (-2147483648 ≤ x1 * x2 ∧ x1 * x2 ≤ 2147483647) (xg (-2147483648 ≤ (x1 * x2) + x4 ∧ (x1 * x2) + x4 ≤ 2147483647) (xg (0 ≤ ((x1 * x2) + x4) ∧ ((x1 * x2) + x4) < 400) (xg (0 ≤ ((x1 * x3) + x4) ∧ ((x1 * x3) + x4) < 400) (xg ((zty (zkdm.getD 5 (0, 0, 0, [])) ((x1 * x3) + x4).toNat).2.1 ≤ (h 5 ((x1 * x2) + x4).toNat) ∧ (h 5 ((x1 * x2) + x4).toNat) ≤ (zty (zkdm.getD 5 (0, 0, 0, [])) ((x1 * x3) + x4).toNat).2.2) (xg (-2147483648 ≤ x4 + 1 ∧ x4 + 1 ≤ 2147483647) (xl_X12_copyRow_5 n 3 [5, x1, x2, x3, (x4 + 1)] (zup h 5 ((x1 * x3) + x4).toNat (h 5 ((x1 * x2) + x4).toNat))))))))))) else (some (0, h)) := by rfl
set_option maxRecDepth 100000 in
theorem e_X12_copyRow_5 {n : Nat} {x1 x2 x3 : Int} {h : yH} : f_X12_copyRow_5 n [5, x1, x2, x3] h = xl_X12_copyRow_5 n 3 [5, x1, x2, x3, 0] h := by rfl
def xq_X12_copyRow_6_3 (n : Nat) (K : Nat → yK) : yK := xE [(0, 100008), (1, 0), (2, 0), (3, 0), (4, 0)] [] (xLd 4 0 (xLd 1 0 (xLt (xLd 0 100008 (xLd 1 0 (xLd 3 0 (xMul (xLd 4 0 (xAdd (xLd 0 100008 (xLd 1 0 (xLd 2 0 (xMul (xLd 4 0 (xAdd (xAld 6 968 (xAst 6 968 (fun j => (zty (zkdm.getD 6 (0, 0, 0, [])) j).2.1) (fun j => (zty (zkdm.getD 6 (0, 0, 0, [])) j).2.2) (xInc 4 1 (xJ [(0, 100008), (1, 0), (2, 0), (3, 0), (4, 0)] [] (K 3))))))))))))))))) xRv)))
theorem s_X12_copyRow_6_3 {η : zRn} {D : va_G} {cy : Nat → ClassId} {L : List Nat} {Θ : Nat → Option Nat} {p : Program} {l : Launch} {e : Env} {R : Room} {s : State} {m : MethodId} {args : Array Value} {below : List Frame} {meth : Method} {c : Code} {Q : State → Prop} {Qr : yQt} {n : Nat} {K : Nat → yK} (Z : yCz η zkdm D vwCl cy L Θ 5 p l e R s m args below meth c Q cX12_copyRow (tyW cy) RX12 zTW zKPr tyW none 0 0 Qr) (hI3 : yGo η zkdm D vwCl cy L Θ 5 p l e R s m args below meth c Q 3 (xw Qr 0 (xJ [(0, 100008), (1, 0), (2, 0), (3, 0), (4, 0)] [] (K 3)))) : yGo η zkdm D vwCl cy L Θ 5 p l e R s m args below meth c Q 3 (xw Qr 0 (xJ [(0, 100008), (1, 0), (2, 0), (3, 0), (4, 0)] [] (xq_X12_copyRow_6_3 n K))) := xr_E (yr_mono x_ld (yr_iload Z.1 yt_X12_copyRow_3 (yr_mono x_ld (yr_iload_n Z.1 rfl yt_X12_copyRow_5 (yr_mono x_lt (yr_ge Z.1 yt_X12_copyRow_6 (by decide) (yr_mono x_rv (yr_rv Z rfl yt_X12_copyRow_31)) (yr_mono x_ld (yr_aload_n Z.1 rfl (by decide) yt_X12_copyRow_9 (yr_mono x_ld (yr_iload_n Z.1 rfl yt_X12_copyRow_10 (yr_mono x_ld (yr_iload_n Z.1 rfl yt_X12_copyRow_11 (yr_mono x_mul (yr_mul Z.1 yt_X12_copyRow_12 (yr_mono x_ld (yr_iload Z.1 yt_X12_copyRow_13 (yr_mono x_add (yr_add Z.1 yt_X12_copyRow_15 (yr_mono x_ld (yr_aload_n Z.1 rfl (by decide) yt_X12_copyRow_16 (yr_mono x_ld (yr_iload_n Z.1 rfl yt_X12_copyRow_17 (yr_mono x_ld (yr_iload_n Z.1 rfl yt_X12_copyRow_18 (yr_mono x_mul (yr_mul Z.1 yt_X12_copyRow_19 (yr_mono x_ld (yr_iload Z.1 yt_X12_copyRow_20 (yr_mono x_add (yr_add Z.1 yt_X12_copyRow_22 (yr_mono x_ald (yr_ialdK Z.1 yak_zkdm_6 yt_X12_copyRow_23 (yr_mono x_ast (yr_iastK Z.1 yak_zkdm_6 yt_X12_copyRow_24 (yr_mono x_inc (yr_inc Z.1 (by decide) (by decide) yt_X12_copyRow_25 (yr_goto Z.1 yt_X12_copyRow_28 (by decide) hI3)))))))))))))))))))))))))))))))))))))
def xl_X12_copyRow_6 : Nat → Nat → yK
  | 0, _ => fun _ _ => none
  | n + 1, pc => (cond (Nat.beq pc 3) (xq_X12_copyRow_6_3 n (xl_X12_copyRow_6 n)) (fun _ _ => none))
theorem l_X12_copyRow_6 {η : zRn} {D : va_G} {cy : Nat → ClassId} {L : List Nat} {Θ : Nat → Option Nat} {p : Program} {l : Launch} {e : Env} {R : Room} {s : State} {m : MethodId} {args : Array Value} {below : List Frame} {meth : Method} {c : Code} {Q : State → Prop} {Qr : yQt} (Z : yCz η zkdm D vwCl cy L Θ 5 p l e R s m args below meth c Q cX12_copyRow (tyW cy) RX12 zTW zKPr tyW none 0 0 Qr) : ∀ n, yGo η zkdm D vwCl cy L Θ 5 p l e R s m args below meth c Q 3 (xw Qr 0 (xJ [(0, 100008), (1, 0), (2, 0), (3, 0), (4, 0)] [] (xl_X12_copyRow_6 n 3))) := fun n => by
  induction n with
  | zero => exact xr_J0
  | succ n ih => exact s_X12_copyRow_6_3 (n := n) (K := xl_X12_copyRow_6 n) Z ih
def xp_X12_copyRow_6 (n : Nat) (K : Nat → yK) : yX := (xCst 0 0 (xSt 4 0 (xJ [(0, 100008), (1, 0), (2, 0), (3, 0), (4, 0)] [] (K 3))))
theorem s_X12_copyRow_6 {η : zRn} {D : va_G} {cy : Nat → ClassId} {L : List Nat} {Θ : Nat → Option Nat} {p : Program} {l : Launch} {e : Env} {R : Room} {s : State} {m : MethodId} {args : Array Value} {below : List Frame} {meth : Method} {c : Code} {Q : State → Prop} {Qr : yQt} {n : Nat} {K : Nat → yK} (Z : yCz η zkdm D vwCl cy L Θ 5 p l e R s m args below meth c Q cX12_copyRow (tyW cy) RX12 zTW zKPr tyW none 0 0 Qr) (hI3 : yGo η zkdm D vwCl cy L Θ 5 p l e R s m args below meth c Q 3 (xw Qr 0 (xJ [(0, 100008), (1, 0), (2, 0), (3, 0), (4, 0)] [] (K 3)))) : yGo η zkdm D vwCl cy L Θ 5 p l e R s m args below meth c Q 0 (xw Qr 0 (xp_X12_copyRow_6 n K)) := (yr_mono x_cst (yr_iconst Z.1 yt_X12_copyRow_0 (by decide) (yr_mono x_st (yr_istore Z.1 (by decide) yt_X12_copyRow_1 hI3))))
def f_X12_copyRow_6 : yFn := fun n ys h => (fun n => xp_X12_copyRow_6 n (xl_X12_copyRow_6 n)) n (yar 0 ([100008, 0, 0, 0].zip ys)) [] h
theorem m_X12_copyRow_6 (l : Launch) : yMet zkdm vwCl zTW zKPr l (yX12_copyRow, cX12_copyRow, 5, none) 0 0 [100008, 0, 0, 0] (yF 0 f_X12_copyRow_6) := y_metF zkpr_ok zTW_good (yX12_copyRow, cX12_copyRow, 5, none) 0 0 [100008, 0, 0, 0] 0 (fun n => xp_X12_copyRow_6 n (xl_X12_copyRow_6 n)) (by decide +kernel) (by decide) (fun η D cy L Θ p e R s m args below meth c Q Qr n Z => s_X12_copyRow_6 (n := n) (K := xl_X12_copyRow_6 n) Z (l_X12_copyRow_6 Z n))
set_option maxRecDepth 100000 in
theorem e_X12_copyRow_6_3 {n : Nat} {x1 x2 x3 x4 : Int} {h : yH} : xl_X12_copyRow_6 (n + 1) 3 [6, x1, x2, x3, x4] h = if x4 < x1 then (xg (-2147483648 ≤ x1 * x3 ∧ x1 * x3 ≤ 2147483647) (xg (-2147483648 ≤ (x1 * x3) + x4 ∧ (x1 * x3) + x4 ≤ 2147483647) (xg (-2147483648 ≤ x1 * x2 ∧ x1 * x2 ≤ 2147483647) (xg (-2147483648 ≤ (x1 * x2) + x4 ∧ (x1 * x2) + x4 ≤ 2147483647) (xg (0 ≤ ((x1 * x2) + x4) ∧ ((x1 * x2) + x4) < 968) (xg (0 ≤ ((x1 * x3) + x4) ∧ ((x1 * x3) + x4) < 968) (xg ((zty (zkdm.getD 6 (0, 0, 0, [])) ((x1 * x3) + x4).toNat).2.1 ≤ (h 6 ((x1 * x2) + x4).toNat) ∧ (h 6 ((x1 * x2) + x4).toNat) ≤ (zty (zkdm.getD 6 (0, 0, 0, [])) ((x1 * x3) + x4).toNat).2.2) (xg (-2147483648 ≤ x4 + 1 ∧ x4 + 1 ≤ 2147483647) (xl_X12_copyRow_6 n 3 [6, x1, x2, x3, (x4 + 1)] (zup h 6 ((x1 * x3) + x4).toNat (h 6 ((x1 * x2) + x4).toNat))))))))))) else (some (0, h)) := by rfl
set_option maxRecDepth 100000 in
theorem e_X12_copyRow_6 {n : Nat} {x1 x2 x3 : Int} {h : yH} : f_X12_copyRow_6 n [6, x1, x2, x3] h = xl_X12_copyRow_6 n 3 [6, x1, x2, x3, 0] h := by rfl
def xq_X12_copyRow_7_3 (n : Nat) (K : Nat → yK) : yK := xE [(0, 100009), (1, 0), (2, 0), (3, 0), (4, 0)] [] (xLd 4 0 (xLd 1 0 (xLt (xLd 0 100009 (xLd 1 0 (xLd 3 0 (xMul (xLd 4 0 (xAdd (xLd 0 100009 (xLd 1 0 (xLd 2 0 (xMul (xLd 4 0 (xAdd (xAld 7 416 (xAst 7 416 (fun j => (zty (zkdm.getD 7 (0, 0, 0, [])) j).2.1) (fun j => (zty (zkdm.getD 7 (0, 0, 0, [])) j).2.2) (xInc 4 1 (xJ [(0, 100009), (1, 0), (2, 0), (3, 0), (4, 0)] [] (K 3))))))))))))))))) xRv)))
theorem s_X12_copyRow_7_3 {η : zRn} {D : va_G} {cy : Nat → ClassId} {L : List Nat} {Θ : Nat → Option Nat} {p : Program} {l : Launch} {e : Env} {R : Room} {s : State} {m : MethodId} {args : Array Value} {below : List Frame} {meth : Method} {c : Code} {Q : State → Prop} {Qr : yQt} {n : Nat} {K : Nat → yK} (Z : yCz η zkdm D vwCl cy L Θ 5 p l e R s m args below meth c Q cX12_copyRow (tyW cy) RX12 zTW zKPr tyW none 0 0 Qr) (hI3 : yGo η zkdm D vwCl cy L Θ 5 p l e R s m args below meth c Q 3 (xw Qr 0 (xJ [(0, 100009), (1, 0), (2, 0), (3, 0), (4, 0)] [] (K 3)))) : yGo η zkdm D vwCl cy L Θ 5 p l e R s m args below meth c Q 3 (xw Qr 0 (xJ [(0, 100009), (1, 0), (2, 0), (3, 0), (4, 0)] [] (xq_X12_copyRow_7_3 n K))) := xr_E (yr_mono x_ld (yr_iload Z.1 yt_X12_copyRow_3 (yr_mono x_ld (yr_iload_n Z.1 rfl yt_X12_copyRow_5 (yr_mono x_lt (yr_ge Z.1 yt_X12_copyRow_6 (by decide) (yr_mono x_rv (yr_rv Z rfl yt_X12_copyRow_31)) (yr_mono x_ld (yr_aload_n Z.1 rfl (by decide) yt_X12_copyRow_9 (yr_mono x_ld (yr_iload_n Z.1 rfl yt_X12_copyRow_10 (yr_mono x_ld (yr_iload_n Z.1 rfl yt_X12_copyRow_11 (yr_mono x_mul (yr_mul Z.1 yt_X12_copyRow_12 (yr_mono x_ld (yr_iload Z.1 yt_X12_copyRow_13 (yr_mono x_add (yr_add Z.1 yt_X12_copyRow_15 (yr_mono x_ld (yr_aload_n Z.1 rfl (by decide) yt_X12_copyRow_16 (yr_mono x_ld (yr_iload_n Z.1 rfl yt_X12_copyRow_17 (yr_mono x_ld (yr_iload_n Z.1 rfl yt_X12_copyRow_18 (yr_mono x_mul (yr_mul Z.1 yt_X12_copyRow_19 (yr_mono x_ld (yr_iload Z.1 yt_X12_copyRow_20 (yr_mono x_add (yr_add Z.1 yt_X12_copyRow_22 (yr_mono x_ald (yr_ialdK Z.1 yak_zkdm_7 yt_X12_copyRow_23 (yr_mono x_ast (yr_iastK Z.1 yak_zkdm_7 yt_X12_copyRow_24 (yr_mono x_inc (yr_inc Z.1 (by decide) (by decide) yt_X12_copyRow_25 (yr_goto Z.1 yt_X12_copyRow_28 (by decide) hI3)))))))))))))))))))))))))))))))))))))
def xl_X12_copyRow_7 : Nat → Nat → yK
  | 0, _ => fun _ _ => none
  | n + 1, pc => (cond (Nat.beq pc 3) (xq_X12_copyRow_7_3 n (xl_X12_copyRow_7 n)) (fun _ _ => none))
theorem l_X12_copyRow_7 {η : zRn} {D : va_G} {cy : Nat → ClassId} {L : List Nat} {Θ : Nat → Option Nat} {p : Program} {l : Launch} {e : Env} {R : Room} {s : State} {m : MethodId} {args : Array Value} {below : List Frame} {meth : Method} {c : Code} {Q : State → Prop} {Qr : yQt} (Z : yCz η zkdm D vwCl cy L Θ 5 p l e R s m args below meth c Q cX12_copyRow (tyW cy) RX12 zTW zKPr tyW none 0 0 Qr) : ∀ n, yGo η zkdm D vwCl cy L Θ 5 p l e R s m args below meth c Q 3 (xw Qr 0 (xJ [(0, 100009), (1, 0), (2, 0), (3, 0), (4, 0)] [] (xl_X12_copyRow_7 n 3))) := fun n => by
  induction n with
  | zero => exact xr_J0
  | succ n ih => exact s_X12_copyRow_7_3 (n := n) (K := xl_X12_copyRow_7 n) Z ih
def xp_X12_copyRow_7 (n : Nat) (K : Nat → yK) : yX := (xCst 0 0 (xSt 4 0 (xJ [(0, 100009), (1, 0), (2, 0), (3, 0), (4, 0)] [] (K 3))))
theorem s_X12_copyRow_7 {η : zRn} {D : va_G} {cy : Nat → ClassId} {L : List Nat} {Θ : Nat → Option Nat} {p : Program} {l : Launch} {e : Env} {R : Room} {s : State} {m : MethodId} {args : Array Value} {below : List Frame} {meth : Method} {c : Code} {Q : State → Prop} {Qr : yQt} {n : Nat} {K : Nat → yK} (Z : yCz η zkdm D vwCl cy L Θ 5 p l e R s m args below meth c Q cX12_copyRow (tyW cy) RX12 zTW zKPr tyW none 0 0 Qr) (hI3 : yGo η zkdm D vwCl cy L Θ 5 p l e R s m args below meth c Q 3 (xw Qr 0 (xJ [(0, 100009), (1, 0), (2, 0), (3, 0), (4, 0)] [] (K 3)))) : yGo η zkdm D vwCl cy L Θ 5 p l e R s m args below meth c Q 0 (xw Qr 0 (xp_X12_copyRow_7 n K)) := (yr_mono x_cst (yr_iconst Z.1 yt_X12_copyRow_0 (by decide) (yr_mono x_st (yr_istore Z.1 (by decide) yt_X12_copyRow_1 hI3))))
def f_X12_copyRow_7 : yFn := fun n ys h => (fun n => xp_X12_copyRow_7 n (xl_X12_copyRow_7 n)) n (yar 0 ([100009, 0, 0, 0].zip ys)) [] h
theorem m_X12_copyRow_7 (l : Launch) : yMet zkdm vwCl zTW zKPr l (yX12_copyRow, cX12_copyRow, 5, none) 0 0 [100009, 0, 0, 0] (yF 0 f_X12_copyRow_7) := y_metF zkpr_ok zTW_good (yX12_copyRow, cX12_copyRow, 5, none) 0 0 [100009, 0, 0, 0] 0 (fun n => xp_X12_copyRow_7 n (xl_X12_copyRow_7 n)) (by decide +kernel) (by decide) (fun η D cy L Θ p e R s m args below meth c Q Qr n Z => s_X12_copyRow_7 (n := n) (K := xl_X12_copyRow_7 n) Z (l_X12_copyRow_7 Z n))
set_option maxRecDepth 100000 in
theorem e_X12_copyRow_7_3 {n : Nat} {x1 x2 x3 x4 : Int} {h : yH} : xl_X12_copyRow_7 (n + 1) 3 [7, x1, x2, x3, x4] h = if x4 < x1 then (xg (-2147483648 ≤ x1 * x3 ∧ x1 * x3 ≤ 2147483647) (xg (-2147483648 ≤ (x1 * x3) + x4 ∧ (x1 * x3) + x4 ≤ 2147483647) (xg (-2147483648 ≤ x1 * x2 ∧ x1 * x2 ≤ 2147483647) (xg (-2147483648 ≤ (x1 * x2) + x4 ∧ (x1 * x2) + x4 ≤ 2147483647) (xg (0 ≤ ((x1 * x2) + x4) ∧ ((x1 * x2) + x4) < 416) (xg (0 ≤ ((x1 * x3) + x4) ∧ ((x1 * x3) + x4) < 416) (xg ((zty (zkdm.getD 7 (0, 0, 0, [])) ((x1 * x3) + x4).toNat).2.1 ≤ (h 7 ((x1 * x2) + x4).toNat) ∧ (h 7 ((x1 * x2) + x4).toNat) ≤ (zty (zkdm.getD 7 (0, 0, 0, [])) ((x1 * x3) + x4).toNat).2.2) (xg (-2147483648 ≤ x4 + 1 ∧ x4 + 1 ≤ 2147483647) (xl_X12_copyRow_7 n 3 [7, x1, x2, x3, (x4 + 1)] (zup h 7 ((x1 * x3) + x4).toNat (h 7 ((x1 * x2) + x4).toNat))))))))))) else (some (0, h)) := by rfl
set_option maxRecDepth 100000 in
theorem e_X12_copyRow_7 {n : Nat} {x1 x2 x3 : Int} {h : yH} : f_X12_copyRow_7 n [7, x1, x2, x3] h = xl_X12_copyRow_7 n 3 [7, x1, x2, x3, 0] h := by rfl
set_option maxRecDepth 100000 in
theorem yq_X12_copyAll : tables_1_8[150]? = some (.code yX12_copyAll cX12_copyAll 4 none) := rfl
theorem yw_X12_copyAll : zMV yX12_copyAll cX12_copyAll 4 none 2 := ⟨⟨zTi_1 13 (by decide +kernel) rfl, zTi_8 150 yq_X12_copyAll rfl, ⟨by decide, by decide⟩, by decide +kernel⟩, zTi_8 149 (by decide +kernel) rfl, zTin 99 (by decide +kernel) rfl⟩
def dcl_cX12_copyAll_0 : List UInt8 := [0x03, 0x3e, 0x1d, 0x11, 0x02, 0x58, 0xa2, 0x00, 0x21, 0x2a, 0xb4, 0x00, 0x07, 0x11, 0x02, 0x58, 0x1c, 0x68, 0x1d, 0x60, 0x2a, 0xb4, 0x00, 0x07, 0x11, 0x02, 0x58, 0x1b, 0x68, 0x1d, 0x60, 0x33, 0x54, 0x84, 0x03, 0x01, 0xa7, 0xff, 0xde, 0x2a, 0xb4, 0x00, 0x0d, 0x04, 0x1b, 0x1c, 0xb8, 0x00, 0x7d, 0x2a, 0xb4, 0x00, 0x11, 0x04, 0x1b, 0x1c, 0xb8, 0x00, 0x7d, 0x2a, 0xb4, 0x00, 0x14, 0x04, 0x1b, 0x1c]
theorem dcs_cX12_copyAll_0 : (cX12_copyAll.data.toList.drop 0).take 66 = dcl_cX12_copyAll_0 := by decide +kernel
theorem yt_X12_copyAll_2 : decode cX12_copyAll 2 = .ok (.iload_n 3, 1) := dcR 0 2 dcs_cX12_copyAll_0 (by decide +kernel)
theorem yt_X12_copyAll_3 : decode cX12_copyAll 3 = .ok (.sipush 600, 3) := dcR 0 3 dcs_cX12_copyAll_0 (by decide +kernel)
theorem yt_X12_copyAll_6 : decode cX12_copyAll 6 = .ok (.if_icmp .ge 33, 3) := dcR 0 6 dcs_cX12_copyAll_0 (by decide +kernel)
theorem yt_X12_copyAll_39 : decode cX12_copyAll 39 = .ok (.aload_n 0, 1) := dcR 0 39 dcs_cX12_copyAll_0 (by decide +kernel)
theorem yt_X12_copyAll_40 : decode cX12_copyAll 40 = .ok (.getfield 13, 3) := dcR 0 40 dcs_cX12_copyAll_0 (by decide +kernel)
theorem yt_X12_copyAll_43 : decode cX12_copyAll 43 = .ok (.iconst 1, 1) := dcR 0 43 dcs_cX12_copyAll_0 (by decide +kernel)
theorem yt_X12_copyAll_44 : decode cX12_copyAll 44 = .ok (.iload_n 1, 1) := dcR 0 44 dcs_cX12_copyAll_0 (by decide +kernel)
theorem yt_X12_copyAll_45 : decode cX12_copyAll 45 = .ok (.iload_n 2, 1) := dcR 0 45 dcs_cX12_copyAll_0 (by decide +kernel)
theorem yt_X12_copyAll_46 : decode cX12_copyAll 46 = .ok (.invokestatic 125, 3) := dcR 0 46 dcs_cX12_copyAll_0 (by decide +kernel)
theorem yl_RX12_125 : Cond.methodLink RX12 125 yX12_copyRow ∈ zTW := zTi_8 151 (by decide +kernel) rfl
theorem yt_X12_copyAll_49 : decode cX12_copyAll 49 = .ok (.aload_n 0, 1) := dcR 0 49 dcs_cX12_copyAll_0 (by decide +kernel)
theorem yt_X12_copyAll_50 : decode cX12_copyAll 50 = .ok (.getfield 17, 3) := dcR 0 50 dcs_cX12_copyAll_0 (by decide +kernel)
theorem yt_X12_copyAll_53 : decode cX12_copyAll 53 = .ok (.iconst 1, 1) := dcR 0 53 dcs_cX12_copyAll_0 (by decide +kernel)
theorem yt_X12_copyAll_54 : decode cX12_copyAll 54 = .ok (.iload_n 1, 1) := dcR 0 54 dcs_cX12_copyAll_0 (by decide +kernel)
theorem yt_X12_copyAll_55 : decode cX12_copyAll 55 = .ok (.iload_n 2, 1) := dcR 0 55 dcs_cX12_copyAll_0 (by decide +kernel)
theorem yt_X12_copyAll_56 : decode cX12_copyAll 56 = .ok (.invokestatic 125, 3) := dcR 0 56 dcs_cX12_copyAll_0 (by decide +kernel)
theorem yt_X12_copyAll_59 : decode cX12_copyAll 59 = .ok (.aload_n 0, 1) := dcR 0 59 dcs_cX12_copyAll_0 (by decide +kernel)
theorem yt_X12_copyAll_60 : decode cX12_copyAll 60 = .ok (.getfield 20, 3) := dcR 0 60 dcs_cX12_copyAll_0 (by decide +kernel)
theorem yt_X12_copyAll_63 : decode cX12_copyAll 63 = .ok (.iconst 1, 1) := dcR 0 63 dcs_cX12_copyAll_0 (by decide +kernel)
def dcl_cX12_copyAll_1 : List UInt8 := [0x1b, 0x1c, 0xb8, 0x00, 0x7d, 0x2a, 0xb4, 0x00, 0x17, 0x06, 0x1b, 0x1c, 0xb8, 0x00, 0x7d, 0x2a, 0xb4, 0x00, 0x1a, 0x10, 0x64, 0x1b, 0x1c, 0xb8, 0x00, 0x7d, 0x2a, 0xb4, 0x00, 0x1d, 0x11, 0x00, 0xf2, 0x1b, 0x1c, 0xb8, 0x00, 0x7d, 0x2a, 0xb4, 0x00, 0x20, 0x10, 0x68, 0x1b, 0x1c, 0xb8, 0x00, 0x7d, 0xb1]
theorem dcs_cX12_copyAll_1 : (cX12_copyAll.data.toList.drop 64).take 66 = dcl_cX12_copyAll_1 := by decide +kernel
theorem yt_X12_copyAll_64 : decode cX12_copyAll 64 = .ok (.iload_n 1, 1) := dcR 64 0 dcs_cX12_copyAll_1 (by decide +kernel)
theorem yt_X12_copyAll_65 : decode cX12_copyAll 65 = .ok (.iload_n 2, 1) := dcR 64 1 dcs_cX12_copyAll_1 (by decide +kernel)
theorem yt_X12_copyAll_66 : decode cX12_copyAll 66 = .ok (.invokestatic 125, 3) := dcR 64 2 dcs_cX12_copyAll_1 (by decide +kernel)
theorem yt_X12_copyAll_69 : decode cX12_copyAll 69 = .ok (.aload_n 0, 1) := dcR 64 5 dcs_cX12_copyAll_1 (by decide +kernel)
theorem yt_X12_copyAll_70 : decode cX12_copyAll 70 = .ok (.getfield 23, 3) := dcR 64 6 dcs_cX12_copyAll_1 (by decide +kernel)
theorem yt_X12_copyAll_73 : decode cX12_copyAll 73 = .ok (.iconst 3, 1) := dcR 64 9 dcs_cX12_copyAll_1 (by decide +kernel)
theorem yt_X12_copyAll_74 : decode cX12_copyAll 74 = .ok (.iload_n 1, 1) := dcR 64 10 dcs_cX12_copyAll_1 (by decide +kernel)
theorem yt_X12_copyAll_75 : decode cX12_copyAll 75 = .ok (.iload_n 2, 1) := dcR 64 11 dcs_cX12_copyAll_1 (by decide +kernel)
theorem yt_X12_copyAll_76 : decode cX12_copyAll 76 = .ok (.invokestatic 125, 3) := dcR 64 12 dcs_cX12_copyAll_1 (by decide +kernel)
theorem yt_X12_copyAll_79 : decode cX12_copyAll 79 = .ok (.aload_n 0, 1) := dcR 64 15 dcs_cX12_copyAll_1 (by decide +kernel)
theorem yt_X12_copyAll_80 : decode cX12_copyAll 80 = .ok (.getfield 26, 3) := dcR 64 16 dcs_cX12_copyAll_1 (by decide +kernel)
theorem yt_X12_copyAll_83 : decode cX12_copyAll 83 = .ok (.bipush 100, 2) := dcR 64 19 dcs_cX12_copyAll_1 (by decide +kernel)
theorem yt_X12_copyAll_85 : decode cX12_copyAll 85 = .ok (.iload_n 1, 1) := dcR 64 21 dcs_cX12_copyAll_1 (by decide +kernel)
theorem yt_X12_copyAll_86 : decode cX12_copyAll 86 = .ok (.iload_n 2, 1) := dcR 64 22 dcs_cX12_copyAll_1 (by decide +kernel)
theorem yt_X12_copyAll_87 : decode cX12_copyAll 87 = .ok (.invokestatic 125, 3) := dcR 64 23 dcs_cX12_copyAll_1 (by decide +kernel)
theorem yt_X12_copyAll_90 : decode cX12_copyAll 90 = .ok (.aload_n 0, 1) := dcR 64 26 dcs_cX12_copyAll_1 (by decide +kernel)
theorem yt_X12_copyAll_91 : decode cX12_copyAll 91 = .ok (.getfield 29, 3) := dcR 64 27 dcs_cX12_copyAll_1 (by decide +kernel)
theorem yt_X12_copyAll_94 : decode cX12_copyAll 94 = .ok (.sipush 242, 3) := dcR 64 30 dcs_cX12_copyAll_1 (by decide +kernel)
theorem yt_X12_copyAll_97 : decode cX12_copyAll 97 = .ok (.iload_n 1, 1) := dcR 64 33 dcs_cX12_copyAll_1 (by decide +kernel)
theorem yt_X12_copyAll_98 : decode cX12_copyAll 98 = .ok (.iload_n 2, 1) := dcR 64 34 dcs_cX12_copyAll_1 (by decide +kernel)
theorem yt_X12_copyAll_99 : decode cX12_copyAll 99 = .ok (.invokestatic 125, 3) := dcR 64 35 dcs_cX12_copyAll_1 (by decide +kernel)
theorem yt_X12_copyAll_102 : decode cX12_copyAll 102 = .ok (.aload_n 0, 1) := dcR 64 38 dcs_cX12_copyAll_1 (by decide +kernel)
theorem yt_X12_copyAll_103 : decode cX12_copyAll 103 = .ok (.getfield 32, 3) := dcR 64 39 dcs_cX12_copyAll_1 (by decide +kernel)
theorem yt_X12_copyAll_106 : decode cX12_copyAll 106 = .ok (.bipush 104, 2) := dcR 64 42 dcs_cX12_copyAll_1 (by decide +kernel)
theorem yt_X12_copyAll_108 : decode cX12_copyAll 108 = .ok (.iload_n 1, 1) := dcR 64 44 dcs_cX12_copyAll_1 (by decide +kernel)
theorem yt_X12_copyAll_109 : decode cX12_copyAll 109 = .ok (.iload_n 2, 1) := dcR 64 45 dcs_cX12_copyAll_1 (by decide +kernel)
theorem yt_X12_copyAll_110 : decode cX12_copyAll 110 = .ok (.invokestatic 125, 3) := dcR 64 46 dcs_cX12_copyAll_1 (by decide +kernel)
theorem yt_X12_copyAll_113 : decode cX12_copyAll 113 = .ok (.return_, 1) := by decide +kernel
theorem yt_X12_copyAll_9 : decode cX12_copyAll 9 = .ok (.aload_n 0, 1) := dcR 0 9 dcs_cX12_copyAll_0 (by decide +kernel)
theorem yt_X12_copyAll_10 : decode cX12_copyAll 10 = .ok (.getfield 7, 3) := dcR 0 10 dcs_cX12_copyAll_0 (by decide +kernel)
theorem yt_X12_copyAll_13 : decode cX12_copyAll 13 = .ok (.sipush 600, 3) := dcR 0 13 dcs_cX12_copyAll_0 (by decide +kernel)
theorem yt_X12_copyAll_16 : decode cX12_copyAll 16 = .ok (.iload_n 2, 1) := dcR 0 16 dcs_cX12_copyAll_0 (by decide +kernel)
theorem yt_X12_copyAll_17 : decode cX12_copyAll 17 = .ok (.imul, 1) := dcR 0 17 dcs_cX12_copyAll_0 (by decide +kernel)
theorem yt_X12_copyAll_18 : decode cX12_copyAll 18 = .ok (.iload_n 3, 1) := dcR 0 18 dcs_cX12_copyAll_0 (by decide +kernel)
theorem yt_X12_copyAll_19 : decode cX12_copyAll 19 = .ok (.iadd, 1) := dcR 0 19 dcs_cX12_copyAll_0 (by decide +kernel)
theorem yt_X12_copyAll_20 : decode cX12_copyAll 20 = .ok (.aload_n 0, 1) := dcR 0 20 dcs_cX12_copyAll_0 (by decide +kernel)
theorem yt_X12_copyAll_21 : decode cX12_copyAll 21 = .ok (.getfield 7, 3) := dcR 0 21 dcs_cX12_copyAll_0 (by decide +kernel)
theorem yt_X12_copyAll_24 : decode cX12_copyAll 24 = .ok (.sipush 600, 3) := dcR 0 24 dcs_cX12_copyAll_0 (by decide +kernel)
theorem yt_X12_copyAll_27 : decode cX12_copyAll 27 = .ok (.iload_n 1, 1) := dcR 0 27 dcs_cX12_copyAll_0 (by decide +kernel)
theorem yt_X12_copyAll_28 : decode cX12_copyAll 28 = .ok (.imul, 1) := dcR 0 28 dcs_cX12_copyAll_0 (by decide +kernel)
theorem yt_X12_copyAll_29 : decode cX12_copyAll 29 = .ok (.iload_n 3, 1) := dcR 0 29 dcs_cX12_copyAll_0 (by decide +kernel)
theorem yt_X12_copyAll_30 : decode cX12_copyAll 30 = .ok (.iadd, 1) := dcR 0 30 dcs_cX12_copyAll_0 (by decide +kernel)
theorem yt_X12_copyAll_31 : decode cX12_copyAll 31 = .ok (.baload, 1) := dcR 0 31 dcs_cX12_copyAll_0 (by decide +kernel)
theorem yt_X12_copyAll_32 : decode cX12_copyAll 32 = .ok (.bastore, 1) := dcR 0 32 dcs_cX12_copyAll_0 (by decide +kernel)
theorem yt_X12_copyAll_33 : decode cX12_copyAll 33 = .ok (.iinc 3 1, 3) := dcR 0 33 dcs_cX12_copyAll_0 (by decide +kernel)
theorem yt_X12_copyAll_36 : decode cX12_copyAll 36 = .ok (.goto (-34), 3) := dcR 0 36 dcs_cX12_copyAll_0 (by decide +kernel)
def xq_X12_copyAll_2 (n : Nat) (K : Nat → yK) : yK := xE [(0, 100037), (1, 0), (2, 0), (3, 0)] [] (xLd 3 0 (xCst 0 600 (xLt (xLd 0 100037 (xGetC 35 1 0 0 (xCst 0 600 (xLd 2 0 (xMul (xLd 3 0 (xAdd (xLd 0 100037 (xGetC 35 1 0 0 (xCst 0 600 (xLd 1 0 (xMul (xLd 3 0 (xAdd (xAld 0 2400 (xAst 0 2400 (fun _ => (-128)) (fun _ => 127) (xInc 3 1 (xJ [(0, 100037), (1, 0), (2, 0), (3, 0)] [] (K 2))))))))))))))))))) (xLd 0 100037 (xGetC 35 2 1 1 (xCst 0 1 (xLd 1 0 (xLd 2 0 (xCalV 4 [100003, 0, 0, 0] (f_X12_copyRow_1 n) (xLd 0 100037 (xGetC 35 3 2 2 (xCst 0 1 (xLd 1 0 (xLd 2 0 (xCalV 4 [100004, 0, 0, 0] (f_X12_copyRow_2 n) (xLd 0 100037 (xGetC 35 4 3 3 (xCst 0 1 (xLd 1 0 (xLd 2 0 (xCalV 4 [100005, 0, 0, 0] (f_X12_copyRow_3 n) (xLd 0 100037 (xGetC 35 5 4 4 (xCst 0 3 (xLd 1 0 (xLd 2 0 (xCalV 4 [100006, 0, 0, 0] (f_X12_copyRow_4 n) (xLd 0 100037 (xGetC 35 6 5 5 (xCst 0 100 (xLd 1 0 (xLd 2 0 (xCalV 4 [100007, 0, 0, 0] (f_X12_copyRow_5 n) (xLd 0 100037 (xGetC 35 7 6 6 (xCst 0 242 (xLd 1 0 (xLd 2 0 (xCalV 4 [100008, 0, 0, 0] (f_X12_copyRow_6 n) (xLd 0 100037 (xGetC 35 8 7 7 (xCst 0 104 (xLd 1 0 (xLd 2 0 (xCalV 4 [100009, 0, 0, 0] (f_X12_copyRow_7 n) xRv)))))))))))))))))))))))))))))))))))))))))))))
theorem s_X12_copyAll_2 {η : zRn} {D : va_G} {cy : Nat → ClassId} {L : List Nat} {Θ : Nat → Option Nat} {p : Program} {l : Launch} {e : Env} {R : Room} {s : State} {m : MethodId} {args : Array Value} {below : List Frame} {meth : Method} {c : Code} {Q : State → Prop} {Qr : yQt} {n : Nat} {K : Nat → yK} (Z : yCz η zkdm D vwCl cy L Θ 4 p l e R s m args below meth c Q cX12_copyAll (tyW cy) RX12 zTW zKPr tyW none 1 24 Qr) (hI2 : yGo η zkdm D vwCl cy L Θ 4 p l e R s m args below meth c Q 2 (xw Qr 0 (xJ [(0, 100037), (1, 0), (2, 0), (3, 0)] [] (K 2)))) : yGo η zkdm D vwCl cy L Θ 4 p l e R s m args below meth c Q 2 (xw Qr 0 (xJ [(0, 100037), (1, 0), (2, 0), (3, 0)] [] (xq_X12_copyAll_2 n K))) := xr_E (yr_mono x_ld (yr_iload_n Z.1 rfl yt_X12_copyAll_2 (yr_mono x_cst (yr_sipush Z.1 yt_X12_copyAll_3 (by decide) (yr_mono x_lt (yr_ge Z.1 yt_X12_copyAll_6 (by decide) (yr_mono x_ld (yr_aload_n Z.1 rfl (by decide) yt_X12_copyAll_39 (yr_mono x_getc (yr_getP (lo := 0) (hi := 2147483647) Z.1 yf_RX12_13 (by decide +kernel) yt_X12_copyAll_40 (yr_mono x_cst (yr_iconst Z.1 yt_X12_copyAll_43 (by decide) (yr_mono x_ld (yr_iload_n Z.1 rfl yt_X12_copyAll_44 (yr_mono x_ld (yr_iload_n Z.1 rfl yt_X12_copyAll_45 (yr_mono x_calV (yr_calV rfl (y_hrunS Z (y := (yX12_copyRow, cX12_copyRow, 5, none)) (m_X12_copyRow_1 l) (ycs_of yw_X12_copyRow 125 yt_X12_copyAll_46 yl_RX12_125 rfl (by decide) (by decide))) (yr_mono x_ld (yr_aload_n Z.1 rfl (by decide) yt_X12_copyAll_49 (yr_mono x_getc (yr_getP (lo := 0) (hi := 2147483647) Z.1 yf_RX12_17 (by decide +kernel) yt_X12_copyAll_50 (yr_mono x_cst (yr_iconst Z.1 yt_X12_copyAll_53 (by decide) (yr_mono x_ld (yr_iload_n Z.1 rfl yt_X12_copyAll_54 (yr_mono x_ld (yr_iload_n Z.1 rfl yt_X12_copyAll_55 (yr_mono x_calV (yr_calV rfl (y_hrunS Z (y := (yX12_copyRow, cX12_copyRow, 5, none)) (m_X12_copyRow_2 l) (ycs_of yw_X12_copyRow 125 yt_X12_copyAll_56 yl_RX12_125 rfl (by decide) (by decide))) (yr_mono x_ld (yr_aload_n Z.1 rfl (by decide) yt_X12_copyAll_59 (yr_mono x_getc (yr_getP (lo := 0) (hi := 2147483647) Z.1 yf_RX12_20 (by decide +kernel) yt_X12_copyAll_60 (yr_mono x_cst (yr_iconst Z.1 yt_X12_copyAll_63 (by decide) (yr_mono x_ld (yr_iload_n Z.1 rfl yt_X12_copyAll_64 (yr_mono x_ld (yr_iload_n Z.1 rfl yt_X12_copyAll_65 (yr_mono x_calV (yr_calV rfl (y_hrunS Z (y := (yX12_copyRow, cX12_copyRow, 5, none)) (m_X12_copyRow_3 l) (ycs_of yw_X12_copyRow 125 yt_X12_copyAll_66 yl_RX12_125 rfl (by decide) (by decide))) (yr_mono x_ld (yr_aload_n Z.1 rfl (by decide) yt_X12_copyAll_69 (yr_mono x_getc (yr_getP (lo := 0) (hi := 2147483647) Z.1 yf_RX12_23 (by decide +kernel) yt_X12_copyAll_70 (yr_mono x_cst (yr_iconst Z.1 yt_X12_copyAll_73 (by decide) (yr_mono x_ld (yr_iload_n Z.1 rfl yt_X12_copyAll_74 (yr_mono x_ld (yr_iload_n Z.1 rfl yt_X12_copyAll_75 (yr_mono x_calV (yr_calV rfl (y_hrunS Z (y := (yX12_copyRow, cX12_copyRow, 5, none)) (m_X12_copyRow_4 l) (ycs_of yw_X12_copyRow 125 yt_X12_copyAll_76 yl_RX12_125 rfl (by decide) (by decide))) (yr_mono x_ld (yr_aload_n Z.1 rfl (by decide) yt_X12_copyAll_79 (yr_mono x_getc (yr_getP (lo := 0) (hi := 2147483647) Z.1 yf_RX12_26 (by decide +kernel) yt_X12_copyAll_80 (yr_mono x_cst (yr_bipush Z.1 yt_X12_copyAll_83 (by decide) (yr_mono x_ld (yr_iload_n Z.1 rfl yt_X12_copyAll_85 (yr_mono x_ld (yr_iload_n Z.1 rfl yt_X12_copyAll_86 (yr_mono x_calV (yr_calV rfl (y_hrunS Z (y := (yX12_copyRow, cX12_copyRow, 5, none)) (m_X12_copyRow_5 l) (ycs_of yw_X12_copyRow 125 yt_X12_copyAll_87 yl_RX12_125 rfl (by decide) (by decide))) (yr_mono x_ld (yr_aload_n Z.1 rfl (by decide) yt_X12_copyAll_90 (yr_mono x_getc (yr_getP (lo := 0) (hi := 2147483647) Z.1 yf_RX12_29 (by decide +kernel) yt_X12_copyAll_91 (yr_mono x_cst (yr_sipush Z.1 yt_X12_copyAll_94 (by decide) (yr_mono x_ld (yr_iload_n Z.1 rfl yt_X12_copyAll_97 (yr_mono x_ld (yr_iload_n Z.1 rfl yt_X12_copyAll_98 (yr_mono x_calV (yr_calV rfl (y_hrunS Z (y := (yX12_copyRow, cX12_copyRow, 5, none)) (m_X12_copyRow_6 l) (ycs_of yw_X12_copyRow 125 yt_X12_copyAll_99 yl_RX12_125 rfl (by decide) (by decide))) (yr_mono x_ld (yr_aload_n Z.1 rfl (by decide) yt_X12_copyAll_102 (yr_mono x_getc (yr_getP (lo := 0) (hi := 2147483647) Z.1 yf_RX12_32 (by decide +kernel) yt_X12_copyAll_103 (yr_mono x_cst (yr_bipush Z.1 yt_X12_copyAll_106 (by decide) (yr_mono x_ld (yr_iload_n Z.1 rfl yt_X12_copyAll_108 (yr_mono x_ld (yr_iload_n Z.1 rfl yt_X12_copyAll_109 (yr_mono x_calV (yr_calV rfl (y_hrunS Z (y := (yX12_copyRow, cX12_copyRow, 5, none)) (m_X12_copyRow_7 l) (ycs_of yw_X12_copyRow 125 yt_X12_copyAll_110 yl_RX12_125 rfl (by decide) (by decide))) (yr_mono x_rv (yr_rv Z rfl yt_X12_copyAll_113)))))))))))))))))))))))))))))))))))))))))))))))))))))))))))))))))))))))))))))))))))))) (yr_mono x_ld (yr_aload_n Z.1 rfl (by decide) yt_X12_copyAll_9 (yr_mono x_getc (yr_getP (lo := 0) (hi := 2147483647) Z.1 yf_RX12_7 (by decide +kernel) yt_X12_copyAll_10 (yr_mono x_cst (yr_sipush Z.1 yt_X12_copyAll_13 (by decide) (yr_mono x_ld (yr_iload_n Z.1 rfl yt_X12_copyAll_16 (yr_mono x_mul (yr_mul Z.1 yt_X12_copyAll_17 (yr_mono x_ld (yr_iload_n Z.1 rfl yt_X12_copyAll_18 (yr_mono x_add (yr_add Z.1 yt_X12_copyAll_19 (yr_mono x_ld (yr_aload_n Z.1 rfl (by decide) yt_X12_copyAll_20 (yr_mono x_getc (yr_getP (lo := 0) (hi := 2147483647) Z.1 yf_RX12_7 (by decide +kernel) yt_X12_copyAll_21 (yr_mono x_cst (yr_sipush Z.1 yt_X12_copyAll_24 (by decide) (yr_mono x_ld (yr_iload_n Z.1 rfl yt_X12_copyAll_27 (yr_mono x_mul (yr_mul Z.1 yt_X12_copyAll_28 (yr_mono x_ld (yr_iload_n Z.1 rfl yt_X12_copyAll_29 (yr_mono x_add (yr_add Z.1 yt_X12_copyAll_30 (yr_mono x_ald (yr_bald (lo := (-128)) (hi := 127) Z.1 (Or.inl rfl) (by decide +kernel) yt_X12_copyAll_31 (yr_mono x_ast (yr_bast (lo := (-128)) (hi := 127) Z.1 (by decide +kernel) yt_X12_copyAll_32 (yr_mono x_inc (yr_inc Z.1 (by decide) (by decide) yt_X12_copyAll_33 (yr_goto Z.1 yt_X12_copyAll_36 (by decide) hI2)))))))))))))))))))))))))))))))))))))))))
def xl_X12_copyAll : Nat → Nat → yK
  | 0, _ => fun _ _ => none
  | n + 1, pc => (cond (Nat.beq pc 2) (xq_X12_copyAll_2 n (xl_X12_copyAll n)) (fun _ _ => none))
theorem l_X12_copyAll {η : zRn} {D : va_G} {cy : Nat → ClassId} {L : List Nat} {Θ : Nat → Option Nat} {p : Program} {l : Launch} {e : Env} {R : Room} {s : State} {m : MethodId} {args : Array Value} {below : List Frame} {meth : Method} {c : Code} {Q : State → Prop} {Qr : yQt} (Z : yCz η zkdm D vwCl cy L Θ 4 p l e R s m args below meth c Q cX12_copyAll (tyW cy) RX12 zTW zKPr tyW none 1 24 Qr) : ∀ n, yGo η zkdm D vwCl cy L Θ 4 p l e R s m args below meth c Q 2 (xw Qr 0 (xJ [(0, 100037), (1, 0), (2, 0), (3, 0)] [] (xl_X12_copyAll n 2))) := fun n => by
  induction n with
  | zero => exact xr_J0
  | succ n ih => exact s_X12_copyAll_2 (n := n) (K := xl_X12_copyAll n) Z ih
theorem yt_X12_copyAll_0 : decode cX12_copyAll 0 = .ok (.iconst 0, 1) := dcR 0 0 dcs_cX12_copyAll_0 (by decide +kernel)
theorem yt_X12_copyAll_1 : decode cX12_copyAll 1 = .ok (.istore_n 3, 1) := dcR 0 1 dcs_cX12_copyAll_0 (by decide +kernel)
def xp_X12_copyAll (n : Nat) (K : Nat → yK) : yX := (xCst 0 0 (xSt 3 0 (xJ [(0, 100037), (1, 0), (2, 0), (3, 0)] [] (K 2))))
theorem s_X12_copyAll {η : zRn} {D : va_G} {cy : Nat → ClassId} {L : List Nat} {Θ : Nat → Option Nat} {p : Program} {l : Launch} {e : Env} {R : Room} {s : State} {m : MethodId} {args : Array Value} {below : List Frame} {meth : Method} {c : Code} {Q : State → Prop} {Qr : yQt} {n : Nat} {K : Nat → yK} (Z : yCz η zkdm D vwCl cy L Θ 4 p l e R s m args below meth c Q cX12_copyAll (tyW cy) RX12 zTW zKPr tyW none 1 24 Qr) (hI2 : yGo η zkdm D vwCl cy L Θ 4 p l e R s m args below meth c Q 2 (xw Qr 0 (xJ [(0, 100037), (1, 0), (2, 0), (3, 0)] [] (K 2)))) : yGo η zkdm D vwCl cy L Θ 4 p l e R s m args below meth c Q 0 (xw Qr 0 (xp_X12_copyAll n K)) := (yr_mono x_cst (yr_iconst Z.1 yt_X12_copyAll_0 (by decide) (yr_mono x_st (yr_istore_n Z.1 rfl (by decide) yt_X12_copyAll_1 hI2))))
def f_X12_copyAll : yFn := fun n ys h => (fun n => xp_X12_copyAll n (xl_X12_copyAll n)) n (yar 0 ([100037, 0, 0].zip ys)) [] h
theorem m_X12_copyAll (l : Launch) : yMet zkdm vwCl zTW zKPr l (yX12_copyAll, cX12_copyAll, 4, none) 1 24 [100037, 0, 0] (yF 0 f_X12_copyAll) := y_metF zkpr_ok zTW_good (yX12_copyAll, cX12_copyAll, 4, none) 1 24 [100037, 0, 0] 0 (fun n => xp_X12_copyAll n (xl_X12_copyAll n)) (by decide +kernel) (by decide) (fun η D cy L Θ p e R s m args below meth c Q Qr n Z => s_X12_copyAll (n := n) (K := xl_X12_copyAll n) Z (l_X12_copyAll Z n))
set_option maxRecDepth 100000 in
theorem e_X12_copyAll_2 {n : Nat} {x1 x2 x3 : Int} {h : yH} : xl_X12_copyAll (n + 1) 2 [35, x1, x2, x3] h = if x3 < 600 then (xg (h 35 1 = 0) (xg (-2147483648 ≤ 600 * x2 ∧ 600 * x2 ≤ 2147483647) (xg (-2147483648 ≤ (600 * x2) + x3 ∧ (600 * x2) + x3 ≤ 2147483647) (xg (h 35 1 = 0) (xg (-2147483648 ≤ 600 * x1 ∧ 600 * x1 ≤ 2147483647) (xg (-2147483648 ≤ (600 * x1) + x3 ∧ (600 * x1) + x3 ≤ 2147483647) (xg (0 ≤ ((600 * x1) + x3) ∧ ((600 * x1) + x3) < 2400) (xg (0 ≤ ((600 * x2) + x3) ∧ ((600 * x2) + x3) < 2400) (xg ((-128) ≤ (h 0 ((600 * x1) + x3).toNat) ∧ (h 0 ((600 * x1) + x3).toNat) ≤ 127) (xg (-2147483648 ≤ x3 + 1 ∧ x3 + 1 ≤ 2147483647) (xl_X12_copyAll n 2 [35, x1, x2, (x3 + 1)] (zup h 0 ((600 * x2) + x3).toNat (h 0 ((600 * x1) + x3).toNat))))))))))))) else (xg (h 35 2 = 1) (xb (f_X12_copyRow_1 n [1, 1, x1, x2] h) (fun _ h1 => xg (h1 35 3 = 2) (xb (f_X12_copyRow_2 n [2, 1, x1, x2] h1) (fun _ h2 => xg (h2 35 4 = 3) (xb (f_X12_copyRow_3 n [3, 1, x1, x2] h2) (fun _ h3 => xg (h3 35 5 = 4) (xb (f_X12_copyRow_4 n [4, 3, x1, x2] h3) (fun _ h4 => xg (h4 35 6 = 5) (xb (f_X12_copyRow_5 n [5, 100, x1, x2] h4) (fun _ h5 => xg (h5 35 7 = 6) (xb (f_X12_copyRow_6 n [6, 242, x1, x2] h5) (fun _ h6 => xg (h6 35 8 = 7) (xb (f_X12_copyRow_7 n [7, 104, x1, x2] h6) (fun _ h7 => some (0, h7)))))))))))))))) := by rfl
set_option maxRecDepth 100000 in
theorem e_X12_copyAll {n : Nat} {x1 x2 : Int} {h : yH} : f_X12_copyAll n [35, x1, x2] h = xl_X12_copyAll n 2 [35, x1, x2, 0] h := by rfl
set_option maxRecDepth 100000 in
theorem yq_X12_image : tables_1_8[146]? = some (.code yX12_image cX12_image 2 (some .boolean)) := rfl
theorem yw_X12_image : zMV yX12_image cX12_image 2 (some .boolean) 1 := ⟨⟨zTi_1 13 (by decide +kernel) rfl, zTi_8 146 yq_X12_image rfl, ⟨by decide, by decide⟩, by decide +kernel⟩, zTi_8 144 (by decide +kernel) rfl, zTi_8 145 (by decide +kernel) rfl⟩
theorem yt_X12_image_0 : decode cX12_image 0 = .ok (.aload_n 0, 1) := by decide +kernel
theorem yt_X12_image_1 : decode cX12_image 1 = .ok (.iconst 0, 1) := by decide +kernel
theorem yt_X12_image_2 : decode cX12_image 2 = .ok (.putfield 117, 3) := by decide +kernel
theorem yt_X12_image_5 : decode cX12_image 5 = .ok (.iload_n 1, 1) := by decide +kernel
theorem yt_X12_image_6 : decode cX12_image 6 = .ok (.iconst 0, 1) := by decide +kernel
theorem yt_X12_image_7 : decode cX12_image 7 = .ok (.iconst 2, 1) := by decide +kernel
theorem yt_X12_image_8 : decode cX12_image 8 = .ok (.invokestatic 129, 3) := by decide +kernel
theorem yt_X12_image_11 : decode cX12_image 11 = .ok (.ifCond .ne 5, 3) := by decide +kernel
theorem yt_X12_image_16 : decode cX12_image 16 = .ok (.aload_n 0, 1) := by decide +kernel
theorem yt_X12_image_17 : decode cX12_image 17 = .ok (.iconst 0, 1) := by decide +kernel
theorem yt_X12_image_18 : decode cX12_image 18 = .ok (.iload_n 1, 1) := by decide +kernel
theorem yt_X12_image_19 : decode cX12_image 19 = .ok (.iconst 1, 1) := by decide +kernel
theorem yt_X12_image_20 : decode cX12_image 20 = .ok (.iadd, 1) := by decide +kernel
theorem yt_X12_image_21 : decode cX12_image 21 = .ok (.invokevirtual 484, 3) := by decide +kernel
theorem yl_RX12_484 : Cond.methodLink RX12 484 yX12_copyAll ∈ zTW := zTi_8 147 (by decide +kernel) rfl
theorem yt_X12_image_24 : decode cX12_image 24 = .ok (.aload_n 0, 1) := by decide +kernel
theorem yt_X12_image_25 : decode cX12_image 25 = .ok (.getfield 114, 3) := by decide +kernel
theorem yf_RX12_114 : zFok RX12 zTW vwCl (114, 12, 63, none) := ⟨RX12, TX12, 64, rfl, zx_12, by decide, zTi_6 62 (by decide +kernel) rfl, fun _ h => by cases h⟩
theorem yt_X12_image_28 : decode cX12_image 28 = .ok (.iload_n 1, 1) := by decide +kernel
theorem yt_X12_image_29 : decode cX12_image 29 = .ok (.iconst 1, 1) := by decide +kernel
theorem yt_X12_image_30 : decode cX12_image 30 = .ok (.bastore, 1) := by decide +kernel
theorem yt_X12_image_31 : decode cX12_image 31 = .ok (.iconst 1, 1) := by decide +kernel
theorem yt_X12_image_32 : decode cX12_image 32 = .ok (.ireturn, 1) := by decide +kernel
theorem yt_X12_image_14 : decode cX12_image 14 = .ok (.iconst 0, 1) := by decide +kernel
theorem yt_X12_image_15 : decode cX12_image 15 = .ok (.ireturn, 1) := by decide +kernel
def xp_X12_image (n : Nat) : yX := (xLd 0 100037 (xCst 0 0 (xPut0 35 0 0 (xLd 1 0 (xCst 0 0 (xCst 0 2 (xCalR 3 [0, 0, 0] 0 (f_X12_in n) (xEq0 (xCst 0 0 xRz) (xLd 0 100037 (xCst 0 0 (xLd 1 0 (xCst 0 1 (xAdd (xCalV 3 [100037, 0, 0] (f_X12_copyAll n) (xLd 0 100037 (xGetC 35 63 34 34 (xLd 1 0 (xCst 0 1 (xAst 34 3 (fun _ => 0) (fun _ => 1) (xCst 0 1 xRz))))))))))))))))))))
theorem s_X12_image {η : zRn} {D : va_G} {cy : Nat → ClassId} {L : List Nat} {Θ : Nat → Option Nat} {p : Program} {l : Launch} {e : Env} {R : Room} {s : State} {m : MethodId} {args : Array Value} {below : List Frame} {meth : Method} {c : Code} {Q : State → Prop} {Qr : yQt} {n : Nat} (Z : yCz η zkdm D vwCl cy L Θ 2 p l e R s m args below meth c Q cX12_image (tyW cy) RX12 zTW zKPr tyW (some .boolean) 2 47 Qr) : yGo η zkdm D vwCl cy L Θ 2 p l e R s m args below meth c Q 0 (xw Qr 0 (xp_X12_image n)) := (yr_mono x_ld (yr_aload_n Z.1 rfl (by decide) yt_X12_image_0 (yr_mono x_cst (yr_iconst Z.1 yt_X12_image_1 (by decide) (yr_mono x_put0 (yr_put0 (lo := (-2147483648)) (hi := 2147483647) Z.1 yf_RX12_117 (by decide +kernel) (Or.inl ⟨rfl, rfl, rfl⟩) (by decide) yt_X12_image_2 (yr_mono x_ld (yr_iload_n Z.1 rfl yt_X12_image_5 (yr_mono x_cst (yr_iconst Z.1 yt_X12_image_6 (by decide) (yr_mono x_cst (yr_iconst Z.1 yt_X12_image_7 (by decide) (yr_mono x_calR (yr_calR rfl (y_hrunS Z (y := (yX12_in, cX12_in, 3, (some .boolean))) (m_X12_in l) (ycs_of yw_X12_in 129 yt_X12_image_8 yl_RX12_129 rfl (by decide) (by decide))) (yr_mono x_eq0 (yr_ne0 Z.1 yt_X12_image_11 (by decide) (yr_mono x_ld (yr_aload_n Z.1 rfl (by decide) yt_X12_image_16 (yr_mono x_cst (yr_iconst Z.1 yt_X12_image_17 (by decide) (yr_mono x_ld (yr_iload_n Z.1 rfl yt_X12_image_18 (yr_mono x_cst (yr_iconst Z.1 yt_X12_image_19 (by decide) (yr_mono x_add (yr_add Z.1 yt_X12_image_20 (yr_mono x_calV (yr_calV rfl (y_hrunV Z (y := (yX12_copyAll, cX12_copyAll, 4, none)) (m_X12_copyAll l) (ycv_of yw_X12_copyAll 484 yt_X12_image_21 yl_RX12_484 rfl (by decide) (by decide) ⟨35, _, _, _, _, rfl, zkdm_35, rfl, rfl⟩)) (yr_mono x_ld (yr_aload_n Z.1 rfl (by decide) yt_X12_image_24 (yr_mono x_getc (yr_getP (lo := 0) (hi := 2147483647) Z.1 yf_RX12_114 (by decide +kernel) yt_X12_image_25 (yr_mono x_ld (yr_iload_n Z.1 rfl yt_X12_image_28 (yr_mono x_cst (yr_iconst Z.1 yt_X12_image_29 (by decide) (yr_mono x_ast (yr_zast (lo := 0) (hi := 1) Z.1 (by decide +kernel) yt_X12_image_30 (yr_mono x_cst (yr_iconst Z.1 yt_X12_image_31 (by decide) (yr_mono x_rz (yr_rz Z rfl yt_X12_image_32)))))))))))))))))))))))))) (yr_mono x_cst (yr_iconst Z.1 yt_X12_image_14 (by decide) (yr_mono x_rz (yr_rz Z rfl yt_X12_image_15))))))))))))))))))))
def f_X12_image : yFn := fun n ys h => (fun n => xp_X12_image n) n (yar 0 ([100037, 0].zip ys)) [] h
theorem m_X12_image (l : Launch) : yMet zkdm vwCl zTW zKPr l (yX12_image, cX12_image, 2, (some .boolean)) 2 47 [100037, 0] (yF 0 f_X12_image) := y_metF zkpr_ok zTW_good (yX12_image, cX12_image, 2, (some .boolean)) 2 47 [100037, 0] 0 (fun n => xp_X12_image n) (by decide +kernel) (by decide) (fun η D cy L Θ p e R s m args below meth c Q Qr n Z => s_X12_image (n := n) Z)
set_option maxRecDepth 100000 in
theorem e_X12_image {n : Nat} {x1 : Int} {h : yH} : f_X12_image n [35, x1] h = xb (f_X12_in n [x1, 0, 2] (zup h 35 0 0)) (fun v1 h1 => if v1 = 0 then (some (0, h1)) else (xg (-2147483648 ≤ x1 + 1 ∧ x1 + 1 ≤ 2147483647) (xb (f_X12_copyAll n [35, 0, (x1 + 1)] h1) (fun _ h2 => xg (h2 35 63 = 34) (xg (0 ≤ x1 ∧ x1 < 3) (some (1, zup h2 34 x1.toNat 1))))))) := by rfl
set_option maxRecDepth 100000 in
theorem yq_X12_again : tables_1_8[157]? = some (.code yX12_again cX12_again 2 (some .boolean)) := rfl
theorem yw_X12_again : zMV yX12_again cX12_again 2 (some .boolean) 1 := ⟨⟨zTi_1 13 (by decide +kernel) rfl, zTi_8 157 yq_X12_again rfl, ⟨by decide, by decide⟩, by decide +kernel⟩, zTi_8 155 (by decide +kernel) rfl, zTi_8 156 (by decide +kernel) rfl⟩
theorem yt_X12_again_0 : decode cX12_again 0 = .ok (.aload_n 0, 1) := by decide +kernel
theorem yt_X12_again_1 : decode cX12_again 1 = .ok (.iconst 0, 1) := by decide +kernel
theorem yt_X12_again_2 : decode cX12_again 2 = .ok (.putfield 117, 3) := by decide +kernel
theorem yt_X12_again_5 : decode cX12_again 5 = .ok (.iload_n 1, 1) := by decide +kernel
theorem yt_X12_again_6 : decode cX12_again 6 = .ok (.iconst 0, 1) := by decide +kernel
theorem yt_X12_again_7 : decode cX12_again 7 = .ok (.iconst 2, 1) := by decide +kernel
theorem yt_X12_again_8 : decode cX12_again 8 = .ok (.invokestatic 129, 3) := by decide +kernel
theorem yt_X12_again_11 : decode cX12_again 11 = .ok (.ifCond .eq 12, 3) := by decide +kernel
theorem yt_X12_again_23 : decode cX12_again 23 = .ok (.iconst 0, 1) := by decide +kernel
theorem yt_X12_again_24 : decode cX12_again 24 = .ok (.ireturn, 1) := by decide +kernel
theorem yt_X12_again_14 : decode cX12_again 14 = .ok (.aload_n 0, 1) := by decide +kernel
theorem yt_X12_again_15 : decode cX12_again 15 = .ok (.getfield 114, 3) := by decide +kernel
theorem yt_X12_again_18 : decode cX12_again 18 = .ok (.iload_n 1, 1) := by decide +kernel
theorem yt_X12_again_19 : decode cX12_again 19 = .ok (.baload, 1) := by decide +kernel
theorem yt_X12_again_20 : decode cX12_again 20 = .ok (.ifCond .ne 5, 3) := by decide +kernel
theorem yt_X12_again_25 : decode cX12_again 25 = .ok (.aload_n 0, 1) := by decide +kernel
theorem yt_X12_again_26 : decode cX12_again 26 = .ok (.iload_n 1, 1) := by decide +kernel
theorem yt_X12_again_27 : decode cX12_again 27 = .ok (.iconst 1, 1) := by decide +kernel
theorem yt_X12_again_28 : decode cX12_again 28 = .ok (.iadd, 1) := by decide +kernel
theorem yt_X12_again_29 : decode cX12_again 29 = .ok (.iconst 0, 1) := by decide +kernel
theorem yt_X12_again_30 : decode cX12_again 30 = .ok (.invokevirtual 484, 3) := by decide +kernel
theorem yt_X12_again_33 : decode cX12_again 33 = .ok (.iconst 1, 1) := by decide +kernel
theorem yt_X12_again_34 : decode cX12_again 34 = .ok (.ireturn, 1) := by decide +kernel
def xp_X12_again (n : Nat) : yX := (xLd 0 100037 (xCst 0 0 (xPut0 35 0 0 (xLd 1 0 (xCst 0 0 (xCst 0 2 (xCalR 3 [0, 0, 0] 0 (f_X12_in n) (xEq0 (xCst 0 0 xRz) (xLd 0 100037 (xGetC 35 63 34 34 (xLd 1 0 (xAld 34 3 (xEq0 (xCst 0 0 xRz) (xLd 0 100037 (xLd 1 0 (xCst 0 1 (xAdd (xCst 0 0 (xCalV 3 [100037, 0, 0] (f_X12_copyAll n) (xCst 0 1 xRz))))))))))))))))))))
theorem s_X12_again {η : zRn} {D : va_G} {cy : Nat → ClassId} {L : List Nat} {Θ : Nat → Option Nat} {p : Program} {l : Launch} {e : Env} {R : Room} {s : State} {m : MethodId} {args : Array Value} {below : List Frame} {meth : Method} {c : Code} {Q : State → Prop} {Qr : yQt} {n : Nat} (Z : yCz η zkdm D vwCl cy L Θ 2 p l e R s m args below meth c Q cX12_again (tyW cy) RX12 zTW zKPr tyW (some .boolean) 2 47 Qr) : yGo η zkdm D vwCl cy L Θ 2 p l e R s m args below meth c Q 0 (xw Qr 0 (xp_X12_again n)) := (yr_mono x_ld (yr_aload_n Z.1 rfl (by decide) yt_X12_again_0 (yr_mono x_cst (yr_iconst Z.1 yt_X12_again_1 (by decide) (yr_mono x_put0 (yr_put0 (lo := (-2147483648)) (hi := 2147483647) Z.1 yf_RX12_117 (by decide +kernel) (Or.inl ⟨rfl, rfl, rfl⟩) (by decide) yt_X12_again_2 (yr_mono x_ld (yr_iload_n Z.1 rfl yt_X12_again_5 (yr_mono x_cst (yr_iconst Z.1 yt_X12_again_6 (by decide) (yr_mono x_cst (yr_iconst Z.1 yt_X12_again_7 (by decide) (yr_mono x_calR (yr_calR rfl (y_hrunS Z (y := (yX12_in, cX12_in, 3, (some .boolean))) (m_X12_in l) (ycs_of yw_X12_in 129 yt_X12_again_8 yl_RX12_129 rfl (by decide) (by decide))) (yr_mono x_eq0 (yr_eq0 Z.1 yt_X12_again_11 (by decide) (yr_mono x_cst (yr_iconst Z.1 yt_X12_again_23 (by decide) (yr_mono x_rz (yr_rz Z rfl yt_X12_again_24)))) (yr_mono x_ld (yr_aload_n Z.1 rfl (by decide) yt_X12_again_14 (yr_mono x_getc (yr_getP (lo := 0) (hi := 2147483647) Z.1 yf_RX12_114 (by decide +kernel) yt_X12_again_15 (yr_mono x_ld (yr_iload_n Z.1 rfl yt_X12_again_18 (yr_mono x_ald (yr_bald (lo := 0) (hi := 1) Z.1 (Or.inr rfl) (by decide +kernel) yt_X12_again_19 (yr_mono x_eq0 (yr_ne0 Z.1 yt_X12_again_20 (by decide) (yr_mono x_ld (yr_aload_n Z.1 rfl (by decide) yt_X12_again_25 (yr_mono x_ld (yr_iload_n Z.1 rfl yt_X12_again_26 (yr_mono x_cst (yr_iconst Z.1 yt_X12_again_27 (by decide) (yr_mono x_add (yr_add Z.1 yt_X12_again_28 (yr_mono x_cst (yr_iconst Z.1 yt_X12_again_29 (by decide) (yr_mono x_calV (yr_calV rfl (y_hrunV Z (y := (yX12_copyAll, cX12_copyAll, 4, none)) (m_X12_copyAll l) (ycv_of yw_X12_copyAll 484 yt_X12_again_30 yl_RX12_484 rfl (by decide) (by decide) ⟨35, _, _, _, _, rfl, zkdm_35, rfl, rfl⟩)) (yr_mono x_cst (yr_iconst Z.1 yt_X12_again_33 (by decide) (yr_mono x_rz (yr_rz Z rfl yt_X12_again_34)))))))))))))))) (yr_mono x_cst (yr_iconst Z.1 yt_X12_again_23 (by decide) (yr_mono x_rz (yr_rz Z rfl yt_X12_again_24))))))))))))))))))))))))))))))
def f_X12_again : yFn := fun n ys h => (fun n => xp_X12_again n) n (yar 0 ([100037, 0].zip ys)) [] h
theorem m_X12_again (l : Launch) : yMet zkdm vwCl zTW zKPr l (yX12_again, cX12_again, 2, (some .boolean)) 2 47 [100037, 0] (yF 0 f_X12_again) := y_metF zkpr_ok zTW_good (yX12_again, cX12_again, 2, (some .boolean)) 2 47 [100037, 0] 0 (fun n => xp_X12_again n) (by decide +kernel) (by decide) (fun η D cy L Θ p e R s m args below meth c Q Qr n Z => s_X12_again (n := n) Z)
set_option maxRecDepth 100000 in
theorem e_X12_again {n : Nat} {x1 : Int} {h : yH} : f_X12_again n [35, x1] h = xb (f_X12_in n [x1, 0, 2] (zup h 35 0 0)) (fun v1 h1 => if v1 = 0 then (some (0, h1)) else (xg (h1 35 63 = 34) (xg (0 ≤ x1 ∧ x1 < 3) (if (h1 34 x1.toNat) = 0 then (some (0, h1)) else (xg (-2147483648 ≤ x1 + 1 ∧ x1 + 1 ≤ 2147483647) (xb (f_X12_copyAll n [35, (x1 + 1), 0] h1) (fun _ h2 => some (1, h2)))))))) := by rfl
end
section
/-! told over, whatever is told (the fields within their bounds) -/
set_option maxHeartbeats 1000000 in
theorem copy6g {n d s : Nat} {h : yH} (hd : d + 8 ≤ s ∨ s + 8 ≤ d) (pd : h d 5 = (d : Int) + 1 ∧ h d 7 = (d : Int) + 2 ∧ h d 8 = (d : Int) + 3 ∧ h d 9 = (d : Int) + 4 ∧ h d 11 = (d : Int) + 5 ∧ h d 12 = (d : Int) + 6 ∧ h d 13 = (d : Int) + 7) (ps : h s 5 = (s : Int) + 1 ∧ h s 7 = (s : Int) + 2 ∧ h s 8 = (s : Int) + 3 ∧ h s 9 = (s : Int) + 4 ∧ h s 11 = (s : Int) + 5 ∧ h s 12 = (s : Int) + 6 ∧ h s 13 = (s : Int) + 7) (hb : (0 ≤ h s 0 ∧ h s 0 ≤ 8) ∧ (0 ≤ h s 1 ∧ h s 1 ≤ 8) ∧ (0 ≤ h s 2 ∧ h s 2 ≤ 3) ∧ (0 ≤ h s 6 ∧ h s 6 ≤ 4) ∧ (0 ≤ h s 10 ∧ h s 10 ≤ 6)) : ∃ h2, f_X6_copyFrom n [(d : Int), (s : Int)] h = some (0, h2) ∧ (∀ t : Nat → Int, cS s t h → cS d t h2) ∧ ∀ a j, ¬ (d ≤ a ∧ a ≤ d + 7) ∨ (a = d ∧ (j = 5 ∨ j = 7 ∨ j = 8 ∨ j = 9 ∨ j = 11 ∨ j = 12 ∨ j = 13)) → h2 a j = h a j := by
  obtain ⟨pd5, pd7, pd8, pd9, pd11, pd12, pd13⟩ := pd
  obtain ⟨ps5, ps7, ps8, ps9, ps11, ps12, ps13⟩ := ps
  obtain ⟨b0, b1, b2, b6, b10⟩ := hb
  rw [e_X6_copyFrom]
  simp only [Int.toNat_natCast]
  have R0 := cp_0 d s h
  have hs : ∀ {F : Nat → Nat → Prop} {g : yH} {j : Nat}, cpR F d s h g → g s j = h s j := fun R => R.s0 (r := 0) hd (by omega)
  rw [xg_pos (by rw [hs R0]; exact b0)]
  have R1 := cp_up (J := 0) R0 hd
  rw [xh_e]
  generalize zup h d 0 (h s 0) = g1 at R1 ⊢
  rw [xg_pos (by rw [hs R1]; exact b1)]
  have R2 := cp_up (J := 1) R1 hd
  rw [xh_e]
  generalize zup g1 d 1 (g1 s 1) = g2 at R2 ⊢
  rw [xg_pos (by rw [hs R2]; exact b2)]
  have R3 := cp_up (J := 2) R2 hd
  rw [xh_e]
  generalize zup g2 d 2 (g2 s 2) = g3 at R3 ⊢
  have R4 := cp_up (J := 3) R3 hd
  rw [xh_e]
  generalize zup g3 d 3 (g3 s 3) = g4 at R4 ⊢
  have R5 := cp_up (J := 4) R4 hd
  rw [xh_e]
  generalize zup g4 d 4 (g4 s 4) = g5 at R5 ⊢
  rw [xg_pos (show g5 s 5 = (s : Int) + 1 by rw [hs R5]; exact ps5), xg_pos (show g5 d 5 = (d : Int) + 1 by rw [R5.d0 (by simp)]; exact pd5), xg_pos (show g5 d 5 = (d : Int) + 1 by rw [R5.d0 (by simp)]; exact pd5)]
  rw [show ((d : Int) + 1).toNat = d + 1 by omega, show ((s : Int) + 1).toNat = s + 1 by omega]
  have R6 := cp_cy (r0 := 1) (L := 12) R5 hd (by decide)
  rw [xh_e]
  generalize zcy g5 (d + 1) (s + 1) 0 0 12 = g6 at R6 ⊢
  rw [xg_pos (by rw [hs R6]; exact b6)]
  have R7 := cp_up (J := 6) R6 hd
  rw [xh_e]
  generalize zup g6 d 6 (g6 s 6) = g7 at R7 ⊢
  rw [xg_pos (show g7 s 7 = (s : Int) + 2 by rw [hs R7]; exact ps7), xg_pos (show g7 d 7 = (d : Int) + 2 by rw [R7.d0 (by simp)]; exact pd7)]
  rw [show ((d : Int) + 2).toNat = d + 2 by omega, show ((s : Int) + 2).toNat = s + 2 by omega]
  have R8 := cp_cy (r0 := 2) (L := 4) R7 hd (by decide)
  rw [xh_e]
  generalize zcy g7 (d + 2) (s + 2) 0 0 4 = g8 at R8 ⊢
  rw [xg_pos (show g8 s 8 = (s : Int) + 3 by rw [hs R8]; exact ps8), xg_pos (show g8 d 8 = (d : Int) + 3 by rw [R8.d0 (by simp)]; exact pd8)]
  rw [show ((d : Int) + 3).toNat = d + 3 by omega, show ((s : Int) + 3).toNat = s + 3 by omega]
  have R9 := cp_cy (r0 := 3) (L := 4) R8 hd (by decide)
  rw [xh_e]
  generalize zcy g8 (d + 3) (s + 3) 0 0 4 = g9 at R9 ⊢
  rw [xg_pos (show g9 s 9 = (s : Int) + 4 by rw [hs R9]; exact ps9), xg_pos (show g9 d 9 = (d : Int) + 4 by rw [R9.d0 (by simp)]; exact pd9)]
  rw [show ((d : Int) + 4).toNat = d + 4 by omega, show ((s : Int) + 4).toNat = s + 4 by omega]
  have R10 := cp_cy (r0 := 4) (L := 4) R9 hd (by decide)
  rw [xh_e]
  generalize zcy g9 (d + 4) (s + 4) 0 0 4 = g10 at R10 ⊢
  rw [xg_pos (by rw [hs R10]; exact b10)]
  have R11 := cp_up (J := 10) R10 hd
  rw [xh_e]
  generalize zup g10 d 10 (g10 s 10) = g11 at R11 ⊢
  rw [xg_pos (show g11 s 11 = (s : Int) + 5 by rw [hs R11]; exact ps11), xg_pos (show g11 d 11 = (d : Int) + 5 by rw [R11.d0 (by simp)]; exact pd11)]
  rw [show ((d : Int) + 5).toNat = d + 5 by omega, show ((s : Int) + 5).toNat = s + 5 by omega]
  have R12 := cp_cy (r0 := 5) (L := 6) R11 hd (by decide)
  rw [xh_e]
  generalize zcy g11 (d + 5) (s + 5) 0 0 6 = g12 at R12 ⊢
  rw [xg_pos (show g12 s 12 = (s : Int) + 6 by rw [hs R12]; exact ps12), xg_pos (show g12 d 12 = (d : Int) + 6 by rw [R12.d0 (by simp)]; exact pd12)]
  rw [show ((d : Int) + 6).toNat = d + 6 by omega, show ((s : Int) + 6).toNat = s + 6 by omega]
  have R13 := cp_cy (r0 := 6) (L := 6) R12 hd (by decide)
  rw [xh_e]
  generalize zcy g12 (d + 6) (s + 6) 0 0 6 = g13 at R13 ⊢
  rw [xg_pos (show g13 s 13 = (s : Int) + 7 by rw [hs R13]; exact ps13), xg_pos (show g13 d 13 = (d : Int) + 7 by rw [R13.d0 (by simp)]; exact pd13)]
  rw [show ((d : Int) + 7).toNat = d + 7 by omega, show ((s : Int) + 7).toNat = s + 7 by omega]
  have R14 := cp_cy (r0 := 7) (L := 6) R13 hd (by decide)
  rw [xh_e]
  generalize zcy g13 (d + 7) (s + 7) 0 0 6 = g14 at R14 ⊢
  have R15 := cp_up (J := 14) R14 hd
  rw [xh_e]
  generalize zup g14 d 14 (g14 s 14) = g15 at R15 ⊢
  have F0 : g15 d 0 = h s 0 := (R15.1 0 0 (Or.inl (Or.inl (Or.inl (Or.inl (Or.inl (Or.inl (Or.inl (Or.inl (Or.inl (Or.inl (Or.inl (Or.inl (Or.inl (Or.inl (Or.inr ⟨rfl, rfl⟩)))))))))))))))).2
  have F1 : g15 d 1 = h s 1 := (R15.1 0 1 (Or.inl (Or.inl (Or.inl (Or.inl (Or.inl (Or.inl (Or.inl (Or.inl (Or.inl (Or.inl (Or.inl (Or.inl (Or.inl (Or.inr ⟨rfl, rfl⟩))))))))))))))).2
  have F2 : g15 d 2 = h s 2 := (R15.1 0 2 (Or.inl (Or.inl (Or.inl (Or.inl (Or.inl (Or.inl (Or.inl (Or.inl (Or.inl (Or.inl (Or.inl (Or.inl (Or.inr ⟨rfl, rfl⟩)))))))))))))).2
  have F3 : g15 d 3 = h s 3 := (R15.1 0 3 (Or.inl (Or.inl (Or.inl (Or.inl (Or.inl (Or.inl (Or.inl (Or.inl (Or.inl (Or.inl (Or.inl (Or.inr ⟨rfl, rfl⟩))))))))))))).2
  have F4 : g15 d 4 = h s 4 := (R15.1 0 4 (Or.inl (Or.inl (Or.inl (Or.inl (Or.inl (Or.inl (Or.inl (Or.inl (Or.inl (Or.inl (Or.inr ⟨rfl, rfl⟩)))))))))))).2
  have B1 : ∀ j, j < 12 → g15 (d + 1) j = h (s + 1) j := fun j w => (R15.1 1 j (Or.inl (Or.inl (Or.inl (Or.inl (Or.inl (Or.inl (Or.inl (Or.inl (Or.inl (Or.inr ⟨rfl, w⟩))))))))))).2
  have F6 : g15 d 6 = h s 6 := (R15.1 0 6 (Or.inl (Or.inl (Or.inl (Or.inl (Or.inl (Or.inl (Or.inl (Or.inl (Or.inr ⟨rfl, rfl⟩)))))))))).2
  have B2 : ∀ j, j < 4 → g15 (d + 2) j = h (s + 2) j := fun j w => (R15.1 2 j (Or.inl (Or.inl (Or.inl (Or.inl (Or.inl (Or.inl (Or.inl (Or.inr ⟨rfl, w⟩))))))))).2
  have B3 : ∀ j, j < 4 → g15 (d + 3) j = h (s + 3) j := fun j w => (R15.1 3 j (Or.inl (Or.inl (Or.inl (Or.inl (Or.inl (Or.inl (Or.inr ⟨rfl, w⟩)))))))).2
  have B4 : ∀ j, j < 4 → g15 (d + 4) j = h (s + 4) j := fun j w => (R15.1 4 j (Or.inl (Or.inl (Or.inl (Or.inl (Or.inl (Or.inr ⟨rfl, w⟩))))))).2
  have F10 : g15 d 10 = h s 10 := (R15.1 0 10 (Or.inl (Or.inl (Or.inl (Or.inl (Or.inr ⟨rfl, rfl⟩)))))).2
  have B5 : ∀ j, j < 6 → g15 (d + 5) j = h (s + 5) j := fun j w => (R15.1 5 j (Or.inl (Or.inl (Or.inl (Or.inr ⟨rfl, w⟩))))).2
  have B6 : ∀ j, j < 6 → g15 (d + 6) j = h (s + 6) j := fun j w => (R15.1 6 j (Or.inl (Or.inl (Or.inr ⟨rfl, w⟩)))).2
  have B7 : ∀ j, j < 6 → g15 (d + 7) j = h (s + 7) j := fun j w => (R15.1 7 j (Or.inl (Or.inr ⟨rfl, w⟩))).2
  have F14 : g15 d 14 = h s 14 := (R15.1 0 14 (Or.inr ⟨rfl, rfl⟩)).2
  refine ⟨g15, rfl, ?_, fun a j w => R15.2 a j (fun c => ?_)⟩
  · intro t hS
    obtain ⟨a0, a1, a2, a3, a4, a5, a6, a7, a8, a9, a10⟩ := hS
    exact ⟨F0.trans a0, F1.trans a1, F2.trans a2, F3.trans a3, F4.trans a4, F6.trans a5, F10.trans a6, F14.trans a7, fun i hi => (B1 i (by omega)).trans (a8 i hi), fun k hk => ⟨(B2 k (by omega)).trans (a9 k hk).1, (B3 k (by omega)).trans (a9 k hk).2.1, (B4 k (by omega)).trans (a9 k hk).2.2⟩, fun k hk => ⟨(B5 k (by omega)).trans (a10 k hk).1, (B6 k (by omega)).trans (a10 k hk).2.1, (B7 k (by omega)).trans (a10 k hk).2.2⟩⟩
  · obtain ⟨c1, c2⟩ := c
    rcases c2 with ((((((((((((((c2 | c2) | c2) | c2) | c2) | c2) | c2) | c2) | c2) | c2) | c2) | c2) | c2) | c2) | c2) | c2 <;> first | exact c2.elim | omega
set_option maxHeartbeats 1000000 in
theorem copy1g {n d s : Nat} {h : yH} (hd : d + 8 ≤ s ∨ s + 8 ≤ d) (pd : h d 1 = (d : Int) + 1 ∧ h d 2 = (d : Int) + 2) (ps : h s 1 = (s : Int) + 1 ∧ h s 2 = (s : Int) + 2) (hb : (0 ≤ h s 0 ∧ h s 0 ≤ 30)) : ∃ h2, f_X1_copyFrom n [(d : Int), (s : Int)] h = some (0, h2) ∧ (∀ t : Nat → Int, cD s t h → cD d t h2) ∧ ∀ a j, ¬ (d ≤ a ∧ a ≤ d + 7) ∨ (a = d ∧ (j = 1 ∨ j = 2)) → h2 a j = h a j := by
  obtain ⟨pd1, pd2⟩ := pd
  obtain ⟨ps1, ps2⟩ := ps
  have b0 := hb
  rw [e_X1_copyFrom]
  simp only [Int.toNat_natCast]
  have R0 := cp_0 d s h
  have hs : ∀ {F : Nat → Nat → Prop} {g : yH} {j : Nat}, cpR F d s h g → g s j = h s j := fun R => R.s0 (r := 0) hd (by omega)
  rw [xg_pos (by rw [hs R0]; exact b0)]
  have R1 := cp_up (J := 0) R0 hd
  rw [xh_e]
  generalize zup h d 0 (h s 0) = g1 at R1 ⊢
  rw [xg_pos (show g1 s 1 = (s : Int) + 1 by rw [hs R1]; exact ps1), xg_pos (show g1 d 1 = (d : Int) + 1 by rw [R1.d0 (by simp)]; exact pd1)]
  rw [show ((d : Int) + 1).toNat = d + 1 by omega, show ((s : Int) + 1).toNat = s + 1 by omega]
  have R2 := cp_cy (r0 := 1) (L := 30) R1 hd (by decide)
  rw [xh_e]
  generalize zcy g1 (d + 1) (s + 1) 0 0 30 = g2 at R2 ⊢
  rw [xg_pos (show g2 s 2 = (s : Int) + 2 by rw [hs R2]; exact ps2), xg_pos (show g2 d 2 = (d : Int) + 2 by rw [R2.d0 (by simp)]; exact pd2), xg_pos (show g2 d 2 = (d : Int) + 2 by rw [R2.d0 (by simp)]; exact pd2)]
  rw [show ((d : Int) + 2).toNat = d + 2 by omega, show ((s : Int) + 2).toNat = s + 2 by omega]
  have R3 := cp_cy (r0 := 2) (L := 90) R2 hd (by decide)
  rw [xh_e]
  generalize zcy g2 (d + 2) (s + 2) 0 0 90 = g3 at R3 ⊢
  have F0 : g3 d 0 = h s 0 := (R3.1 0 0 (Or.inl (Or.inl (Or.inr ⟨rfl, rfl⟩)))).2
  have B1 : ∀ j, j < 30 → g3 (d + 1) j = h (s + 1) j := fun j w => (R3.1 1 j (Or.inl (Or.inr ⟨rfl, w⟩))).2
  have B2 : ∀ j, j < 90 → g3 (d + 2) j = h (s + 2) j := fun j w => (R3.1 2 j (Or.inr ⟨rfl, w⟩)).2
  refine ⟨g3, rfl, ?_, fun a j w => R3.2 a j (fun c => ?_)⟩
  · intro t hS
    obtain ⟨a0, a1⟩ := hS
    exact ⟨F0.trans a0, fun k hk => ⟨(B1 k (by omega)).trans (a1 k hk).1, (B2 (3 * k) (by omega)).trans (a1 k hk).2.1, (B2 (3 * k + 1) (by omega)).trans (a1 k hk).2.2.1, (B2 (3 * k + 2) (by omega)).trans (a1 k hk).2.2.2⟩⟩
  · obtain ⟨c1, c2⟩ := c
    rcases c2 with ((c2 | c2) | c2) | c2 <;> first | exact c2.elim | omega
set_option maxHeartbeats 1000000 in
theorem copy2g {n d s : Nat} {h : yH} (hd : d + 8 ≤ s ∨ s + 8 ≤ d) (pd : h d 1 = (d : Int) + 1 ∧ h d 2 = (d : Int) + 2 ∧ h d 4 = (d : Int) + 3 ∧ h d 5 = (d : Int) + 4) (ps : h s 1 = (s : Int) + 1 ∧ h s 2 = (s : Int) + 2 ∧ h s 4 = (s : Int) + 3 ∧ h s 5 = (s : Int) + 4) (hb : (0 ≤ h s 0 ∧ h s 0 ≤ 9) ∧ (0 ≤ h s 3 ∧ h s 3 ≤ 16)) : ∃ h2, f_X2_copyFrom n [(d : Int), (s : Int)] h = some (0, h2) ∧ (∀ t : Nat → Int, cQ s t h → cQ d t h2) ∧ ∀ a j, ¬ (d ≤ a ∧ a ≤ d + 7) ∨ (a = d ∧ (j = 1 ∨ j = 2 ∨ j = 4 ∨ j = 5)) → h2 a j = h a j := by
  obtain ⟨pd1, pd2, pd4, pd5⟩ := pd
  obtain ⟨ps1, ps2, ps4, ps5⟩ := ps
  obtain ⟨b0, b3⟩ := hb
  rw [e_X2_copyFrom]
  simp only [Int.toNat_natCast]
  have R0 := cp_0 d s h
  have hs : ∀ {F : Nat → Nat → Prop} {g : yH} {j : Nat}, cpR F d s h g → g s j = h s j := fun R => R.s0 (r := 0) hd (by omega)
  rw [xg_pos (by rw [hs R0]; exact b0)]
  have R1 := cp_up (J := 0) R0 hd
  rw [xh_e]
  generalize zup h d 0 (h s 0) = g1 at R1 ⊢
  rw [xg_pos (show g1 s 1 = (s : Int) + 1 by rw [hs R1]; exact ps1), xg_pos (show g1 d 1 = (d : Int) + 1 by rw [R1.d0 (by simp)]; exact pd1)]
  rw [show ((d : Int) + 1).toNat = d + 1 by omega, show ((s : Int) + 1).toNat = s + 1 by omega]
  have R2 := cp_cy (r0 := 1) (L := 9) R1 hd (by decide)
  rw [xh_e]
  generalize zcy g1 (d + 1) (s + 1) 0 0 9 = g2 at R2 ⊢
  rw [xg_pos (show g2 s 2 = (s : Int) + 2 by rw [hs R2]; exact ps2), xg_pos (show g2 d 2 = (d : Int) + 2 by rw [R2.d0 (by simp)]; exact pd2)]
  rw [show ((d : Int) + 2).toNat = d + 2 by omega, show ((s : Int) + 2).toNat = s + 2 by omega]
  have R3 := cp_cy (r0 := 2) (L := 9) R2 hd (by decide)
  rw [xh_e]
  generalize zcy g2 (d + 2) (s + 2) 0 0 9 = g3 at R3 ⊢
  rw [xg_pos (by rw [hs R3]; exact b3)]
  have R4 := cp_up (J := 3) R3 hd
  rw [xh_e]
  generalize zup g3 d 3 (g3 s 3) = g4 at R4 ⊢
  rw [xg_pos (show g4 s 4 = (s : Int) + 3 by rw [hs R4]; exact ps4), xg_pos (show g4 d 4 = (d : Int) + 3 by rw [R4.d0 (by simp)]; exact pd4)]
  rw [show ((d : Int) + 3).toNat = d + 3 by omega, show ((s : Int) + 3).toNat = s + 3 by omega]
  have R5 := cp_cy (r0 := 3) (L := 16) R4 hd (by decide)
  rw [xh_e]
  generalize zcy g4 (d + 3) (s + 3) 0 0 16 = g5 at R5 ⊢
  rw [xg_pos (show g5 s 5 = (s : Int) + 4 by rw [hs R5]; exact ps5), xg_pos (show g5 d 5 = (d : Int) + 4 by rw [R5.d0 (by simp)]; exact pd5)]
  rw [show ((d : Int) + 4).toNat = d + 4 by omega, show ((s : Int) + 4).toNat = s + 4 by omega]
  have R6 := cp_cy (r0 := 4) (L := 16) R5 hd (by decide)
  rw [xh_e]
  generalize zcy g5 (d + 4) (s + 4) 0 0 16 = g6 at R6 ⊢
  have F0 : g6 d 0 = h s 0 := (R6.1 0 0 (Or.inl (Or.inl (Or.inl (Or.inl (Or.inl (Or.inr ⟨rfl, rfl⟩))))))).2
  have B1 : ∀ j, j < 9 → g6 (d + 1) j = h (s + 1) j := fun j w => (R6.1 1 j (Or.inl (Or.inl (Or.inl (Or.inl (Or.inr ⟨rfl, w⟩)))))).2
  have B2 : ∀ j, j < 9 → g6 (d + 2) j = h (s + 2) j := fun j w => (R6.1 2 j (Or.inl (Or.inl (Or.inl (Or.inr ⟨rfl, w⟩))))).2
  have F3 : g6 d 3 = h s 3 := (R6.1 0 3 (Or.inl (Or.inl (Or.inr ⟨rfl, rfl⟩)))).2
  have B3 : ∀ j, j < 16 → g6 (d + 3) j = h (s + 3) j := fun j w => (R6.1 3 j (Or.inl (Or.inr ⟨rfl, w⟩))).2
  have B4 : ∀ j, j < 16 → g6 (d + 4) j = h (s + 4) j := fun j w => (R6.1 4 j (Or.inr ⟨rfl, w⟩)).2
  refine ⟨g6, rfl, ?_, fun a j w => R6.2 a j (fun c => ?_)⟩
  · intro t hS
    obtain ⟨a0, a1, a2, a3⟩ := hS
    exact ⟨F0.trans a0, F3.trans a1, fun k hk => ⟨(B1 k (by omega)).trans (a2 k hk).1, (B2 k (by omega)).trans (a2 k hk).2⟩, fun k hk => ⟨(B3 k (by omega)).trans (a3 k hk).1, (B4 k (by omega)).trans (a3 k hk).2⟩⟩
  · obtain ⟨c1, c2⟩ := c
    rcases c2 with (((((c2 | c2) | c2) | c2) | c2) | c2) | c2 <;> first | exact c2.elim | omega
end
