section
def zc_X6_rowsBetween : List (Nat × Jvm.ClassFile.Instr × Nat) := [(0, .aload_n 0, 1), (1, .iload_n 2, 1), (2, .invokevirtual 72, 3), (5, .aload_n 0, 1), (6, .iload_n 1, 1), (7, .invokevirtual 72, 3), (10, .isub, 1), (11, .invokestatic 76, 3), (14, .aload_n 0, 1), (15, .iload_n 2, 1), (16, .invokevirtual 81, 3), (19, .aload_n 0, 1), (20, .iload_n 1, 1), (21, .invokevirtual 81, 3), (24, .isub, 1), (25, .invokestatic 76, 3), (28, .iadd, 1), (29, .ireturn, 1)]
theorem zd_X6_rowsBetween : ∀ q ∈ zc_X6_rowsBetween, decode cX6_rowsBetween q.1 = .ok (q.2.1, q.2.2) := by decide +kernel
set_option maxRecDepth 100000 in
theorem zq_X6_rowsBetween : lw_tbl[1102]? = some (.code yX6_rowsBetween cX6_rowsBetween 3 (some .int)) := rfl
theorem zw_X6_rowsBetween : zMV yX6_rowsBetween cX6_rowsBetween 3 (some .int) 2 := ⟨⟨zTin 104 (by decide +kernel) rfl, zTin 1102 zq_X6_rowsBetween rfl, ⟨by decide, by decide⟩, by decide +kernel⟩, zTin 1100 (by decide +kernel) rfl, zTin 1101 (by decide +kernel) rfl⟩
def zk_X6_rowsBetween_0 : zCT := ((yX6_rowsBetween, cX6_rowsBetween, 3, (some .int)), (1, 21), ([(17, 1, 0), (0, 2, 0), (0, 3, 0)], ([(0, 0), (0, 2147483647), ((-2147483648), 2147483647), (0, 63)], [(0, (17, 1, 0)), (1, (0, 2, 0)), (2, (0, 3, 0))], [], [], [])), [([(0, 0), (0, 2147483647), ((-2147483648), 2147483647), (0, 63), ((-2147483648), 2147483647)], [], [(0, 4, 0)], [], []), ([(0, 0), (0, 2147483647), ((-2147483648), 2147483647), (0, 63), (0, 0)], [], [(0, 4, 0)], [], [])], [])
theorem zr_X6_rowsBetween_0 : zRC zkds vwCl zk_X6_rowsBetween_0 2 := ⟨by decide +kernel, (17, 1, 0), [(0, 2, 0), (0, 3, 0)], _, TX6, 15, rfl, by decide, by decide +kernel, zkd_15, rfl, rfl⟩
theorem zt_X6_rowsBetween_2 : decode cX6_rowsBetween 2 = .ok (.invokevirtual 72, 3) := by decide +kernel
theorem ze_X6_rowsBetween_0_2 (l : Launch) : ∀ C' ∈ [zk_X6_rowOf_0], zMet zkds vwCl zTW zKP l C' ∧ (zCV zkds vwCl zTW RX6 cX6_rowsBetween 1 21 2 C' ∨ zCS zTW RX6 cX6_rowsBetween 1 21 2 C') := (List.forall_mem_cons.mpr ⟨⟨zp_X6_rowOf_0 l, Or.inl (zcv_2 zw_X6_rowOf zr_X6_rowOf_0 72 zt_X6_rowsBetween_2 zl_RX6_72 (by decide +kernel) (by decide +kernel))⟩, (List.forall_mem_nil _)⟩)
theorem zt_X6_rowsBetween_7 : decode cX6_rowsBetween 7 = .ok (.invokevirtual 72, 3) := by decide +kernel
theorem ze_X6_rowsBetween_0_7 (l : Launch) : ∀ C' ∈ [zk_X6_rowOf_0], zMet zkds vwCl zTW zKP l C' ∧ (zCV zkds vwCl zTW RX6 cX6_rowsBetween 1 21 7 C' ∨ zCS zTW RX6 cX6_rowsBetween 1 21 7 C') := (List.forall_mem_cons.mpr ⟨⟨zp_X6_rowOf_0 l, Or.inl (zcv_2 zw_X6_rowOf zr_X6_rowOf_0 72 zt_X6_rowsBetween_7 zl_RX6_72 (by decide +kernel) (by decide +kernel))⟩, (List.forall_mem_nil _)⟩)
theorem zt_X6_rowsBetween_16 : decode cX6_rowsBetween 16 = .ok (.invokevirtual 81, 3) := by decide +kernel
theorem ze_X6_rowsBetween_0_16 (l : Launch) : ∀ C' ∈ [zk_X6_columnOf_0], zMet zkds vwCl zTW zKP l C' ∧ (zCV zkds vwCl zTW RX6 cX6_rowsBetween 1 21 16 C' ∨ zCS zTW RX6 cX6_rowsBetween 1 21 16 C') := (List.forall_mem_cons.mpr ⟨⟨zp_X6_columnOf_0 l, Or.inl (zcv_2 zw_X6_columnOf zr_X6_columnOf_0 81 zt_X6_rowsBetween_16 zl_RX6_81 (by decide +kernel) (by decide +kernel))⟩, (List.forall_mem_nil _)⟩)
theorem zt_X6_rowsBetween_21 : decode cX6_rowsBetween 21 = .ok (.invokevirtual 81, 3) := by decide +kernel
theorem ze_X6_rowsBetween_0_21 (l : Launch) : ∀ C' ∈ [zk_X6_columnOf_0], zMet zkds vwCl zTW zKP l C' ∧ (zCV zkds vwCl zTW RX6 cX6_rowsBetween 1 21 21 C' ∨ zCS zTW RX6 cX6_rowsBetween 1 21 21 C') := (List.forall_mem_cons.mpr ⟨⟨zp_X6_columnOf_0 l, Or.inl (zcv_2 zw_X6_columnOf zr_X6_columnOf_0 81 zt_X6_rowsBetween_21 zl_RX6_81 (by decide +kernel) (by decide +kernel))⟩, (List.forall_mem_nil _)⟩)
theorem zt_X6_rowsBetween_11 : decode cX6_rowsBetween 11 = .ok (.invokestatic 76, 3) := by decide +kernel
theorem zt_X6_rowsBetween_25 : decode cX6_rowsBetween 25 = .ok (.invokestatic 76, 3) := by decide +kernel
def zm_X6_rowsBetween_0 : zMD := (zc_X6_rowsBetween, [], ([], []), [(2, [zk_X6_rowOf_0]), (7, [zk_X6_rowOf_0]), (16, [zk_X6_columnOf_0]), (21, [zk_X6_columnOf_0])], [(11, 3, zo_abs), (25, 3, zo_abs)], [], [])
set_option maxRecDepth 100000 in
theorem zv_X6_rowsBetween_0 : zmeth zkds zk_X6_rowsBetween_0 zm_X6_rowsBetween_0 200000 1 = true := by decide +kernel
theorem zp_X6_rowsBetween_0 (l : Launch) : zMet zkds vwCl zTW zKP l zk_X6_rowsBetween_0 := z_met zkp_ok zTW_good zk_X6_rowsBetween_0 zm_X6_rowsBetween_0 200000 1 (by decide +kernel) (by decide +kernel) (by decide +kernel) zv_X6_rowsBetween_0 zd_X6_rowsBetween (List.forall_mem_nil _) ⟨(List.forall_mem_nil _), (List.forall_mem_nil _)⟩ (List.forall_mem_cons.mpr ⟨ze_X6_rowsBetween_0_2 l, (List.forall_mem_cons.mpr ⟨ze_X6_rowsBetween_0_7 l, (List.forall_mem_cons.mpr ⟨ze_X6_rowsBetween_0_16 l, (List.forall_mem_cons.mpr ⟨ze_X6_rowsBetween_0_21 l, (List.forall_mem_nil _)⟩)⟩)⟩)⟩) (List.forall_mem_cons.mpr ⟨z_spabs zt_X6_rowsBetween_11 zl_RX6_76 zms_abs zmi zmc_abs (by decide +kernel) (by decide +kernel), (List.forall_mem_cons.mpr ⟨z_spabs zt_X6_rowsBetween_25 zl_RX6_76 zms_abs zmi zmc_abs (by decide +kernel) (by decide +kernel), (List.forall_mem_nil _)⟩)⟩)
def zc_X0_isWithin : List (Nat × Jvm.ClassFile.Instr × Nat) := [(0, .iconst 0, 1), (1, .istore 4, 2), (3, .iload 4, 2), (5, .aload_n 1, 1), (6, .invokevirtual 33, 3), (9, .if_icmp .ge 36, 3), (12, .aload_n 0, 1), (13, .getfield 101, 3), (16, .iload 4, 2), (18, .lshr, 1), (19, .lconst 1, 1), (20, .land, 1), (21, .lconst 1, 1), (22, .lcmp, 1), (23, .ifCond .ne 16, 3), (26, .aload_n 1, 1), (27, .iload_n 2, 1), (28, .iload 4, 2), (30, .invokevirtual 105, 3), (33, .iload_n 3, 1), (34, .if_icmp .gt 5, 3), (37, .iconst 1, 1), (38, .ireturn, 1), (39, .iinc 4 1, 3), (42, .goto (-39), 3), (45, .iconst 0, 1), (46, .ireturn, 1)]
theorem zd_X0_isWithin : ∀ q ∈ zc_X0_isWithin, decode cX0_isWithin q.1 = .ok (q.2.1, q.2.2) := by decide +kernel
set_option maxRecDepth 100000 in
theorem zq_X0_isWithin : lw_tbl[1098]? = some (.code yX0_isWithin cX0_isWithin 5 (some .boolean)) := rfl
theorem zw_X0_isWithin : zMV yX0_isWithin cX0_isWithin 5 (some .boolean) 3 := ⟨⟨zTin 111 (by decide +kernel) rfl, zTin 1098 zq_X0_isWithin rfl, ⟨by decide, by decide⟩, by decide +kernel⟩, zTin 1097 (by decide +kernel) rfl, zTin 23 (by decide +kernel) rfl⟩
def zk_X0_isWithin_0 : zCT := ((yX0_isWithin, cX0_isWithin, 5, (some .boolean)), (2, 43), ([(53, 1, 0), (17, 2, 0), (0, 3, 0), (0, 4, 0)], ([(0, 0), (0, 2147483647), (0, 2147483647), ((-2147483648), 2147483647), ((-128), 30)], [(0, (53, 1, 0)), (1, (17, 2, 0)), (2, (0, 3, 0)), (3, (0, 4, 0))], [], [], [])), [([(0, 0), (0, 2147483647), (0, 2147483647), ((-2147483648), 2147483647), ((-128), 30)], [], [(0, 0, 1)], [], []), ([(0, 0), (0, 2147483647), (0, 2147483647), ((-2147483648), 2147483647), ((-128), 30)], [], [(0, 0, 0)], [], [])], [])
theorem zr_X0_isWithin_0 : zRC zkds vwCl zk_X0_isWithin_0 3 := ⟨by decide +kernel, (53, 1, 0), [(17, 2, 0), (0, 3, 0), (0, 4, 0)], _, TX0, 7, rfl, by decide, by decide +kernel, zkd_51, rfl, rfl⟩
theorem zt_X0_isWithin_6 : decode cX0_isWithin 6 = .ok (.invokevirtual 33, 3) := by decide +kernel
theorem ze_X0_isWithin_0_6 (l : Launch) : ∀ C' ∈ [zk_X6_cells_0], zMet zkds vwCl zTW zKP l C' ∧ (zCV zkds vwCl zTW RX0 cX0_isWithin 2 43 6 C' ∨ zCS zTW RX0 cX0_isWithin 2 43 6 C') := (List.forall_mem_cons.mpr ⟨⟨zp_X6_cells_0 l, Or.inl (zcv_2 zw_X6_cells zr_X6_cells_0 33 zt_X0_isWithin_6 zl_RX0_33 (by decide +kernel) (by decide +kernel))⟩, (List.forall_mem_nil _)⟩)
theorem zl_RX0_105 : Cond.methodLink RX0 105 yX6_rowsBetween ∈ zTW := zTin 1099 (by decide +kernel) rfl
theorem zt_X0_isWithin_30 : decode cX0_isWithin 30 = .ok (.invokevirtual 105, 3) := by decide +kernel
theorem ze_X0_isWithin_0_30 (l : Launch) : ∀ C' ∈ [zk_X6_rowsBetween_0], zMet zkds vwCl zTW zKP l C' ∧ (zCV zkds vwCl zTW RX0 cX0_isWithin 2 43 30 C' ∨ zCS zTW RX0 cX0_isWithin 2 43 30 C') := (List.forall_mem_cons.mpr ⟨⟨zp_X6_rowsBetween_0 l, Or.inl (zcv_2 zw_X6_rowsBetween zr_X6_rowsBetween_0 105 zt_X0_isWithin_30 zl_RX0_105 (by decide +kernel) (by decide +kernel))⟩, (List.forall_mem_nil _)⟩)
def zm_X0_isWithin_0 : zMD := (zc_X0_isWithin, [(101, 0, 6, some .long)], ([], []), [(6, [zk_X6_cells_0]), (30, [zk_X6_rowsBetween_0])], [], [(3, ([(0, 0), (0, 2147483647), (0, 2147483647), ((-2147483648), 2147483647), ((-128), 30), (0, 64)], [(0, (53, 1, 0)), (1, (17, 2, 0)), (2, (0, 3, 0)), (3, (0, 4, 0)), (4, (0, 5, 0))], [], [], []), (10991817742876736, [(5, (-1))]))], [])
set_option maxRecDepth 100000 in
theorem zv_X0_isWithin_0 : zmeth zkds zk_X0_isWithin_0 zm_X0_isWithin_0 200000 10991817742876801 = true := by decide +kernel
theorem zp_X0_isWithin_0 (l : Launch) : zMet zkds vwCl zTW zKP l zk_X0_isWithin_0 := z_met zkp_ok zTW_good zk_X0_isWithin_0 zm_X0_isWithin_0 200000 10991817742876801 (by decide +kernel) (by decide +kernel) (by decide +kernel) zv_X0_isWithin_0 zd_X0_isWithin (List.forall_mem_cons.mpr ⟨zf_RX0_101, (List.forall_mem_nil _)⟩) ⟨(List.forall_mem_nil _), (List.forall_mem_nil _)⟩ (List.forall_mem_cons.mpr ⟨ze_X0_isWithin_0_6 l, (List.forall_mem_cons.mpr ⟨ze_X0_isWithin_0_30 l, (List.forall_mem_nil _)⟩)⟩) (List.forall_mem_nil _)
def zc_X0_fewestHours : List (Nat × Jvm.ClassFile.Instr × Nat) := [(0, .aload_n 0, 1), (1, .aload_n 1, 1), (2, .iload_n 2, 1), (3, .iconst (-1), 1), (4, .iconst 0, 1), (5, .invokevirtual 58, 3), (8, .aload_n 1, 1), (9, .getfield 84, 3), (12, .iload_n 3, 1), (13, .iaload, 1), (14, .istore 4, 2), (16, .iconst 0, 1), (17, .istore 5, 2), (19, .iload 5, 2), (21, .bipush 30, 2), (23, .if_icmp .gt 50, 3), (26, .aload_n 0, 1), (27, .aload_n 1, 1), (28, .iload_n 2, 1), (29, .iload 4, 2), (31, .invokevirtual 87, 3), (34, .aload_n 0, 1), (35, .aload_n 1, 1), (36, .aload_n 1, 1), (37, .getfield 41, 3), (40, .iload_n 2, 1), (41, .iaload, 1), (42, .iload 5, 2), (44, .invokevirtual 91, 3), (47, .ifCond .eq 6, 3), (50, .iload 5, 2), (52, .ireturn, 1), (53, .aload_n 1, 1), (54, .iload 4, 2), (56, .aload_n 1, 1), (57, .getfield 95, 3), (60, .iload_n 3, 1), (61, .iaload, 1), (62, .invokevirtual 98, 3), (65, .istore 4, 2), (67, .iinc 5 1, 3), (70, .goto (-51), 3), (73, .iconst (-1), 1), (74, .ireturn, 1)]
theorem zd_X0_fewestHours : ∀ q ∈ zc_X0_fewestHours, decode cX0_fewestHours q.1 = .ok (q.2.1, q.2.2) := by decide +kernel
set_option maxRecDepth 100000 in
theorem zq_X0_fewestHours : lw_tbl[1076]? = some (.code yX0_fewestHours cX0_fewestHours 6 (some .int)) := rfl
theorem zw_X0_fewestHours : zMV yX0_fewestHours cX0_fewestHours 6 (some .int) 3 := ⟨⟨zTin 111 (by decide +kernel) rfl, zTin 1076 zq_X0_fewestHours rfl, ⟨by decide, by decide⟩, by decide +kernel⟩, zTin 1074 (by decide +kernel) rfl, zTin 1075 (by decide +kernel) rfl⟩
theorem zf_RX0_84 : zFok RX0 zTW vwCl (84, 6, 7, none) := ⟨RX6, TX6, 15, rfl, zx_6, by decide, zTin 188 (by decide +kernel) rfl, fun _ h => by cases h⟩
theorem zf_RX0_95 : zFok RX0 zTW vwCl (95, 6, 9, none) := ⟨RX6, TX6, 15, rfl, zx_6, by decide, zTin 196 (by decide +kernel) rfl, fun _ h => by cases h⟩
def zk_X0_fewestHours_0 : zCT := ((yX0_fewestHours, cX0_fewestHours, 6, (some .int)), (4, 102), ([(53, 1, 0), (17, 2, 0), (0, 3, 0), (0, 4, 0)], ([(0, 0), (0, 2147483647), (0, 2147483647), (0, 5), (0, 3)], [(0, (53, 1, 0)), (1, (17, 2, 0)), (2, (0, 3, 0)), (3, (0, 4, 0))], [], [], [])), [([(0, 0), (0, 2147483647), (0, 2147483647), (0, 5), (0, 3), (0, 30)], [], [(0, 5, 0)], [], []), ([(0, 0), (0, 2147483647), (0, 2147483647), (0, 5), (0, 3)], [], [(0, 0, (-1))], [], [])], [(48, 0, 127), (49, 0, 127), (51, 6, 6)])
theorem zr_X0_fewestHours_0 : zRC zkds vwCl zk_X0_fewestHours_0 3 := ⟨by decide +kernel, (53, 1, 0), [(17, 2, 0), (0, 3, 0), (0, 4, 0)], _, TX0, 7, rfl, by decide, by decide +kernel, zkd_51, rfl, rfl⟩
theorem zt_X0_fewestHours_5 : decode cX0_fewestHours 5 = .ok (.invokevirtual 58, 3) := by decide +kernel
theorem ze_X0_fewestHours_0_5 (l : Launch) : ∀ C' ∈ [zk_X0_lookFromCells_0], zMet zkds vwCl zTW zKP l C' ∧ (zCV zkds vwCl zTW RX0 cX0_fewestHours 4 102 5 C' ∨ zCS zTW RX0 cX0_fewestHours 4 102 5 C') := (List.forall_mem_cons.mpr ⟨⟨zp_X0_lookFromCells_0 l, Or.inl (zcv_2 zw_X0_lookFromCells zr_X0_lookFromCells_0 58 zt_X0_fewestHours_5 zl_RX0_58 (by decide +kernel) (by decide +kernel))⟩, (List.forall_mem_nil _)⟩)
theorem zl_RX0_87 : Cond.methodLink RX0 87 yX0_findGoals ∈ zTW := zTin 1089 (by decide +kernel) rfl
theorem zt_X0_fewestHours_31 : decode cX0_fewestHours 31 = .ok (.invokevirtual 87, 3) := by decide +kernel
theorem ze_X0_fewestHours_0_31 (l : Launch) : ∀ C' ∈ [zk_X0_findGoals_0], zMet zkds vwCl zTW zKP l C' ∧ (zCV zkds vwCl zTW RX0 cX0_fewestHours 4 102 31 C' ∨ zCS zTW RX0 cX0_fewestHours 4 102 31 C') := (List.forall_mem_cons.mpr ⟨⟨zp_X0_findGoals_0 l, Or.inl (zcv_2 zw_X0_findGoals zr_X0_findGoals_0 87 zt_X0_fewestHours_31 zl_RX0_87 (by decide +kernel) (by decide +kernel))⟩, (List.forall_mem_nil _)⟩)
theorem zl_RX0_91 : Cond.methodLink RX0 91 yX0_isWithin ∈ zTW := zTin 1095 (by decide +kernel) rfl
theorem zt_X0_fewestHours_44 : decode cX0_fewestHours 44 = .ok (.invokevirtual 91, 3) := by decide +kernel
theorem ze_X0_fewestHours_0_44 (l : Launch) : ∀ C' ∈ [zk_X0_isWithin_0], zMet zkds vwCl zTW zKP l C' ∧ (zCV zkds vwCl zTW RX0 cX0_fewestHours 4 102 44 C' ∨ zCS zTW RX0 cX0_fewestHours 4 102 44 C') := (List.forall_mem_cons.mpr ⟨⟨zp_X0_isWithin_0 l, Or.inl (zcv_2 zw_X0_isWithin zr_X0_isWithin_0 91 zt_X0_fewestHours_44 zl_RX0_91 (by decide +kernel) (by decide +kernel))⟩, (List.forall_mem_nil _)⟩)
theorem zl_RX0_98 : Cond.methodLink RX0 98 yX6_drifted ∈ zTW := zTin 1103 (by decide +kernel) rfl
theorem zt_X0_fewestHours_62 : decode cX0_fewestHours 62 = .ok (.invokevirtual 98, 3) := by decide +kernel
theorem ze_X0_fewestHours_0_62 (l : Launch) : ∀ C' ∈ [zk_X6_drifted_0], zMet zkds vwCl zTW zKP l C' ∧ (zCV zkds vwCl zTW RX0 cX0_fewestHours 4 102 62 C' ∨ zCS zTW RX0 cX0_fewestHours 4 102 62 C') := (List.forall_mem_cons.mpr ⟨⟨zp_X6_drifted_0 l, Or.inl (zcv_2 zw_X6_drifted zr_X6_drifted_0 98 zt_X0_fewestHours_62 zl_RX0_98 (by decide +kernel) (by decide +kernel))⟩, (List.forall_mem_nil _)⟩)
def zm_X0_fewestHours_0 : zMD := (zc_X0_fewestHours, [(41, 6, 11, none), (84, 6, 7, none), (95, 6, 9, none)], ([], []), [(5, [zk_X0_lookFromCells_0]), (31, [zk_X0_findGoals_0]), (44, [zk_X0_isWithin_0]), (62, [zk_X6_drifted_0])], [], [(19, ([(0, 0), (0, 2147483647), (0, 2147483647), (0, 5), (0, 3), ((-2147483648), 2147483647), (0, 31), (0, 2147483647)], [(0, (53, 1, 0)), (1, (17, 2, 0)), (2, (0, 3, 0)), (3, (0, 4, 0)), (4, (0, 5, 0)), (5, (0, 6, 0))], [], [((15, 2), 7, (11, 7, 0))], []), (10974225556832287, [(6, (-1))]))], [])
set_option maxRecDepth 100000 in
theorem zv_X0_fewestHours_0 : zmeth zkds zk_X0_fewestHours_0 zm_X0_fewestHours_0 200000 10974225556832319 = true := by decide +kernel
theorem zp_X0_fewestHours_0 (l : Launch) : zMet zkds vwCl zTW zKP l zk_X0_fewestHours_0 := z_met zkp_ok zTW_good zk_X0_fewestHours_0 zm_X0_fewestHours_0 200000 10974225556832319 (by decide +kernel) (by decide +kernel) (by decide +kernel) zv_X0_fewestHours_0 zd_X0_fewestHours (List.forall_mem_cons.mpr ⟨zf_RX0_41, (List.forall_mem_cons.mpr ⟨zf_RX0_84, (List.forall_mem_cons.mpr ⟨zf_RX0_95, (List.forall_mem_nil _)⟩)⟩)⟩) ⟨(List.forall_mem_nil _), (List.forall_mem_nil _)⟩ (List.forall_mem_cons.mpr ⟨ze_X0_fewestHours_0_5 l, (List.forall_mem_cons.mpr ⟨ze_X0_fewestHours_0_31 l, (List.forall_mem_cons.mpr ⟨ze_X0_fewestHours_0_44 l, (List.forall_mem_cons.mpr ⟨ze_X0_fewestHours_0_62 l, (List.forall_mem_nil _)⟩)⟩)⟩)⟩) (List.forall_mem_nil _)
def zc_X0_firstRowTowards : List (Nat × Jvm.ClassFile.Instr × Nat) := [(0, .iconst 0, 1), (1, .istore 4, 2), (3, .iload 4, 2), (5, .iconst 4, 1), (6, .if_icmp .ge 38, 3), (9, .aload_n 1, 1), (10, .iload_n 2, 1), (11, .iload 4, 2), (13, .invokevirtual 112, 3), (16, .istore 5, 2), (18, .iload 5, 2), (20, .iconst (-1), 1), (21, .if_icmp .eq 17, 3), (24, .aload_n 0, 1), (25, .aload_n 1, 1), (26, .iload 5, 2), (28, .iload_n 3, 1), (29, .invokevirtual 91, 3), (32, .ifCond .eq 6, 3), (35, .iload 4, 2), (37, .ireturn, 1), (38, .iinc 4 1, 3), (41, .goto (-38), 3), (44, .iconst 4, 1), (45, .ireturn, 1)]
theorem zd_X0_firstRowTowards : ∀ q ∈ zc_X0_firstRowTowards, decode cX0_firstRowTowards q.1 = .ok (q.2.1, q.2.2) := by decide +kernel
set_option maxRecDepth 100000 in
theorem zq_X0_firstRowTowards : lw_tbl[1111]? = some (.code yX0_firstRowTowards cX0_firstRowTowards 6 (some .int)) := rfl
theorem zw_X0_firstRowTowards : zMV yX0_firstRowTowards cX0_firstRowTowards 6 (some .int) 3 := ⟨⟨zTin 111 (by decide +kernel) rfl, zTin 1111 zq_X0_firstRowTowards rfl, ⟨by decide, by decide⟩, by decide +kernel⟩, zTin 1110 (by decide +kernel) rfl, zTin 24 (by decide +kernel) rfl⟩
def zk_X0_firstRowTowards_0 : zCT := ((yX0_firstRowTowards, cX0_firstRowTowards, 6, (some .int)), (3, 67), ([(53, 1, 0), (17, 2, 0), (0, 3, 0), (0, 4, 0)], ([(0, 0), (0, 2147483647), (0, 2147483647), ((-2147483648), 2147483647), ((-128), 29)], [(0, (53, 1, 0)), (1, (17, 2, 0)), (2, (0, 3, 0)), (3, (0, 4, 0))], [], [], [])), [([(0, 0), (0, 2147483647), (0, 2147483647), ((-2147483648), 2147483647), ((-128), 29), (0, 4)], [], [(0, 5, 0)], [], [])], [])
theorem zr_X0_firstRowTowards_0 : zRC zkds vwCl zk_X0_firstRowTowards_0 3 := ⟨by decide +kernel, (53, 1, 0), [(17, 2, 0), (0, 3, 0), (0, 4, 0)], _, TX0, 7, rfl, by decide, by decide +kernel, zkd_51, rfl, rfl⟩
theorem zl_RX0_112 : Cond.methodLink RX0 112 yX6_beside ∈ zTW := zTin 1112 (by decide +kernel) rfl
theorem zt_X0_firstRowTowards_13 : decode cX0_firstRowTowards 13 = .ok (.invokevirtual 112, 3) := by decide +kernel
theorem ze_X0_firstRowTowards_0_13 (l : Launch) : ∀ C' ∈ [zk_X6_beside_0], zMet zkds vwCl zTW zKP l C' ∧ (zCV zkds vwCl zTW RX0 cX0_firstRowTowards 3 67 13 C' ∨ zCS zTW RX0 cX0_firstRowTowards 3 67 13 C') := (List.forall_mem_cons.mpr ⟨⟨zp_X6_beside_0 l, Or.inl (zcv_2 zw_X6_beside zr_X6_beside_0 112 zt_X0_firstRowTowards_13 zl_RX0_112 (by decide +kernel) (by decide +kernel))⟩, (List.forall_mem_nil _)⟩)
theorem zt_X0_firstRowTowards_29 : decode cX0_firstRowTowards 29 = .ok (.invokevirtual 91, 3) := by decide +kernel
theorem ze_X0_firstRowTowards_0_29 (l : Launch) : ∀ C' ∈ [zk_X0_isWithin_0], zMet zkds vwCl zTW zKP l C' ∧ (zCV zkds vwCl zTW RX0 cX0_firstRowTowards 3 67 29 C' ∨ zCS zTW RX0 cX0_firstRowTowards 3 67 29 C') := (List.forall_mem_cons.mpr ⟨⟨zp_X0_isWithin_0 l, Or.inl (zcv_2 zw_X0_isWithin zr_X0_isWithin_0 91 zt_X0_firstRowTowards_29 zl_RX0_91 (by decide +kernel) (by decide +kernel))⟩, (List.forall_mem_nil _)⟩)
def zm_X0_firstRowTowards_0 : zMD := (zc_X0_firstRowTowards, [], ([], []), [(13, [zk_X6_beside_0]), (29, [zk_X0_isWithin_0])], [], [(3, ([(0, 0), (0, 2147483647), (0, 2147483647), ((-2147483648), 2147483647), ((-128), 29), (0, 4)], [(0, (53, 1, 0)), (1, (17, 2, 0)), (2, (0, 3, 0)), (3, (0, 4, 0)), (4, (0, 5, 0))], [], [], []), (10991817742876676, [(5, (-1))]))], [])
set_option maxRecDepth 100000 in
theorem zv_X0_firstRowTowards_0 : zmeth zkds zk_X0_firstRowTowards_0 zm_X0_firstRowTowards_0 200000 10991817742876681 = true := by decide +kernel
theorem zp_X0_firstRowTowards_0 (l : Launch) : zMet zkds vwCl zTW zKP l zk_X0_firstRowTowards_0 := z_met zkp_ok zTW_good zk_X0_firstRowTowards_0 zm_X0_firstRowTowards_0 200000 10991817742876681 (by decide +kernel) (by decide +kernel) (by decide +kernel) zv_X0_firstRowTowards_0 zd_X0_firstRowTowards (List.forall_mem_nil _) ⟨(List.forall_mem_nil _), (List.forall_mem_nil _)⟩ (List.forall_mem_cons.mpr ⟨ze_X0_firstRowTowards_0_13 l, (List.forall_mem_cons.mpr ⟨ze_X0_firstRowTowards_0_29 l, (List.forall_mem_nil _)⟩)⟩) (List.forall_mem_nil _)
def zc_X0_doneInHour : List (Nat × Jvm.ClassFile.Instr × Nat) := [(0, .aload_n 1, 1), (1, .getfield 41, 3), (4, .iload_n 2, 1), (5, .iaload, 1), (6, .istore 5, 2), (8, .iconst 4, 1), (9, .istore 6, 2), (11, .iconst 0, 1), (12, .istore 7, 2), (14, .iload 7, 2), (16, .iload_n 3, 1), (17, .if_icmp .gt 35, 3), (20, .aload_n 0, 1), (21, .aload_n 1, 1), (22, .iload 5, 2), (24, .iload 4, 2), (26, .iload 7, 2), (28, .isub, 1), (29, .iconst 1, 1), (30, .isub, 1), (31, .invokevirtual 108, 3), (34, .istore 6, 2), (36, .aload_n 1, 1), (37, .iload 5, 2), (39, .iload 6, 2), (41, .invokevirtual 98, 3), (44, .istore 5, 2), (46, .iinc 7 1, 3), (49, .goto (-35), 3), (52, .iload 6, 2), (54, .ireturn, 1)]
theorem zd_X0_doneInHour : ∀ q ∈ zc_X0_doneInHour, decode cX0_doneInHour q.1 = .ok (q.2.1, q.2.2) := by decide +kernel
set_option maxRecDepth 100000 in
theorem zq_X0_doneInHour : lw_tbl[1107]? = some (.code yX0_doneInHour cX0_doneInHour 8 (some .int)) := rfl
theorem zw_X0_doneInHour : zMV yX0_doneInHour cX0_doneInHour 8 (some .int) 4 := ⟨⟨zTin 111 (by decide +kernel) rfl, zTin 1107 zq_X0_doneInHour rfl, ⟨by decide, by decide⟩, by decide +kernel⟩, zTin 1105 (by decide +kernel) rfl, zTin 1106 (by decide +kernel) rfl⟩
def zk_X0_doneInHour_0 : zCT := ((yX0_doneInHour, cX0_doneInHour, 8, (some .int)), (4, 92), ([(53, 1, 0), (17, 2, 0), (0, 3, 0), (0, 4, 0), (0, 5, 0)], ([(0, 0), (0, 2147483647), (0, 2147483647), (0, 5), (0, 29), (1, 30)], [(0, (53, 1, 0)), (1, (17, 2, 0)), (2, (0, 3, 0)), (3, (0, 4, 0)), (4, (0, 5, 0))], [], [], [])), [([(0, 0), (0, 2147483647), (0, 2147483647), (0, 5), (0, 29), (1, 30), (0, 4)], [], [(0, 6, 0)], [], [])], [])
theorem zr_X0_doneInHour_0 : zRC zkds vwCl zk_X0_doneInHour_0 4 := ⟨by decide +kernel, (53, 1, 0), [(17, 2, 0), (0, 3, 0), (0, 4, 0), (0, 5, 0)], _, TX0, 7, rfl, by decide, by decide +kernel, zkd_51, rfl, rfl⟩
theorem zl_RX0_108 : Cond.methodLink RX0 108 yX0_firstRowTowards ∈ zTW := zTin 1108 (by decide +kernel) rfl
theorem zt_X0_doneInHour_31 : decode cX0_doneInHour 31 = .ok (.invokevirtual 108, 3) := by decide +kernel
theorem ze_X0_doneInHour_0_31 (l : Launch) : ∀ C' ∈ [zk_X0_firstRowTowards_0], zMet zkds vwCl zTW zKP l C' ∧ (zCV zkds vwCl zTW RX0 cX0_doneInHour 4 92 31 C' ∨ zCS zTW RX0 cX0_doneInHour 4 92 31 C') := (List.forall_mem_cons.mpr ⟨⟨zp_X0_firstRowTowards_0 l, Or.inl (zcv_2 zw_X0_firstRowTowards zr_X0_firstRowTowards_0 108 zt_X0_doneInHour_31 zl_RX0_108 (by decide +kernel) (by decide +kernel))⟩, (List.forall_mem_nil _)⟩)
theorem zt_X0_doneInHour_41 : decode cX0_doneInHour 41 = .ok (.invokevirtual 98, 3) := by decide +kernel
theorem ze_X0_doneInHour_0_41 (l : Launch) : ∀ C' ∈ [zk_X6_drifted_0], zMet zkds vwCl zTW zKP l C' ∧ (zCV zkds vwCl zTW RX0 cX0_doneInHour 4 92 41 C' ∨ zCS zTW RX0 cX0_doneInHour 4 92 41 C') := (List.forall_mem_cons.mpr ⟨⟨zp_X6_drifted_0 l, Or.inl (zcv_2 zw_X6_drifted zr_X6_drifted_0 98 zt_X0_doneInHour_41 zl_RX0_98 (by decide +kernel) (by decide +kernel))⟩, (List.forall_mem_nil _)⟩)
def zm_X0_doneInHour_0 : zMD := (zc_X0_doneInHour, [(41, 6, 11, none)], ([], []), [(31, [zk_X0_firstRowTowards_0]), (41, [zk_X6_drifted_0])], [], [(14, ([(0, 0), (0, 2147483647), (0, 2147483647), (0, 5), (0, 29), (1, 30), ((-2147483648), 2147483647), (0, 4), (0, 30), (0, 2147483647)], [(0, (53, 1, 0)), (1, (17, 2, 0)), (3, (0, 4, 0)), (4, (0, 5, 0)), (5, (0, 6, 0)), (6, (0, 7, 0)), (7, (0, 8, 0))], [], [((15, 2), 11, (14, 9, 0))], []), (10979723114971166, [(8, (-1))]))], [])
set_option maxRecDepth 100000 in
theorem zv_X0_doneInHour_0 : zmeth zkds zk_X0_doneInHour_0 zm_X0_doneInHour_0 200000 10979723114971197 = true := by decide +kernel
theorem zp_X0_doneInHour_0 (l : Launch) : zMet zkds vwCl zTW zKP l zk_X0_doneInHour_0 := z_met zkp_ok zTW_good zk_X0_doneInHour_0 zm_X0_doneInHour_0 200000 10979723114971197 (by decide +kernel) (by decide +kernel) (by decide +kernel) zv_X0_doneInHour_0 zd_X0_doneInHour (List.forall_mem_cons.mpr ⟨zf_RX0_41, (List.forall_mem_nil _)⟩) ⟨(List.forall_mem_nil _), (List.forall_mem_nil _)⟩ (List.forall_mem_cons.mpr ⟨ze_X0_doneInHour_0_31 l, (List.forall_mem_cons.mpr ⟨ze_X0_doneInHour_0_41 l, (List.forall_mem_nil _)⟩)⟩) (List.forall_mem_nil _)
def zc_X11_soon : List (Nat × Jvm.ClassFile.Instr × Nat) := [(0, .aload_n 0, 1), (1, .getfield 10, 3), (4, .iload_n 1, 1), (5, .invokevirtual 93, 3), (8, .astore 5, 2), (10, .aload 5, 2), (12, .ifnull 21, 3), (15, .aload 5, 2), (17, .iload_n 2, 1), (18, .invokevirtual 137, 3), (21, .ifCond .eq 12, 3), (24, .aload 5, 2), (26, .iload_n 3, 1), (27, .invokevirtual 124, 3), (30, .ifCond .ne 5, 3), (33, .iconst (-1), 1), (34, .ireturn, 1), (35, .aload_n 0, 1), (36, .getfield 44, 3), (39, .aload 5, 2), (41, .iload_n 2, 1), (42, .iload_n 3, 1), (43, .invokevirtual 261, 3), (46, .istore 6, 2), (48, .iload 6, 2), (50, .iconst (-1), 1), (51, .if_icmp .eq 8, 3), (54, .iload 4, 2), (56, .ifCond .ne 6, 3), (59, .iload 6, 2), (61, .ireturn, 1), (62, .iload 4, 2), (64, .bipush 10, 2), (66, .if_icmp .lt 13, 3), (69, .iload 4, 2), (71, .bipush 10, 2), (73, .isub, 1), (74, .iload 6, 2), (76, .if_icmp .lt 5, 3), (79, .iconst (-1), 1), (80, .ireturn, 1), (81, .aload_n 0, 1), (82, .getfield 44, 3), (85, .aload 5, 2), (87, .iload_n 2, 1), (88, .iload 4, 2), (90, .bipush 10, 2), (92, .isub, 1), (93, .iload 6, 2), (95, .invokevirtual 264, 3), (98, .ireturn, 1)]
theorem zd_X11_soon : ∀ q ∈ zc_X11_soon, decode cX11_soon q.1 = .ok (q.2.1, q.2.2) := by decide +kernel
set_option maxRecDepth 100000 in
theorem zq_X11_soon : lw_tbl[1072]? = some (.code yX11_soon cX11_soon 7 (some .int)) := rfl
theorem zw_X11_soon : zMV yX11_soon cX11_soon 7 (some .int) 4 := ⟨⟨zTin 101 (by decide +kernel) rfl, zTin 1072 zq_X11_soon rfl, ⟨by decide, by decide⟩, by decide +kernel⟩, zTin 1070 (by decide +kernel) rfl, zTin 1071 (by decide +kernel) rfl⟩
def zk_X11_soon_0 : zCT := ((yX11_soon, cX11_soon, 7, (some .int)), (5, 127), ([(65, 1, 0), (0, 2, 0), (0, 3, 0), (0, 4, 0), (0, 5, 0)], ([(0, 0), (0, 2147483647), ((-2147483648), 2147483647), ((-2147483648), 2147483647), ((-2147483648), 2147483647), ((-2147483648), 2147483647)], [(0, (65, 1, 0)), (1, (0, 2, 0)), (2, (0, 3, 0)), (3, (0, 4, 0)), (4, (0, 5, 0))], [], [], [])), [([(0, 0), (0, 2147483647), ((-2147483648), 2147483647), ((-2147483648), 2147483647), ((-2147483648), 2147483647), ((-2147483648), 2147483647)], [], [(0, 0, (-1))], [], []), ([(0, 0), (0, 2147483647), (0, 1), (0, 5), (0, 3), (0, 39), (0, 30)], [], [(0, 6, 0)], [], [])], [(48, 0, 127), (49, 0, 127), (51, 6, 6)])
theorem zr_X11_soon_0 : zRC zkds vwCl zk_X11_soon_0 4 := ⟨by decide +kernel, (65, 1, 0), [(0, 2, 0), (0, 3, 0), (0, 4, 0), (0, 5, 0)], _, TX11, 7, rfl, by decide, by decide +kernel, zkd_63, rfl, rfl⟩
theorem zt_X11_soon_5 : decode cX11_soon 5 = .ok (.invokevirtual 93, 3) := by decide +kernel
theorem ze_X11_soon_0_5 (l : Launch) : ∀ C' ∈ [zk_X9_findSea_0], zMet zkds vwCl zTW zKP l C' ∧ (zCV zkds vwCl zTW RX11 cX11_soon 5 127 5 C' ∨ zCS zTW RX11 cX11_soon 5 127 5 C') := (List.forall_mem_cons.mpr ⟨⟨zp_X9_findSea_0 l, Or.inl (zcv_2 zw_X9_findSea zr_X9_findSea_0 93 zt_X11_soon_5 zl_RX11_93 (by decide +kernel) (by decide +kernel))⟩, (List.forall_mem_nil _)⟩)
theorem zt_X11_soon_18 : decode cX11_soon 18 = .ok (.invokevirtual 137, 3) := by decide +kernel
theorem ze_X11_soon_0_18 (l : Launch) : ∀ C' ∈ [zk_X6_hasBoat_0], zMet zkds vwCl zTW zKP l C' ∧ (zCV zkds vwCl zTW RX11 cX11_soon 5 127 18 C' ∨ zCS zTW RX11 cX11_soon 5 127 18 C') := (List.forall_mem_cons.mpr ⟨⟨zp_X6_hasBoat_0 l, Or.inl (zcv_2 zw_X6_hasBoat zr_X6_hasBoat_0 137 zt_X11_soon_18 zl_RX11_137 (by decide +kernel) (by decide +kernel))⟩, (List.forall_mem_nil _)⟩)
theorem zt_X11_soon_27 : decode cX11_soon 27 = .ok (.invokevirtual 124, 3) := by decide +kernel
theorem ze_X11_soon_0_27 (l : Launch) : ∀ C' ∈ [zk_X6_hasShoal_0], zMet zkds vwCl zTW zKP l C' ∧ (zCV zkds vwCl zTW RX11 cX11_soon 5 127 27 C' ∨ zCS zTW RX11 cX11_soon 5 127 27 C') := (List.forall_mem_cons.mpr ⟨⟨zp_X6_hasShoal_0 l, Or.inl (zcv_2 zw_X6_hasShoal zr_X6_hasShoal_0 124 zt_X11_soon_27 zl_RX11_124 (by decide +kernel) (by decide +kernel))⟩, (List.forall_mem_nil _)⟩)
theorem zl_RX11_261 : Cond.methodLink RX11 261 yX0_fewestHours ∈ zTW := zTin 1073 (by decide +kernel) rfl
theorem zt_X11_soon_43 : decode cX11_soon 43 = .ok (.invokevirtual 261, 3) := by decide +kernel
theorem ze_X11_soon_0_43 (l : Launch) : ∀ C' ∈ [zk_X0_fewestHours_0], zMet zkds vwCl zTW zKP l C' ∧ (zCV zkds vwCl zTW RX11 cX11_soon 5 127 43 C' ∨ zCS zTW RX11 cX11_soon 5 127 43 C') := (List.forall_mem_cons.mpr ⟨⟨zp_X0_fewestHours_0 l, Or.inl (zcv_2 zw_X0_fewestHours zr_X0_fewestHours_0 261 zt_X11_soon_43 zl_RX11_261 (by decide +kernel) (by decide +kernel))⟩, (List.forall_mem_nil _)⟩)
theorem zl_RX11_264 : Cond.methodLink RX11 264 yX0_doneInHour ∈ zTW := zTin 1104 (by decide +kernel) rfl
theorem zt_X11_soon_95 : decode cX11_soon 95 = .ok (.invokevirtual 264, 3) := by decide +kernel
theorem ze_X11_soon_0_95 (l : Launch) : ∀ C' ∈ [zk_X0_doneInHour_0], zMet zkds vwCl zTW zKP l C' ∧ (zCV zkds vwCl zTW RX11 cX11_soon 5 127 95 C' ∨ zCS zTW RX11 cX11_soon 5 127 95 C') := (List.forall_mem_cons.mpr ⟨⟨zp_X0_doneInHour_0 l, Or.inl (zcv_2 zw_X0_doneInHour zr_X0_doneInHour_0 264 zt_X11_soon_95 zl_RX11_264 (by decide +kernel) (by decide +kernel))⟩, (List.forall_mem_nil _)⟩)
def zm_X11_soon_0 : zMD := (zc_X11_soon, [(10, 11, 0, none), (44, 11, 5, none)], ([], []), [(5, [zk_X9_findSea_0]), (18, [zk_X6_hasBoat_0]), (27, [zk_X6_hasShoal_0]), (43, [zk_X0_fewestHours_0]), (95, [zk_X0_doneInHour_0])], [], [], [])
set_option maxRecDepth 100000 in
theorem zv_X11_soon_0 : zmeth zkds zk_X11_soon_0 zm_X11_soon_0 200000 1 = true := by decide +kernel
theorem zp_X11_soon_0 (l : Launch) : zMet zkds vwCl zTW zKP l zk_X11_soon_0 := z_met zkp_ok zTW_good zk_X11_soon_0 zm_X11_soon_0 200000 1 (by decide +kernel) (by decide +kernel) (by decide +kernel) zv_X11_soon_0 zd_X11_soon (List.forall_mem_cons.mpr ⟨zf_RX11_10, (List.forall_mem_cons.mpr ⟨zf_RX11_44, (List.forall_mem_nil _)⟩)⟩) ⟨(List.forall_mem_nil _), (List.forall_mem_nil _)⟩ (List.forall_mem_cons.mpr ⟨ze_X11_soon_0_5 l, (List.forall_mem_cons.mpr ⟨ze_X11_soon_0_18 l, (List.forall_mem_cons.mpr ⟨ze_X11_soon_0_27 l, (List.forall_mem_cons.mpr ⟨ze_X11_soon_0_43 l, (List.forall_mem_cons.mpr ⟨ze_X11_soon_0_95 l, (List.forall_mem_nil _)⟩)⟩)⟩)⟩)⟩) (List.forall_mem_nil _)
end
section
set_option maxRecDepth 100000 in
theorem zq_X11_again : lw_tbl[1292]? = some (.code yX11_again cX11_again 2 (some .boolean)) := rfl
theorem zw_X11_again : zMV yX11_again cX11_again 2 (some .boolean) 1 := ⟨⟨zTin 101 (by decide +kernel) rfl, zTin 1292 zq_X11_again rfl, ⟨by decide, by decide⟩, by decide +kernel⟩, zTin 1290 (by decide +kernel) rfl, zTin 1291 (by decide +kernel) rfl⟩
theorem zf_RX11_16 : zFok RX11 zTW vwCl (16, 11, 1, none) := ⟨RX11, TX11, 7, rfl, zx_11, by decide, zTin 575 (by decide +kernel) rfl, fun _ h => by cases h⟩
end
section
variable {η : zRn}
/-! Math.abs, negation, constants, longs -/
def yAbs (P : yP) : yP := fun loc st h => match st with
  | a :: st' => a.1 = 0 ∧ st'.length ≤ 4 ∧ -2147483648 < a.2 ∧ P loc ((0, if 0 ≤ a.2 then a.2 else -a.2) :: st') h
  | _ => False
def yNeg (P : yP) : yP := fun loc st h => match st with
  | a :: st' => a.1 = 0 ∧ -2147483648 < a.2 ∧ P loc ((0, -a.2) :: st') h
  | _ => False
section YAB
variable {kds : List zKD} {D : va_G} {cl : List vw_C} {cy : Nat → ClassId} {L : List Nat} {Θ : Nat → Option Nat} {nL : Nat}
variable {p : Program} {l : Launch} {e : Env} {R : Room} {s : State} {m : MethodId} {args : Array Value} {below : List Frame} {meth : Method} {c : Code} {Q : State → Prop}
variable {cc : ByteArray} {pc : Nat} {tys : List (ClassId × FieldType)} {own : String} {TW : List Cond} {KP : zKPt} {tyf : (Nat → ClassId) → List (ClassId × FieldType)} {ret : Option FieldType} {fr lo : Nat} {Qr : yQt} {P : yP}
theorem yr_abs (Z : yCz η kds D cl cy L Θ nL p l e R s m args below meth c Q cc tys own TW KP tyf ret fr lo Qr) {idx : Nat} (hd : decode cc pc = .ok (.invokestatic idx, 3)) (h1 : Cond.methodLink own idx Lib.Math.abs.name ∈ TW) (h2 : Cond.static Lib.Math.abs.name ∈ TW) (h3 : Cond.initialized "java/lang/Math" ∈ TW) (h4 : Cond.code Lib.Math.abs.name Lib.Math.abs.code 1 (some .int) ∈ TW) (h5 : 1 ≤ fr) (h6 : 21 ≤ lo) (k : yGo η kds D cl cy L Θ nL p l e R s m args below meth c Q (pc + 3) (P)) : yGo η kds D cl cy L Θ nL p l e R s m args below meth c Q (pc) (yAbs P) := by
  intro loc st h H locs ls hp g
  unfold yAbs at hp
  split at hp
  · rename_i a st'
    obtain ⟨q1, q3, qb, q4⟩ := hp
    obtain ⟨⟨hexec, hb, hml, hts, hown, hKa, hTy, hnd⟩, -, -, -, -, ⟨hfr, hlo⟩, -⟩ := Z
    obtain ⟨x, ex, hx⟩ := y_int (η := η) (g.2.2.1 a List.mem_cons_self) q1
    have key : (if 0 ≤ x then x else 0 - x).toInt = if 0 ≤ a.2 then a.2 else -a.2 := by
      have z0 : (0 : Int32).toInt = 0 := rfl
      rw [← hx] at qb ⊢
      by_cases hlt : 0 ≤ x
      · have := Int32.le_iff_toInt_le.mp hlt
        rw [z0] at this
        rw [if_pos hlt, if_pos this]
      · have : ¬ 0 ≤ x.toInt := fun g => hlt (Int32.le_iff_toInt_le.mpr (by rw [z0]; exact g))
        rw [if_neg hlt, if_neg this, Int32.toInt_sub, z0]
        have h9 := z_hi x
        rw [Int.bmod_eq_of_le (by omega) (by omega)]
        omega
    have c8 := y_cat8 (η := η) (st := st')
    have w := yr_un (t := 0) g (by rw [← key]; exact y_i0 Θ _) q4 k
    rw [y_vi key] at w
    rw [List.map_cons, ex]
    exact va_mabs hexec hb (by rw [hml]; exact g.2.1.1.symm) hown (hts _ h1) (hts _ h2) (hts _ h3) (hts _ h4) (by omega) (by omega) (Nat.zero_le _) (Nat.zero_le _) hd w
  · exact hp.elim
theorem yr_neg (X : hCx D cl cy L p s m args c cc nL tys TW own) (hd : decode cc pc = .ok (.ineg, 1)) (k : yGo η kds D cl cy L Θ nL p l e R s m args below meth c Q (pc + 1) (P)) : yGo η kds D cl cy L Θ nL p l e R s m args below meth c Q (pc) (yNeg P) := by
  intro loc st h H locs ls hp g
  unfold yNeg at hp
  split at hp
  · rename_i a st'
    obtain ⟨q1, qb, q4⟩ := hp
    obtain ⟨x, ex, hx⟩ := y_int (η := η) (g.2.2.1 a List.mem_cons_self) q1
    have key : (-x).toInt = -a.2 := by
      have h9 := z_hi x
      have h8 := z_lo x
      rw [← hx] at qb ⊢
      rw [Int32.toInt_neg]
      exact Int.bmod_eq_of_le (by omega) (by omega)
    have w := yr_un (t := 0) g (by rw [← key]; exact y_i0 Θ _) q4 k
    rw [y_vi key] at w
    rw [List.map_cons, ex]
    exact lv_ineg X.1 X.2.1 hd w
  · exact hp.elim
theorem yr_ldc (X : hCx D cl cy L p s m args c cc nL tys TW own) {i : Nat} {n : Int} (hd : decode cc pc = .ok (.ldc i, 2)) (hc : Cond.constant own i (Int32.ofInt n) ∈ TW) (hn : -2147483648 ≤ n ∧ n ≤ 2147483647) (k : yGo η kds D cl cy L Θ nL p l e R s m args below meth c Q (pc + 2) (P)) : yGo η kds D cl cy L Θ nL p l e R s m args below meth c Q (pc) (yCst 0 n P) :=
  yr_cst (y_i hn.1 hn.2) (fun _ _ _ _ w => lv_ldc X.1 X.2.1 X.2.2.2.2.1 (X.2.2.2.1 _ hc) hd w) k
theorem yr_ldcw (X : hCx D cl cy L p s m args c cc nL tys TW own) {i : Nat} {n : Int} (hd : decode cc pc = .ok (.ldc_w i, 3)) (hc : Cond.constant own i (Int32.ofInt n) ∈ TW) (hn : -2147483648 ≤ n ∧ n ≤ 2147483647) (k : yGo η kds D cl cy L Θ nL p l e R s m args below meth c Q (pc + 3) (P)) : yGo η kds D cl cy L Θ nL p l e R s m args below meth c Q (pc) (yCst 0 n P) :=
  yr_cst (y_i hn.1 hn.2) (fun _ _ _ _ w => lv_ldcw X.1 X.2.1 X.2.2.2.2.1 (X.2.2.2.1 _ hc) hd w) k
/-! sums and products that may wrap -/
theorem yr_wadd {Ts : List Cond} (X : hCx D cl cy L p s m args c cc nL tys Ts own) (hd : decode cc pc = .ok (.iadd, 1)) (k : yGo η kds D cl cy L Θ nL p l e R s m args below meth c Q (pc + 1) (P)) : yGo η kds D cl cy L Θ nL p l e R s m args below meth c Q (pc) (yAri 0 P) := yr_ari (fun _ _ _ _ _ _ w => lv_iadd X.1 X.2.1 hd w) k
theorem yr_wmul {Ts : List Cond} (X : hCx D cl cy L p s m args c cc nL tys Ts own) (hd : decode cc pc = .ok (.imul, 1)) (k : yGo η kds D cl cy L Θ nL p l e R s m args below meth c Q (pc + 1) (P)) : yGo η kds D cl cy L Θ nL p l e R s m args below meth c Q (pc) (yAri 2 P) := yr_ari (fun _ _ _ _ _ _ w => lv_imul X.1 X.2.1 hd w) k
end YAB
def xAbs (K : yX) : yX := fun loc st h => match st with
  | a :: st => cond (Nat.beq a.1 0) (cond (Nat.ble st.length 4) (xg (-2147483648 < a.2) (K loc ((0, if 0 ≤ a.2 then a.2 else -a.2) :: st) h)) none) none
  | _ => none
theorem x_abs {Qr : yQt} {t : Nat} {K : yX} : ∀ loc st h, xw Qr t (xAbs K) loc st h → yAbs (xw Qr t K) loc st h := by
  intro loc st h ⟨v, h2, e, q⟩
  unfold xAbs at e
  unfold yAbs
  split at e
  · rename_i a st
    obtain ⟨e1, e⟩ := xt1 e
    obtain ⟨e2, e⟩ := xt_s e
    obtain ⟨e3, e⟩ := xg_s e
    exact ⟨e1, Nat.le_of_ble_eq_true e2, e3, v, h2, e, q⟩
  · cases e
def xNeg (K : yX) : yX := fun loc st h => match st with
  | a :: st => cond (Nat.beq a.1 0) (xg (-2147483648 < a.2) (K loc ((0, -a.2) :: st) h)) none
  | _ => none
theorem x_neg {Qr : yQt} {t : Nat} {K : yX} : ∀ loc st h, xw Qr t (xNeg K) loc st h → yNeg (xw Qr t K) loc st h := by
  intro loc st h ⟨v, h2, e, q⟩
  unfold xNeg at e
  unfold yNeg
  split at e
  · rename_i a st
    obtain ⟨e1, e⟩ := xt1 e
    obtain ⟨e3, e⟩ := xg_s e
    exact ⟨e1, e3, v, h2, e, q⟩
  · cases e
/-! a reference that may be null is none: its tag is named -/
def xNm (t0 : Nat) (K : yX) : yX := fun loc st h => match st with
  | a :: st => cond (Nat.beq a.1 t0) (xg (0 ≤ a.2) (K loc ((t0 + 100000, a.2) :: st) h)) none
  | _ => none
theorem x_nm {t0 : Nat} (ht : 2 ≤ t0 ∧ t0 < 100002) {Θ : Nat → Option Nat} {Qr : yQt} {t : Nat} {K : yX} : ∀ loc st h, xw Qr t (xNm t0 K) loc st h → yNn Θ (xw Qr t K) loc st h := by
  intro loc st h ⟨v, h2, e, q⟩
  unfold xNm at e
  unfold yNn
  split at e
  · rename_i a st
    obtain ⟨a1, a2⟩ := a
    obtain ⟨e1, e⟩ := xt1 e
    obtain ⟨e2, e⟩ := xg_s e
    simp only at e1
    subst e1
    exact ⟨ht, e2, fun _ => ⟨v, h2, e, q⟩⟩
  · cases e
end
section
set_option maxRecDepth 100000 in
theorem yq_X9_findSea : lw_tbl[835]? = some (.code yX9_findSea cX9_findSea 2 (some (.object "ShoalClaims$Sea"))) := rfl
theorem yw_X9_findSea : zMV yX9_findSea cX9_findSea 2 (some (.object "ShoalClaims$Sea")) 1 := ⟨⟨zTin 102 (by decide +kernel) rfl, zTin 835 yq_X9_findSea rfl, ⟨by decide, by decide⟩, by decide +kernel⟩, zTin 833 (by decide +kernel) rfl, zTin 834 (by decide +kernel) rfl⟩
theorem yt_X9_findSea_0 : decode cX9_findSea 0 = .ok (.iload_n 1, 1) := by decide +kernel
theorem yt_X9_findSea_1 : decode cX9_findSea 1 = .ok (.ifCond .lt 13, 3) := by decide +kernel
theorem yt_X9_findSea_14 : decode cX9_findSea 14 = .ok (.aconst_null, 1) := by decide +kernel
theorem yt_X9_findSea_15 : decode cX9_findSea 15 = .ok (.goto 9, 3) := by decide +kernel
theorem yt_X9_findSea_24 : decode cX9_findSea 24 = .ok (.areturn, 1) := by decide +kernel
theorem yt_X9_findSea_4 : decode cX9_findSea 4 = .ok (.iload_n 1, 1) := by decide +kernel
theorem yt_X9_findSea_5 : decode cX9_findSea 5 = .ok (.aload_n 0, 1) := by decide +kernel
theorem yt_X9_findSea_6 : decode cX9_findSea 6 = .ok (.getfield 18, 3) := by decide +kernel
theorem yt_X9_findSea_9 : decode cX9_findSea 9 = .ok (.iconst 0, 1) := by decide +kernel
theorem yt_X9_findSea_10 : decode cX9_findSea 10 = .ok (.iaload, 1) := by decide +kernel
theorem yt_X9_findSea_11 : decode cX9_findSea 11 = .ok (.if_icmp .lt 7, 3) := by decide +kernel
theorem yt_X9_findSea_18 : decode cX9_findSea 18 = .ok (.aload_n 0, 1) := by decide +kernel
theorem yt_X9_findSea_19 : decode cX9_findSea 19 = .ok (.getfield 25, 3) := by decide +kernel
theorem yt_X9_findSea_22 : decode cX9_findSea 22 = .ok (.iload_n 1, 1) := by decide +kernel
theorem yt_X9_findSea_23 : decode cX9_findSea 23 = .ok (.aaload, 1) := by decide +kernel
def xp_X9_findSea (n : Nat) : yX := (xLd 1 0 (xLt0 (xCst 2 (-1) (xRa 15)) (xLd 1 0 (xLd 0 100030 (xGetO 28 1 24 3 (xCst 0 0 (xAld 24 3 (xLt (xLd 0 100030 (xGetO 28 2 25 4 (xLd 1 0 (xAldO 25 2 15 13 10 (xRa 15))))) (xCst 2 (-1) (xRa 15))))))))))
theorem s_X9_findSea {η : zRn} {D : va_G} {cy : Nat → ClassId} {L : List Nat} {Θ : Nat → Option Nat} {p : Program} {l : Launch} {e : Env} {R : Room} {s : State} {m : MethodId} {args : Array Value} {below : List Frame} {meth : Method} {c : Code} {Q : State → Prop} {Qr : yQt} {n : Nat} (Z : yCz η zkds D vwCl cy L Θ 2 p l e R s m args below meth c Q cX9_findSea (tyW cy) RX9 zTW zKP tyW (some (.object "ShoalClaims$Sea")) 0 0 Qr) : yGo η zkds D vwCl cy L Θ 2 p l e R s m args below meth c Q 0 (xw Qr 17 (xp_X9_findSea n)) := (yr_mono x_ld (yr_iload_n Z.1 rfl yt_X9_findSea_0 (yr_mono x_lt0 (yr_lt0 Z.1 yt_X9_findSea_1 (by first | decide | rfl) (yr_mono x_cst (yr_null Z.1 yt_X9_findSea_14 (yr_goto Z.1 yt_X9_findSea_15 (by first | decide | rfl) (yr_mono x_ra (yr_ra Z (by decide) rfl yt_X9_findSea_24))))) (yr_mono x_ld (yr_iload_n Z.1 rfl yt_X9_findSea_4 (yr_mono x_ld (yr_aload_n Z.1 rfl (by decide) yt_X9_findSea_5 (yr_mono x_geto (yr_getP (lo := 0) (hi := 2147483647) Z.1 yf_RX9_18 (by decide +kernel) yt_X9_findSea_6 (yr_mono x_cst (yr_iconst Z.1 yt_X9_findSea_9 (by decide) (yr_mono x_ald (yr_iald (lo := 0) (hi := 2) Z.1 (by decide +kernel) yt_X9_findSea_10 (yr_mono x_lt (yr_lt Z.1 yt_X9_findSea_11 (by first | decide | rfl) (yr_mono x_ld (yr_aload_n Z.1 rfl (by decide) yt_X9_findSea_18 (yr_mono x_geto (yr_getP (lo := 0) (hi := 2147483647) Z.1 yf_RX9_25 (by decide +kernel) yt_X9_findSea_19 (yr_mono x_ld (yr_iload_n Z.1 rfl yt_X9_findSea_22 (yr_mono x_aldo (yr_aldq Z.1 (by decide +kernel) yt_X9_findSea_23 (yr_mono x_ra (yr_ra Z (by decide) rfl yt_X9_findSea_24)))))))))) (yr_mono x_cst (yr_null Z.1 yt_X9_findSea_14 (yr_goto Z.1 yt_X9_findSea_15 (by first | decide | rfl) (yr_mono x_ra (yr_ra Z (by decide) rfl yt_X9_findSea_24)))))))))))))))))))))
def f_X9_findSea : yFn := fun n ys h => (fun n => xp_X9_findSea n) n (yar 0 ([100030, 0].zip ys)) [] h
theorem m_X9_findSea (l : Launch) : yMet zkds vwCl zTW zKP l (yX9_findSea, cX9_findSea, 2, (some (.object "ShoalClaims$Sea"))) 0 0 [100030, 0] (yF 17 f_X9_findSea) := y_metF zkp_ok zTW_good (yX9_findSea, cX9_findSea, 2, (some (.object "ShoalClaims$Sea"))) 0 0 [100030, 0] 17 (fun n => xp_X9_findSea n) (by decide +kernel) (by decide) (fun η D cy L Θ p e R s m args below meth c Q Qr n Z => s_X9_findSea (n := n) Z)
set_option maxRecDepth 100000 in
theorem e_X9_findSea {n : Nat} {x1 : Int} {h : yH} : f_X9_findSea n [3, x1] h = if x1 < 0 then (some ((-1), h)) else (xg (h 3 1 = 6) (if x1 < (h 6 0) then (xg (h 3 2 = 7) (xg (0 ≤ x1 ∧ x1 < 2) (xg (h 7 x1.toNat = (7 + 13 + 10 * x1)) (some ((7 + 13 + 10 * x1), h))))) else (some ((-1), h)))) := by rfl
set_option maxRecDepth 100000 in
theorem yq_X9_findDay : lw_tbl[906]? = some (.code yX9_findDay cX9_findDay 2 (some (.object "ShoalClaims$Day"))) := rfl
theorem yw_X9_findDay : zMV yX9_findDay cX9_findDay 2 (some (.object "ShoalClaims$Day")) 1 := ⟨⟨zTin 102 (by decide +kernel) rfl, zTin 906 yq_X9_findDay rfl, ⟨by decide, by decide⟩, by decide +kernel⟩, zTin 904 (by decide +kernel) rfl, zTin 905 (by decide +kernel) rfl⟩
theorem yt_X9_findDay_0 : decode cX9_findDay 0 = .ok (.iload_n 1, 1) := by decide +kernel
theorem yt_X9_findDay_1 : decode cX9_findDay 1 = .ok (.ifCond .lt 13, 3) := by decide +kernel
theorem yt_X9_findDay_14 : decode cX9_findDay 14 = .ok (.aconst_null, 1) := by decide +kernel
theorem yt_X9_findDay_15 : decode cX9_findDay 15 = .ok (.goto 9, 3) := by decide +kernel
theorem yt_X9_findDay_24 : decode cX9_findDay 24 = .ok (.areturn, 1) := by decide +kernel
theorem yt_X9_findDay_4 : decode cX9_findDay 4 = .ok (.iload_n 1, 1) := by decide +kernel
theorem yt_X9_findDay_5 : decode cX9_findDay 5 = .ok (.aload_n 0, 1) := by decide +kernel
theorem yt_X9_findDay_6 : decode cX9_findDay 6 = .ok (.getfield 18, 3) := by decide +kernel
theorem yt_X9_findDay_9 : decode cX9_findDay 9 = .ok (.iconst 1, 1) := by decide +kernel
theorem yt_X9_findDay_10 : decode cX9_findDay 10 = .ok (.iaload, 1) := by decide +kernel
theorem yt_X9_findDay_11 : decode cX9_findDay 11 = .ok (.if_icmp .lt 7, 3) := by decide +kernel
theorem yt_X9_findDay_18 : decode cX9_findDay 18 = .ok (.aload_n 0, 1) := by decide +kernel
theorem yt_X9_findDay_19 : decode cX9_findDay 19 = .ok (.getfield 32, 3) := by decide +kernel
theorem yt_X9_findDay_22 : decode cX9_findDay 22 = .ok (.iload_n 1, 1) := by decide +kernel
theorem yt_X9_findDay_23 : decode cX9_findDay 23 = .ok (.aaload, 1) := by decide +kernel
def xp_X9_findDay (n : Nat) : yX := (xLd 1 0 (xLt0 (xCst 2 (-1) (xRa 18)) (xLd 1 0 (xLd 0 100030 (xGetO 28 1 24 3 (xCst 0 1 (xAld 24 3 (xLt (xLd 0 100030 (xGetO 28 3 26 5 (xLd 1 0 (xAldO 26 2 18 32 10 (xRa 18))))) (xCst 2 (-1) (xRa 18))))))))))
theorem s_X9_findDay {η : zRn} {D : va_G} {cy : Nat → ClassId} {L : List Nat} {Θ : Nat → Option Nat} {p : Program} {l : Launch} {e : Env} {R : Room} {s : State} {m : MethodId} {args : Array Value} {below : List Frame} {meth : Method} {c : Code} {Q : State → Prop} {Qr : yQt} {n : Nat} (Z : yCz η zkds D vwCl cy L Θ 2 p l e R s m args below meth c Q cX9_findDay (tyW cy) RX9 zTW zKP tyW (some (.object "ShoalClaims$Day")) 0 0 Qr) : yGo η zkds D vwCl cy L Θ 2 p l e R s m args below meth c Q 0 (xw Qr 20 (xp_X9_findDay n)) := (yr_mono x_ld (yr_iload_n Z.1 rfl yt_X9_findDay_0 (yr_mono x_lt0 (yr_lt0 Z.1 yt_X9_findDay_1 (by first | decide | rfl) (yr_mono x_cst (yr_null Z.1 yt_X9_findDay_14 (yr_goto Z.1 yt_X9_findDay_15 (by first | decide | rfl) (yr_mono x_ra (yr_ra Z (by decide) rfl yt_X9_findDay_24))))) (yr_mono x_ld (yr_iload_n Z.1 rfl yt_X9_findDay_4 (yr_mono x_ld (yr_aload_n Z.1 rfl (by decide) yt_X9_findDay_5 (yr_mono x_geto (yr_getP (lo := 0) (hi := 2147483647) Z.1 yf_RX9_18 (by decide +kernel) yt_X9_findDay_6 (yr_mono x_cst (yr_iconst Z.1 yt_X9_findDay_9 (by decide) (yr_mono x_ald (yr_iald (lo := 0) (hi := 2) Z.1 (by decide +kernel) yt_X9_findDay_10 (yr_mono x_lt (yr_lt Z.1 yt_X9_findDay_11 (by first | decide | rfl) (yr_mono x_ld (yr_aload_n Z.1 rfl (by decide) yt_X9_findDay_18 (yr_mono x_geto (yr_getP (lo := 0) (hi := 2147483647) Z.1 yf_RX9_32 (by decide +kernel) yt_X9_findDay_19 (yr_mono x_ld (yr_iload_n Z.1 rfl yt_X9_findDay_22 (yr_mono x_aldo (yr_aldq Z.1 (by decide +kernel) yt_X9_findDay_23 (yr_mono x_ra (yr_ra Z (by decide) rfl yt_X9_findDay_24)))))))))) (yr_mono x_cst (yr_null Z.1 yt_X9_findDay_14 (yr_goto Z.1 yt_X9_findDay_15 (by first | decide | rfl) (yr_mono x_ra (yr_ra Z (by decide) rfl yt_X9_findDay_24)))))))))))))))))))))
def f_X9_findDay : yFn := fun n ys h => (fun n => xp_X9_findDay n) n (yar 0 ([100030, 0].zip ys)) [] h
theorem m_X9_findDay (l : Launch) : yMet zkds vwCl zTW zKP l (yX9_findDay, cX9_findDay, 2, (some (.object "ShoalClaims$Day"))) 0 0 [100030, 0] (yF 20 f_X9_findDay) := y_metF zkp_ok zTW_good (yX9_findDay, cX9_findDay, 2, (some (.object "ShoalClaims$Day"))) 0 0 [100030, 0] 20 (fun n => xp_X9_findDay n) (by decide +kernel) (by decide) (fun η D cy L Θ p e R s m args below meth c Q Qr n Z => s_X9_findDay (n := n) Z)
set_option maxRecDepth 100000 in
theorem e_X9_findDay {n : Nat} {x1 : Int} {h : yH} : f_X9_findDay n [3, x1] h = if x1 < 0 then (some ((-1), h)) else (xg (h 3 1 = 6) (if x1 < (h 6 1) then (xg (h 3 3 = 8) (xg (0 ≤ x1 ∧ x1 < 2) (xg (h 8 x1.toNat = (8 + 32 + 10 * x1)) (some ((8 + 32 + 10 * x1), h))))) else (some ((-1), h)))) := by rfl
set_option maxRecDepth 100000 in
theorem yq_X1_numberOf : lw_tbl[910]? = some (.code yX1_numberOf cX1_numberOf 3 (some .int)) := rfl
theorem yw_X1_numberOf : zMV yX1_numberOf cX1_numberOf 3 (some .int) 2 := ⟨⟨zTin 105 (by decide +kernel) rfl, zTin 910 yq_X1_numberOf rfl, ⟨by decide, by decide⟩, by decide +kernel⟩, zTin 908 (by decide +kernel) rfl, zTin 909 (by decide +kernel) rfl⟩
theorem yt_X1_numberOf_0 : decode cX1_numberOf 0 = .ok (.aload_n 0, 1) := by decide +kernel
theorem yt_X1_numberOf_1 : decode cX1_numberOf 1 = .ok (.getfield 15, 3) := by decide +kernel
theorem yt_X1_numberOf_4 : decode cX1_numberOf 4 = .ok (.iconst 3, 1) := by decide +kernel
theorem yt_X1_numberOf_5 : decode cX1_numberOf 5 = .ok (.iload_n 1, 1) := by decide +kernel
theorem yt_X1_numberOf_6 : decode cX1_numberOf 6 = .ok (.imul, 1) := by decide +kernel
theorem yt_X1_numberOf_7 : decode cX1_numberOf 7 = .ok (.iload_n 2, 1) := by decide +kernel
theorem yt_X1_numberOf_8 : decode cX1_numberOf 8 = .ok (.iadd, 1) := by decide +kernel
theorem yt_X1_numberOf_9 : decode cX1_numberOf 9 = .ok (.iaload, 1) := by decide +kernel
theorem yt_X1_numberOf_10 : decode cX1_numberOf 10 = .ok (.ireturn, 1) := by decide +kernel
def xp_X1_numberOf (n : Nat) : yX := (xLd 0 100020 (xGetO 18 2 17 2 (xCst 0 3 (xLd 1 0 (xMul (xLd 2 0 (xAdd (xAld 17 90 xRi))))))))
theorem s_X1_numberOf {η : zRn} {D : va_G} {cy : Nat → ClassId} {L : List Nat} {Θ : Nat → Option Nat} {p : Program} {l : Launch} {e : Env} {R : Room} {s : State} {m : MethodId} {args : Array Value} {below : List Frame} {meth : Method} {c : Code} {Q : State → Prop} {Qr : yQt} {n : Nat} (Z : yCz η zkds D vwCl cy L Θ 3 p l e R s m args below meth c Q cX1_numberOf (tyW cy) RX1 zTW zKP tyW (some .int) 0 0 Qr) : yGo η zkds D vwCl cy L Θ 3 p l e R s m args below meth c Q 0 (xw Qr 0 (xp_X1_numberOf n)) := (yr_mono x_ld (yr_aload_n Z.1 rfl (by decide) yt_X1_numberOf_0 (yr_mono x_geto (yr_getP (lo := 0) (hi := 2147483647) Z.1 yf_RX1_15 (by decide +kernel) yt_X1_numberOf_1 (yr_mono x_cst (yr_iconst Z.1 yt_X1_numberOf_4 (by decide) (yr_mono x_ld (yr_iload_n Z.1 rfl yt_X1_numberOf_5 (yr_mono x_mul (yr_mul Z.1 yt_X1_numberOf_6 (yr_mono x_ld (yr_iload_n Z.1 rfl yt_X1_numberOf_7 (yr_mono x_add (yr_add Z.1 yt_X1_numberOf_8 (yr_mono x_ald (yr_iald (lo := (-2147483648)) (hi := 2147483647) Z.1 (by decide +kernel) yt_X1_numberOf_9 (yr_mono x_ri (yr_ri Z rfl yt_X1_numberOf_10))))))))))))))))))
def f_X1_numberOf : yFn := fun n ys h => (fun n => xp_X1_numberOf n) n (yar 0 ([100020, 0, 0].zip ys)) [] h
theorem m_X1_numberOf (l : Launch) : yMet zkds vwCl zTW zKP l (yX1_numberOf, cX1_numberOf, 3, (some .int)) 0 0 [100020, 0, 0] (yF 0 f_X1_numberOf) := y_metF zkp_ok zTW_good (yX1_numberOf, cX1_numberOf, 3, (some .int)) 0 0 [100020, 0, 0] 0 (fun n => xp_X1_numberOf n) (by decide +kernel) (by decide) (fun η D cy L Θ p e R s m args below meth c Q Qr n Z => s_X1_numberOf (n := n) Z)
set_option maxRecDepth 100000 in
theorem e_X1_numberOf {n : Nat} {x0 x1 x2 : Int} {h : yH} : f_X1_numberOf n [x0, x1, x2] h = xg (h x0.toNat 2 = (x0 + 2)) (xg (-2147483648 ≤ 3 * x1 ∧ 3 * x1 ≤ 2147483647) (xg (-2147483648 ≤ (3 * x1) + x2 ∧ (3 * x1) + x2 ≤ 2147483647) (xg (0 ≤ ((3 * x1) + x2) ∧ ((3 * x1) + x2) < 90) (some ((h (x0 + 2).toNat ((3 * x1) + x2).toNat), h))))) := by rfl
set_option maxRecDepth 100000 in
theorem yq_X11_deed : lw_tbl[902]? = some (.code yX11_deed cX11_deed 5 (some .int)) := rfl
theorem yw_X11_deed : zMV yX11_deed cX11_deed 5 (some .int) 3 := ⟨⟨zTin 101 (by decide +kernel) rfl, zTin 902 yq_X11_deed rfl, ⟨by decide, by decide⟩, by decide +kernel⟩, zTin 900 (by decide +kernel) rfl, zTin 901 (by decide +kernel) rfl⟩
theorem yt_X11_deed_0 : decode cX11_deed 0 = .ok (.aload_n 0, 1) := by decide +kernel
theorem yt_X11_deed_1 : decode cX11_deed 1 = .ok (.getfield 10, 3) := by decide +kernel
theorem yt_X11_deed_4 : decode cX11_deed 4 = .ok (.iload_n 1, 1) := by decide +kernel
theorem yt_X11_deed_5 : decode cX11_deed 5 = .ok (.invokevirtual 170, 3) := by decide +kernel
theorem yl_RX11_170 : Cond.methodLink RX11 170 yX9_findDay ∈ zTW := zTin 903 (by decide +kernel) rfl
theorem yt_X11_deed_8 : decode cX11_deed 8 = .ok (.astore 4, 2) := by decide +kernel
theorem yt_X11_deed_10 : decode cX11_deed 10 = .ok (.aload 4, 2) := by decide +kernel
theorem yt_X11_deed_12 : decode cX11_deed 12 = .ok (.ifnonnull 6, 3) := by decide +kernel
theorem yt_X11_deed_18 : decode cX11_deed 18 = .ok (.iload_n 2, 1) := by decide +kernel
theorem yt_X11_deed_19 : decode cX11_deed 19 = .ok (.iconst (-1), 1) := by decide +kernel
theorem yt_X11_deed_20 : decode cX11_deed 20 = .ok (.if_icmp .ne 18, 3) := by decide +kernel
theorem yt_X11_deed_38 : decode cX11_deed 38 = .ok (.iload_n 2, 1) := by decide +kernel
theorem yt_X11_deed_39 : decode cX11_deed 39 = .ok (.ifCond .lt 21, 3) := by decide +kernel
theorem yt_X11_deed_60 : decode cX11_deed 60 = .ok (.bipush (-2), 2) := by decide +kernel
theorem yt_X11_deed_62 : decode cX11_deed 62 = .ok (.ireturn, 1) := by decide +kernel
theorem yt_X11_deed_42 : decode cX11_deed 42 = .ok (.iload_n 2, 1) := by decide +kernel
theorem yt_X11_deed_43 : decode cX11_deed 43 = .ok (.aload 4, 2) := by decide +kernel
theorem yt_X11_deed_45 : decode cX11_deed 45 = .ok (.getfield 174, 3) := by decide +kernel
theorem yf_RX11_174 : zFok RX11 zTW vwCl (174, 1, 0, (some .int)) := ⟨RX1, TX1, 3, rfl, zx_1, by decide, zTin 260 (by decide +kernel) rfl, fun ty h => ⟨rfl, tyX1, tyX1_ok, nmX1, by cases h; rfl⟩⟩
theorem yt_X11_deed_48 : decode cX11_deed 48 = .ok (.if_icmp .ge 12, 3) := by decide +kernel
theorem yt_X11_deed_51 : decode cX11_deed 51 = .ok (.iload_n 3, 1) := by decide +kernel
theorem yt_X11_deed_52 : decode cX11_deed 52 = .ok (.ifCond .lt 8, 3) := by decide +kernel
theorem yt_X11_deed_55 : decode cX11_deed 55 = .ok (.iload_n 3, 1) := by decide +kernel
theorem yt_X11_deed_56 : decode cX11_deed 56 = .ok (.iconst 3, 1) := by decide +kernel
theorem yt_X11_deed_57 : decode cX11_deed 57 = .ok (.if_icmp .le 6, 3) := by decide +kernel
theorem yt_X11_deed_63 : decode cX11_deed 63 = .ok (.iload_n 3, 1) := by decide +kernel
theorem yt_X11_deed_64 : decode cX11_deed 64 = .ok (.ifCond .ne 13, 3) := by decide +kernel
theorem yt_X11_deed_77 : decode cX11_deed 77 = .ok (.aload 4, 2) := by decide +kernel
theorem yt_X11_deed_79 : decode cX11_deed 79 = .ok (.iload_n 2, 1) := by decide +kernel
theorem yt_X11_deed_80 : decode cX11_deed 80 = .ok (.iload_n 3, 1) := by decide +kernel
theorem yt_X11_deed_81 : decode cX11_deed 81 = .ok (.iconst 1, 1) := by decide +kernel
theorem yt_X11_deed_82 : decode cX11_deed 82 = .ok (.isub, 1) := by decide +kernel
theorem yt_X11_deed_83 : decode cX11_deed 83 = .ok (.invokevirtual 182, 3) := by decide +kernel
theorem yl_RX11_182 : Cond.methodLink RX11 182 yX1_numberOf ∈ zTW := zTin 907 (by decide +kernel) rfl
theorem yt_X11_deed_86 : decode cX11_deed 86 = .ok (.ireturn, 1) := by decide +kernel
theorem yt_X11_deed_67 : decode cX11_deed 67 = .ok (.aload 4, 2) := by decide +kernel
theorem yt_X11_deed_69 : decode cX11_deed 69 = .ok (.getfield 179, 3) := by decide +kernel
theorem yf_RX11_179 : zFok RX11 zTW vwCl (179, 1, 1, none) := ⟨RX1, TX1, 3, rfl, zx_1, by decide, zTin 264 (by decide +kernel) rfl, fun _ h => by cases h⟩
theorem yt_X11_deed_72 : decode cX11_deed 72 = .ok (.iload_n 2, 1) := by decide +kernel
theorem yt_X11_deed_73 : decode cX11_deed 73 = .ok (.iaload, 1) := by decide +kernel
theorem yt_X11_deed_74 : decode cX11_deed 74 = .ok (.goto 12, 3) := by decide +kernel
theorem yt_X11_deed_23 : decode cX11_deed 23 = .ok (.iload_n 3, 1) := by decide +kernel
theorem yt_X11_deed_24 : decode cX11_deed 24 = .ok (.ifCond .ne 11, 3) := by decide +kernel
theorem yt_X11_deed_35 : decode cX11_deed 35 = .ok (.bipush (-2), 2) := by decide +kernel
theorem yt_X11_deed_37 : decode cX11_deed 37 = .ok (.ireturn, 1) := by decide +kernel
theorem yt_X11_deed_27 : decode cX11_deed 27 = .ok (.aload 4, 2) := by decide +kernel
theorem yt_X11_deed_29 : decode cX11_deed 29 = .ok (.getfield 174, 3) := by decide +kernel
theorem yt_X11_deed_32 : decode cX11_deed 32 = .ok (.goto 5, 3) := by decide +kernel
theorem yt_X11_deed_15 : decode cX11_deed 15 = .ok (.bipush (-2), 2) := by decide +kernel
theorem yt_X11_deed_17 : decode cX11_deed 17 = .ok (.ireturn, 1) := by decide +kernel
def xp_X11_deed (n : Nat) : yX := (xLd 0 100065 (xGetO 63 0 28 2 (xLd 1 0 (xCalR 2 [100030, 0] 20 (f_X9_findDay n) (xSt 4 20 (xLd 4 20 (xNull (xCst 0 (-2) xRi) (xLd 2 0 (xCst 0 (-1) (xEq (xLd 3 0 (xEq0 (xLd 4 20 (xNm 20 (xGet 18 0 0 xRi))) (xCst 0 (-2) xRi))) (xLd 2 0 (xLt0 (xCst 0 (-2) xRi) (xLd 2 0 (xLd 4 20 (xNm 20 (xGet 18 0 0 (xLt (xLd 3 0 (xLt0 (xCst 0 (-2) xRi) (xLd 3 0 (xCst 0 3 (xGt (xCst 0 (-2) xRi) (xLd 3 0 (xEq0 (xLd 4 20 (xNm 20 (xGetO 18 1 16 1 (xLd 2 0 (xAld 16 30 xRi))))) (xLd 4 20 (xNm 20 (xLd 2 0 (xLd 3 0 (xCst 0 1 (xSub (xCalR 3 [100020, 0, 0] 0 (f_X1_numberOf n) xRi)))))))))))))) (xCst 0 (-2) xRi))))))))))))))))))
theorem s_X11_deed {η : zRn} {D : va_G} {cy : Nat → ClassId} {L : List Nat} {Θ : Nat → Option Nat} {p : Program} {l : Launch} {e : Env} {R : Room} {s : State} {m : MethodId} {args : Array Value} {below : List Frame} {meth : Method} {c : Code} {Q : State → Prop} {Qr : yQt} {n : Nat} (Z : yCz η zkds D vwCl cy L Θ 5 p l e R s m args below meth c Q cX11_deed (tyW cy) RX11 zTW zKP tyW (some .int) 1 22 Qr) : yGo η zkds D vwCl cy L Θ 5 p l e R s m args below meth c Q 0 (xw Qr 0 (xp_X11_deed n)) := (yr_mono x_ld (yr_aload_n Z.1 rfl (by decide) yt_X11_deed_0 (yr_mono x_geto (yr_getP (lo := 0) (hi := 2147483647) Z.1 yf_RX11_10 (by decide +kernel) yt_X11_deed_1 (yr_mono x_ld (yr_iload_n Z.1 rfl yt_X11_deed_4 (yr_mono x_calR (yr_calR rfl (y_hrunV Z (y := (yX9_findDay, cX9_findDay, 2, (some (.object "ShoalClaims$Day")))) (m_X9_findDay l) (ycv_of yw_X9_findDay 170 yt_X11_deed_5 yl_RX11_170 rfl (by decide) (by decide) ⟨28, _, _, _, _, rfl, zkd_28, rfl, rfl⟩)) (yr_mono x_st (yr_astore Z.1 (by decide) (by decide) yt_X11_deed_8 (yr_mono x_ld (yr_aload Z.1 (by decide) yt_X11_deed_10 (yr_mono x_null (yr_ifnonnull Z.1 yt_X11_deed_12 (by first | decide | rfl) (yr_mono x_ld (yr_iload_n Z.1 rfl yt_X11_deed_18 (yr_mono x_cst (yr_iconst Z.1 yt_X11_deed_19 (by decide) (yr_mono x_eq (yr_ne Z.1 yt_X11_deed_20 (by first | decide | rfl) (yr_mono x_ld (yr_iload_n Z.1 rfl yt_X11_deed_38 (yr_mono x_lt0 (yr_lt0 Z.1 yt_X11_deed_39 (by first | decide | rfl) (yr_mono x_cst (yr_bipush Z.1 yt_X11_deed_60 (by decide) (yr_mono x_ri (yr_ri Z rfl yt_X11_deed_62)))) (yr_mono x_ld (yr_iload_n Z.1 rfl yt_X11_deed_42 (yr_mono x_ld (yr_aload Z.1 (by decide) yt_X11_deed_43 (yr_mono (x_nm ⟨by decide, by decide⟩) (yr_nn (yr_mono x_get (yr_get (lo := 0) (hi := 30) Z.1 yf_RX11_174 (by decide +kernel) yt_X11_deed_45 (yr_mono x_lt (yr_ge Z.1 yt_X11_deed_48 (by first | decide | rfl) (yr_mono x_cst (yr_bipush Z.1 yt_X11_deed_60 (by decide) (yr_mono x_ri (yr_ri Z rfl yt_X11_deed_62)))) (yr_mono x_ld (yr_iload_n Z.1 rfl yt_X11_deed_51 (yr_mono x_lt0 (yr_lt0 Z.1 yt_X11_deed_52 (by first | decide | rfl) (yr_mono x_cst (yr_bipush Z.1 yt_X11_deed_60 (by decide) (yr_mono x_ri (yr_ri Z rfl yt_X11_deed_62)))) (yr_mono x_ld (yr_iload_n Z.1 rfl yt_X11_deed_55 (yr_mono x_cst (yr_iconst Z.1 yt_X11_deed_56 (by decide) (yr_mono x_gt (yr_le Z.1 yt_X11_deed_57 (by first | decide | rfl) (yr_mono x_ld (yr_iload_n Z.1 rfl yt_X11_deed_63 (yr_mono x_eq0 (yr_ne0 Z.1 yt_X11_deed_64 (by first | decide | rfl) (yr_mono x_ld (yr_aload Z.1 (by decide) yt_X11_deed_77 (yr_mono (x_nm ⟨by decide, by decide⟩) (yr_nn (yr_mono x_ld (yr_iload_n Z.1 rfl yt_X11_deed_79 (yr_mono x_ld (yr_iload_n Z.1 rfl yt_X11_deed_80 (yr_mono x_cst (yr_iconst Z.1 yt_X11_deed_81 (by decide) (yr_mono x_sub (yr_sub Z.1 yt_X11_deed_82 (yr_mono x_calR (yr_calR rfl (y_hrunV Z (y := (yX1_numberOf, cX1_numberOf, 3, (some .int))) (m_X1_numberOf l) (ycv_of yw_X1_numberOf 182 yt_X11_deed_83 yl_RX11_182 rfl (by decide) (by decide) ⟨18, _, _, _, _, rfl, zkd_18, rfl, rfl⟩)) (yr_mono x_ri (yr_ri Z rfl yt_X11_deed_86)))))))))))))))) (yr_mono x_ld (yr_aload Z.1 (by decide) yt_X11_deed_67 (yr_mono (x_nm ⟨by decide, by decide⟩) (yr_nn (yr_mono x_geto (yr_getP (lo := 0) (hi := 2147483647) Z.1 yf_RX11_179 (by decide +kernel) yt_X11_deed_69 (yr_mono x_ld (yr_iload_n Z.1 rfl yt_X11_deed_72 (yr_mono x_ald (yr_iald (lo := 0) (hi := 5) Z.1 (by decide +kernel) yt_X11_deed_73 (yr_goto Z.1 yt_X11_deed_74 (by first | decide | rfl) (yr_mono x_ri (yr_ri Z rfl yt_X11_deed_86))))))))))))))))) (yr_mono x_cst (yr_bipush Z.1 yt_X11_deed_60 (by decide) (yr_mono x_ri (yr_ri Z rfl yt_X11_deed_62)))))))))))))))))))))))))))) (yr_mono x_ld (yr_iload_n Z.1 rfl yt_X11_deed_23 (yr_mono x_eq0 (yr_ne0 Z.1 yt_X11_deed_24 (by first | decide | rfl) (yr_mono x_cst (yr_bipush Z.1 yt_X11_deed_35 (by decide) (yr_mono x_ri (yr_ri Z rfl yt_X11_deed_37)))) (yr_mono x_ld (yr_aload Z.1 (by decide) yt_X11_deed_27 (yr_mono (x_nm ⟨by decide, by decide⟩) (yr_nn (yr_mono x_get (yr_get (lo := 0) (hi := 30) Z.1 yf_RX11_174 (by decide +kernel) yt_X11_deed_29 (yr_goto Z.1 yt_X11_deed_32 (by first | decide | rfl) (yr_mono x_ri (yr_ri Z rfl yt_X11_deed_37))))))))))))))))))) (yr_mono x_cst (yr_bipush Z.1 yt_X11_deed_15 (by decide) (yr_mono x_ri (yr_ri Z rfl yt_X11_deed_17))))))))))))))))))
def f_X11_deed : yFn := fun n ys h => (fun n => xp_X11_deed n) n (yar 0 ([100065, 0, 0, 0].zip ys)) [] h
theorem m_X11_deed (l : Launch) : yMet zkds vwCl zTW zKP l (yX11_deed, cX11_deed, 5, (some .int)) 1 22 [100065, 0, 0, 0] (yF 0 f_X11_deed) := y_metF zkp_ok zTW_good (yX11_deed, cX11_deed, 5, (some .int)) 1 22 [100065, 0, 0, 0] 0 (fun n => xp_X11_deed n) (by decide +kernel) (by decide) (fun η D cy L Θ p e R s m args below meth c Q Qr n Z => s_X11_deed (n := n) Z)
set_option maxRecDepth 100000 in
theorem e_X11_deed {n : Nat} {x1 x2 x3 : Int} {h : yH} : f_X11_deed n [1, x1, x2, x3] h = xg (h 1 0 = 3) (xb (f_X9_findDay n [3, x1] h) (fun v1 h1 => if v1 < 0 then (some ((-2), h1)) else (if x2 = (-1) then (if x3 = 0 then (xg (0 ≤ v1) (some ((h1 v1.toNat 0), h1))) else (some ((-2), h1))) else (if x2 < 0 then (some ((-2), h1)) else (xg (0 ≤ v1) (if x2 < (h1 v1.toNat 0) then (if x3 < 0 then (some ((-2), h1)) else (if 3 < x3 then (some ((-2), h1)) else (if x3 = 0 then (xg (0 ≤ v1) (xg (h1 v1.toNat 1 = (v1 + 1)) (xg (0 ≤ x2 ∧ x2 < 30) (some ((h1 (v1 + 1).toNat x2.toNat), h1))))) else (xg (0 ≤ v1) (xg (-2147483648 ≤ x3 - 1 ∧ x3 - 1 ≤ 2147483647) (xb (f_X1_numberOf n [v1, x2, (x3 - 1)] h1) (fun v2 h2 => some (v2, h2)))))))) else (some ((-2), h1)))))))) := by rfl
set_option maxRecDepth 100000 in
theorem yq_X6_hasShoal : lw_tbl[843]? = some (.code yX6_hasShoal cX6_hasShoal 2 (some .boolean)) := rfl
theorem yw_X6_hasShoal : zMV yX6_hasShoal cX6_hasShoal 2 (some .boolean) 1 := ⟨⟨zTin 104 (by decide +kernel) rfl, zTin 843 yq_X6_hasShoal rfl, ⟨by decide, by decide⟩, by decide +kernel⟩, zTin 841 (by decide +kernel) rfl, zTin 842 (by decide +kernel) rfl⟩
theorem yt_X6_hasShoal_0 : decode cX6_hasShoal 0 = .ok (.iload_n 1, 1) := by decide +kernel
theorem yt_X6_hasShoal_1 : decode cX6_hasShoal 1 = .ok (.ifCond .lt 15, 3) := by decide +kernel
theorem yt_X6_hasShoal_16 : decode cX6_hasShoal 16 = .ok (.iconst 0, 1) := by decide +kernel
theorem yt_X6_hasShoal_17 : decode cX6_hasShoal 17 = .ok (.ireturn, 1) := by decide +kernel
theorem yt_X6_hasShoal_4 : decode cX6_hasShoal 4 = .ok (.iload_n 1, 1) := by decide +kernel
theorem yt_X6_hasShoal_5 : decode cX6_hasShoal 5 = .ok (.aload_n 0, 1) := by decide +kernel
theorem yt_X6_hasShoal_6 : decode cX6_hasShoal 6 = .ok (.getfield 49, 3) := by decide +kernel
theorem yt_X6_hasShoal_9 : decode cX6_hasShoal 9 = .ok (.if_icmp .ge 7, 3) := by decide +kernel
theorem yt_X6_hasShoal_12 : decode cX6_hasShoal 12 = .ok (.iconst 1, 1) := by decide +kernel
theorem yt_X6_hasShoal_13 : decode cX6_hasShoal 13 = .ok (.goto 4, 3) := by decide +kernel
def xp_X6_hasShoal (n : Nat) : yX := (xLd 1 0 (xLt0 (xCst 0 0 xRz) (xLd 1 0 (xLd 0 100017 (xGet 15 6 0 (xLt (xCst 0 1 xRz) (xCst 0 0 xRz)))))))
theorem s_X6_hasShoal {η : zRn} {D : va_G} {cy : Nat → ClassId} {L : List Nat} {Θ : Nat → Option Nat} {p : Program} {l : Launch} {e : Env} {R : Room} {s : State} {m : MethodId} {args : Array Value} {below : List Frame} {meth : Method} {c : Code} {Q : State → Prop} {Qr : yQt} {n : Nat} (Z : yCz η zkds D vwCl cy L Θ 2 p l e R s m args below meth c Q cX6_hasShoal (tyW cy) RX6 zTW zKP tyW (some .boolean) 0 0 Qr) : yGo η zkds D vwCl cy L Θ 2 p l e R s m args below meth c Q 0 (xw Qr 0 (xp_X6_hasShoal n)) := (yr_mono x_ld (yr_iload_n Z.1 rfl yt_X6_hasShoal_0 (yr_mono x_lt0 (yr_lt0 Z.1 yt_X6_hasShoal_1 (by first | decide | rfl) (yr_mono x_cst (yr_iconst Z.1 yt_X6_hasShoal_16 (by decide) (yr_mono x_rz (yr_rz Z rfl yt_X6_hasShoal_17)))) (yr_mono x_ld (yr_iload_n Z.1 rfl yt_X6_hasShoal_4 (yr_mono x_ld (yr_aload_n Z.1 rfl (by decide) yt_X6_hasShoal_5 (yr_mono x_get (yr_get (lo := 0) (hi := 4) Z.1 yf_RX6_49 (by decide +kernel) yt_X6_hasShoal_6 (yr_mono x_lt (yr_ge Z.1 yt_X6_hasShoal_9 (by first | decide | rfl) (yr_mono x_cst (yr_iconst Z.1 yt_X6_hasShoal_16 (by decide) (yr_mono x_rz (yr_rz Z rfl yt_X6_hasShoal_17)))) (yr_mono x_cst (yr_iconst Z.1 yt_X6_hasShoal_12 (by decide) (yr_goto Z.1 yt_X6_hasShoal_13 (by first | decide | rfl) (yr_mono x_rz (yr_rz Z rfl yt_X6_hasShoal_17)))))))))))))))))
def f_X6_hasShoal : yFn := fun n ys h => (fun n => xp_X6_hasShoal n) n (yar 0 ([100017, 0].zip ys)) [] h
theorem m_X6_hasShoal (l : Launch) : yMet zkds vwCl zTW zKP l (yX6_hasShoal, cX6_hasShoal, 2, (some .boolean)) 0 0 [100017, 0] (yF 0 f_X6_hasShoal) := y_metF zkp_ok zTW_good (yX6_hasShoal, cX6_hasShoal, 2, (some .boolean)) 0 0 [100017, 0] 0 (fun n => xp_X6_hasShoal n) (by decide +kernel) (by decide) (fun η D cy L Θ p e R s m args below meth c Q Qr n Z => s_X6_hasShoal (n := n) Z)
set_option maxRecDepth 100000 in
theorem e_X6_hasShoal {n : Nat} {x0 x1 : Int} {h : yH} : f_X6_hasShoal n [x0, x1] h = if x1 < 0 then (some (0, h)) else (if x1 < (h x0.toNat 6) then (some (1, h)) else (some (0, h))) := by rfl
set_option maxRecDepth 100000 in
theorem yq_X6_hasBoat : lw_tbl[851]? = some (.code yX6_hasBoat cX6_hasBoat 2 (some .boolean)) := rfl
theorem yw_X6_hasBoat : zMV yX6_hasBoat cX6_hasBoat 2 (some .boolean) 1 := ⟨⟨zTin 104 (by decide +kernel) rfl, zTin 851 yq_X6_hasBoat rfl, ⟨by decide, by decide⟩, by decide +kernel⟩, zTin 849 (by decide +kernel) rfl, zTin 850 (by decide +kernel) rfl⟩
theorem yt_X6_hasBoat_0 : decode cX6_hasBoat 0 = .ok (.iload_n 1, 1) := by decide +kernel
theorem yt_X6_hasBoat_1 : decode cX6_hasBoat 1 = .ok (.ifCond .lt 15, 3) := by decide +kernel
theorem yt_X6_hasBoat_16 : decode cX6_hasBoat 16 = .ok (.iconst 0, 1) := by decide +kernel
theorem yt_X6_hasBoat_17 : decode cX6_hasBoat 17 = .ok (.ireturn, 1) := by decide +kernel
theorem yt_X6_hasBoat_4 : decode cX6_hasBoat 4 = .ok (.iload_n 1, 1) := by decide +kernel
theorem yt_X6_hasBoat_5 : decode cX6_hasBoat 5 = .ok (.aload_n 0, 1) := by decide +kernel
theorem yt_X6_hasBoat_6 : decode cX6_hasBoat 6 = .ok (.getfield 52, 3) := by decide +kernel
theorem yt_X6_hasBoat_9 : decode cX6_hasBoat 9 = .ok (.if_icmp .ge 7, 3) := by decide +kernel
theorem yt_X6_hasBoat_12 : decode cX6_hasBoat 12 = .ok (.iconst 1, 1) := by decide +kernel
theorem yt_X6_hasBoat_13 : decode cX6_hasBoat 13 = .ok (.goto 4, 3) := by decide +kernel
def xp_X6_hasBoat (n : Nat) : yX := (xLd 1 0 (xLt0 (xCst 0 0 xRz) (xLd 1 0 (xLd 0 100017 (xGet 15 10 0 (xLt (xCst 0 1 xRz) (xCst 0 0 xRz)))))))
theorem s_X6_hasBoat {η : zRn} {D : va_G} {cy : Nat → ClassId} {L : List Nat} {Θ : Nat → Option Nat} {p : Program} {l : Launch} {e : Env} {R : Room} {s : State} {m : MethodId} {args : Array Value} {below : List Frame} {meth : Method} {c : Code} {Q : State → Prop} {Qr : yQt} {n : Nat} (Z : yCz η zkds D vwCl cy L Θ 2 p l e R s m args below meth c Q cX6_hasBoat (tyW cy) RX6 zTW zKP tyW (some .boolean) 0 0 Qr) : yGo η zkds D vwCl cy L Θ 2 p l e R s m args below meth c Q 0 (xw Qr 0 (xp_X6_hasBoat n)) := (yr_mono x_ld (yr_iload_n Z.1 rfl yt_X6_hasBoat_0 (yr_mono x_lt0 (yr_lt0 Z.1 yt_X6_hasBoat_1 (by first | decide | rfl) (yr_mono x_cst (yr_iconst Z.1 yt_X6_hasBoat_16 (by decide) (yr_mono x_rz (yr_rz Z rfl yt_X6_hasBoat_17)))) (yr_mono x_ld (yr_iload_n Z.1 rfl yt_X6_hasBoat_4 (yr_mono x_ld (yr_aload_n Z.1 rfl (by decide) yt_X6_hasBoat_5 (yr_mono x_get (yr_get (lo := 0) (hi := 6) Z.1 yf_RX6_52 (by decide +kernel) yt_X6_hasBoat_6 (yr_mono x_lt (yr_ge Z.1 yt_X6_hasBoat_9 (by first | decide | rfl) (yr_mono x_cst (yr_iconst Z.1 yt_X6_hasBoat_16 (by decide) (yr_mono x_rz (yr_rz Z rfl yt_X6_hasBoat_17)))) (yr_mono x_cst (yr_iconst Z.1 yt_X6_hasBoat_12 (by decide) (yr_goto Z.1 yt_X6_hasBoat_13 (by first | decide | rfl) (yr_mono x_rz (yr_rz Z rfl yt_X6_hasBoat_17)))))))))))))))))
def f_X6_hasBoat : yFn := fun n ys h => (fun n => xp_X6_hasBoat n) n (yar 0 ([100017, 0].zip ys)) [] h
theorem m_X6_hasBoat (l : Launch) : yMet zkds vwCl zTW zKP l (yX6_hasBoat, cX6_hasBoat, 2, (some .boolean)) 0 0 [100017, 0] (yF 0 f_X6_hasBoat) := y_metF zkp_ok zTW_good (yX6_hasBoat, cX6_hasBoat, 2, (some .boolean)) 0 0 [100017, 0] 0 (fun n => xp_X6_hasBoat n) (by decide +kernel) (by decide) (fun η D cy L Θ p e R s m args below meth c Q Qr n Z => s_X6_hasBoat (n := n) Z)
set_option maxRecDepth 100000 in
theorem e_X6_hasBoat {n : Nat} {x0 x1 : Int} {h : yH} : f_X6_hasBoat n [x0, x1] h = if x1 < 0 then (some (0, h)) else (if x1 < (h x0.toNat 10) then (some (1, h)) else (some (0, h))) := by rfl
set_option maxRecDepth 100000 in
theorem yq_X11_sea : lw_tbl[831]? = some (.code yX11_sea cX11_sea 4 (some .int)) := rfl
theorem yw_X11_sea : zMV yX11_sea cX11_sea 4 (some .int) 2 := ⟨⟨zTin 101 (by decide +kernel) rfl, zTin 831 yq_X11_sea rfl, ⟨by decide, by decide⟩, by decide +kernel⟩, zTin 829 (by decide +kernel) rfl, zTin 830 (by decide +kernel) rfl⟩
theorem yt_X11_sea_0 : decode cX11_sea 0 = .ok (.aload_n 0, 1) := by decide +kernel
theorem yt_X11_sea_1 : decode cX11_sea 1 = .ok (.getfield 10, 3) := by decide +kernel
theorem yt_X11_sea_4 : decode cX11_sea 4 = .ok (.iload_n 1, 1) := by decide +kernel
theorem yt_X11_sea_5 : decode cX11_sea 5 = .ok (.invokevirtual 93, 3) := by decide +kernel
theorem yl_RX11_93 : Cond.methodLink RX11 93 yX9_findSea ∈ zTW := zTin 832 (by decide +kernel) rfl
theorem yt_X11_sea_8 : decode cX11_sea 8 = .ok (.astore_n 3, 1) := by decide +kernel
theorem yt_X11_sea_9 : decode cX11_sea 9 = .ok (.aload_n 3, 1) := by decide +kernel
theorem yt_X11_sea_10 : decode cX11_sea 10 = .ok (.ifnonnull 5, 3) := by decide +kernel
theorem yt_X11_sea_15 : decode cX11_sea 15 = .ok (.iload_n 2, 1) := by decide +kernel
theorem yt_X11_sea_16 : decode cX11_sea 16 = .ok (.tableswitch 79 0 6 #[44, 49, 54, 59, 64, 69, 74], 44) := by decide +kernel
theorem yt_X11_sea_60 : decode cX11_sea 60 = .ok (.aload_n 3, 1) := by decide +kernel
theorem yt_X11_sea_61 : decode cX11_sea 61 = .ok (.getfield 97, 3) := by decide +kernel
theorem yf_RX11_97 : zFok RX11 zTW vwCl (97, 6, 0, (some .int)) := ⟨RX6, TX6, 15, rfl, zx_6, by decide, zTin 161 (by decide +kernel) rfl, fun ty h => ⟨rfl, tyX6, tyX6_ok, nmX6, by cases h; rfl⟩⟩
theorem yt_X11_sea_64 : decode cX11_sea 64 = .ok (.ireturn, 1) := by decide +kernel
theorem yt_X11_sea_65 : decode cX11_sea 65 = .ok (.aload_n 3, 1) := by decide +kernel
theorem yt_X11_sea_66 : decode cX11_sea 66 = .ok (.getfield 102, 3) := by decide +kernel
theorem yf_RX11_102 : zFok RX11 zTW vwCl (102, 6, 1, (some .int)) := ⟨RX6, TX6, 15, rfl, zx_6, by decide, zTin 164 (by decide +kernel) rfl, fun ty h => ⟨rfl, tyX6, tyX6_ok, nmX6, by cases h; rfl⟩⟩
theorem yt_X11_sea_69 : decode cX11_sea 69 = .ok (.ireturn, 1) := by decide +kernel
theorem yt_X11_sea_70 : decode cX11_sea 70 = .ok (.aload_n 3, 1) := by decide +kernel
theorem yt_X11_sea_71 : decode cX11_sea 71 = .ok (.getfield 105, 3) := by decide +kernel
theorem yf_RX11_105 : zFok RX11 zTW vwCl (105, 6, 2, (some .int)) := ⟨RX6, TX6, 15, rfl, zx_6, by decide, zTin 167 (by decide +kernel) rfl, fun ty h => ⟨rfl, tyX6, tyX6_ok, nmX6, by cases h; rfl⟩⟩
theorem yt_X11_sea_74 : decode cX11_sea 74 = .ok (.ireturn, 1) := by decide +kernel
theorem yt_X11_sea_75 : decode cX11_sea 75 = .ok (.aload_n 3, 1) := by decide +kernel
theorem yt_X11_sea_76 : decode cX11_sea 76 = .ok (.getfield 108, 3) := by decide +kernel
theorem yf_RX11_108 : zFok RX11 zTW vwCl (108, 6, 3, (some .int)) := ⟨RX6, TX6, 15, rfl, zx_6, by decide, zTin 171 (by decide +kernel) rfl, fun ty h => ⟨rfl, tyX6, tyX6_ok, nmX6, by cases h; rfl⟩⟩
theorem yt_X11_sea_79 : decode cX11_sea 79 = .ok (.ireturn, 1) := by decide +kernel
theorem yt_X11_sea_80 : decode cX11_sea 80 = .ok (.aload_n 3, 1) := by decide +kernel
theorem yt_X11_sea_81 : decode cX11_sea 81 = .ok (.getfield 111, 3) := by decide +kernel
theorem yf_RX11_111 : zFok RX11 zTW vwCl (111, 6, 4, (some .int)) := ⟨RX6, TX6, 15, rfl, zx_6, by decide, zTin 175 (by decide +kernel) rfl, fun ty h => ⟨rfl, tyX6, tyX6_ok, nmX6, by cases h; rfl⟩⟩
theorem yt_X11_sea_84 : decode cX11_sea 84 = .ok (.ireturn, 1) := by decide +kernel
theorem yt_X11_sea_85 : decode cX11_sea 85 = .ok (.aload_n 3, 1) := by decide +kernel
theorem yt_X11_sea_86 : decode cX11_sea 86 = .ok (.getfield 114, 3) := by decide +kernel
theorem yf_RX11_114 : zFok RX11 zTW vwCl (114, 6, 6, (some .int)) := ⟨RX6, TX6, 15, rfl, zx_6, by decide, zTin 184 (by decide +kernel) rfl, fun ty h => ⟨rfl, tyX6, tyX6_ok, nmX6, by cases h; rfl⟩⟩
theorem yt_X11_sea_89 : decode cX11_sea 89 = .ok (.ireturn, 1) := by decide +kernel
theorem yt_X11_sea_90 : decode cX11_sea 90 = .ok (.aload_n 3, 1) := by decide +kernel
theorem yt_X11_sea_91 : decode cX11_sea 91 = .ok (.getfield 117, 3) := by decide +kernel
theorem yf_RX11_117 : zFok RX11 zTW vwCl (117, 6, 10, (some .int)) := ⟨RX6, TX6, 15, rfl, zx_6, by decide, zTin 200 (by decide +kernel) rfl, fun ty h => ⟨rfl, tyX6, tyX6_ok, nmX6, by cases h; rfl⟩⟩
theorem yt_X11_sea_94 : decode cX11_sea 94 = .ok (.ireturn, 1) := by decide +kernel
theorem yt_X11_sea_95 : decode cX11_sea 95 = .ok (.iload_n 2, 1) := by decide +kernel
theorem yt_X11_sea_96 : decode cX11_sea 96 = .ok (.bipush 10, 2) := by decide +kernel
theorem yt_X11_sea_98 : decode cX11_sea 98 = .ok (.if_icmp .lt 9, 3) := by decide +kernel
theorem yt_X11_sea_107 : decode cX11_sea 107 = .ok (.iconst (-1), 1) := by decide +kernel
theorem yt_X11_sea_108 : decode cX11_sea 108 = .ok (.goto 12, 3) := by decide +kernel
theorem yt_X11_sea_120 : decode cX11_sea 120 = .ok (.ireturn, 1) := by decide +kernel
theorem yt_X11_sea_101 : decode cX11_sea 101 = .ok (.iload_n 2, 1) := by decide +kernel
theorem yt_X11_sea_102 : decode cX11_sea 102 = .ok (.bipush 22, 2) := by decide +kernel
theorem yt_X11_sea_104 : decode cX11_sea 104 = .ok (.if_icmp .lt 7, 3) := by decide +kernel
theorem yt_X11_sea_111 : decode cX11_sea 111 = .ok (.aload_n 3, 1) := by decide +kernel
theorem yt_X11_sea_112 : decode cX11_sea 112 = .ok (.getfield 120, 3) := by decide +kernel
theorem yf_RX11_120 : zFok RX11 zTW vwCl (120, 6, 5, none) := ⟨RX6, TX6, 15, rfl, zx_6, by decide, zTin 179 (by decide +kernel) rfl, fun _ h => by cases h⟩
theorem yt_X11_sea_115 : decode cX11_sea 115 = .ok (.iload_n 2, 1) := by decide +kernel
theorem yt_X11_sea_116 : decode cX11_sea 116 = .ok (.bipush 10, 2) := by decide +kernel
theorem yt_X11_sea_118 : decode cX11_sea 118 = .ok (.isub, 1) := by decide +kernel
theorem yt_X11_sea_119 : decode cX11_sea 119 = .ok (.iaload, 1) := by decide +kernel
theorem yt_X11_sea_13 : decode cX11_sea 13 = .ok (.iconst (-1), 1) := by decide +kernel
theorem yt_X11_sea_14 : decode cX11_sea 14 = .ok (.ireturn, 1) := by decide +kernel
def xp_X11_sea (n : Nat) : yX := (xLd 0 100065 (xGetO 63 0 28 2 (xLd 1 0 (xCalR 2 [100030, 0] 17 (f_X9_findSea n) (xSt 3 17 (xLd 3 17 (xNull (xCst 0 (-1) xRi) (xLd 2 0 (xSw [(0, (xLd 3 17 (xNm 17 (xGet 15 0 0 xRi)))), (1, (xLd 3 17 (xNm 17 (xGet 15 1 0 xRi)))), (2, (xLd 3 17 (xNm 17 (xGet 15 2 0 xRi)))), (3, (xLd 3 17 (xNm 17 (xGet 15 3 0 xRi)))), (4, (xLd 3 17 (xNm 17 (xGet 15 4 0 xRi)))), (5, (xLd 3 17 (xNm 17 (xGet 15 6 0 xRi)))), (6, (xLd 3 17 (xNm 17 (xGet 15 10 0 xRi))))] (xLd 2 0 (xCst 0 10 (xLt (xCst 0 (-1) xRi) (xLd 2 0 (xCst 0 22 (xLt (xLd 3 17 (xNm 17 (xGetO 15 5 8 1 (xLd 2 0 (xCst 0 10 (xSub (xAld 8 12 xRi))))))) (xCst 0 (-1) xRi))))))))))))))))
theorem s_X11_sea {η : zRn} {D : va_G} {cy : Nat → ClassId} {L : List Nat} {Θ : Nat → Option Nat} {p : Program} {l : Launch} {e : Env} {R : Room} {s : State} {m : MethodId} {args : Array Value} {below : List Frame} {meth : Method} {c : Code} {Q : State → Prop} {Qr : yQt} {n : Nat} (Z : yCz η zkds D vwCl cy L Θ 4 p l e R s m args below meth c Q cX11_sea (tyW cy) RX11 zTW zKP tyW (some .int) 1 21 Qr) : yGo η zkds D vwCl cy L Θ 4 p l e R s m args below meth c Q 0 (xw Qr 0 (xp_X11_sea n)) := (yr_mono x_ld (yr_aload_n Z.1 rfl (by decide) yt_X11_sea_0 (yr_mono x_geto (yr_getP (lo := 0) (hi := 2147483647) Z.1 yf_RX11_10 (by decide +kernel) yt_X11_sea_1 (yr_mono x_ld (yr_iload_n Z.1 rfl yt_X11_sea_4 (yr_mono x_calR (yr_calR rfl (y_hrunV Z (y := (yX9_findSea, cX9_findSea, 2, (some (.object "ShoalClaims$Sea")))) (m_X9_findSea l) (ycv_of yw_X9_findSea 93 yt_X11_sea_5 yl_RX11_93 rfl (by decide) (by decide) ⟨28, _, _, _, _, rfl, zkd_28, rfl, rfl⟩)) (yr_mono x_st (yr_astore_n Z.1 rfl (by decide) (by decide) yt_X11_sea_8 (yr_mono x_ld (yr_aload_n Z.1 rfl (by decide) yt_X11_sea_9 (yr_mono x_null (yr_ifnonnull Z.1 yt_X11_sea_10 (by first | decide | rfl) (yr_mono x_ld (yr_iload_n Z.1 rfl yt_X11_sea_15 (yr_mono x_sw (yr_tsw (cs := [(0, 60, _), (1, 65, _), (2, 70, _), (3, 75, _), (4, 80, _), (5, 85, _), (6, 90, _)]) (td := 95) Z.1 yt_X11_sea_16 rfl rfl (yr_mono x_ld (yr_iload_n Z.1 rfl yt_X11_sea_95 (yr_mono x_cst (yr_bipush Z.1 yt_X11_sea_96 (by decide) (yr_mono x_lt (yr_lt Z.1 yt_X11_sea_98 (by first | decide | rfl) (yr_mono x_cst (yr_iconst Z.1 yt_X11_sea_107 (by decide) (yr_goto Z.1 yt_X11_sea_108 (by first | decide | rfl) (yr_mono x_ri (yr_ri Z rfl yt_X11_sea_120))))) (yr_mono x_ld (yr_iload_n Z.1 rfl yt_X11_sea_101 (yr_mono x_cst (yr_bipush Z.1 yt_X11_sea_102 (by decide) (yr_mono x_lt (yr_lt Z.1 yt_X11_sea_104 (by first | decide | rfl) (yr_mono x_ld (yr_aload_n Z.1 rfl (by decide) yt_X11_sea_111 (yr_mono (x_nm ⟨by decide, by decide⟩) (yr_nn (yr_mono x_geto (yr_getP (lo := 0) (hi := 2147483647) Z.1 yf_RX11_120 (by decide +kernel) yt_X11_sea_112 (yr_mono x_ld (yr_iload_n Z.1 rfl yt_X11_sea_115 (yr_mono x_cst (yr_bipush Z.1 yt_X11_sea_116 (by decide) (yr_mono x_sub (yr_sub Z.1 yt_X11_sea_118 (yr_mono x_ald (yr_iald (lo := (-2147483648)) (hi := 2147483647) Z.1 (by decide +kernel) yt_X11_sea_119 (yr_mono x_ri (yr_ri Z rfl yt_X11_sea_120)))))))))))))))) (yr_mono x_cst (yr_iconst Z.1 yt_X11_sea_107 (by decide) (yr_goto Z.1 yt_X11_sea_108 (by first | decide | rfl) (yr_mono x_ri (yr_ri Z rfl yt_X11_sea_120))))))))))))))))) (List.forall_mem_cons.mpr ⟨(yr_mono x_ld (yr_aload_n Z.1 rfl (by decide) yt_X11_sea_60 (yr_mono (x_nm ⟨by decide, by decide⟩) (yr_nn (yr_mono x_get (yr_get (lo := 0) (hi := 8) Z.1 yf_RX11_97 (by decide +kernel) yt_X11_sea_61 (yr_mono x_ri (yr_ri Z rfl yt_X11_sea_64)))))))), (List.forall_mem_cons.mpr ⟨(yr_mono x_ld (yr_aload_n Z.1 rfl (by decide) yt_X11_sea_65 (yr_mono (x_nm ⟨by decide, by decide⟩) (yr_nn (yr_mono x_get (yr_get (lo := 0) (hi := 8) Z.1 yf_RX11_102 (by decide +kernel) yt_X11_sea_66 (yr_mono x_ri (yr_ri Z rfl yt_X11_sea_69)))))))), (List.forall_mem_cons.mpr ⟨(yr_mono x_ld (yr_aload_n Z.1 rfl (by decide) yt_X11_sea_70 (yr_mono (x_nm ⟨by decide, by decide⟩) (yr_nn (yr_mono x_get (yr_get (lo := 0) (hi := 3) Z.1 yf_RX11_105 (by decide +kernel) yt_X11_sea_71 (yr_mono x_ri (yr_ri Z rfl yt_X11_sea_74)))))))), (List.forall_mem_cons.mpr ⟨(yr_mono x_ld (yr_aload_n Z.1 rfl (by decide) yt_X11_sea_75 (yr_mono (x_nm ⟨by decide, by decide⟩) (yr_nn (yr_mono x_get (yr_get (lo := (-2147483648)) (hi := 2147483647) Z.1 yf_RX11_108 (by decide +kernel) yt_X11_sea_76 (yr_mono x_ri (yr_ri Z rfl yt_X11_sea_79)))))))), (List.forall_mem_cons.mpr ⟨(yr_mono x_ld (yr_aload_n Z.1 rfl (by decide) yt_X11_sea_80 (yr_mono (x_nm ⟨by decide, by decide⟩) (yr_nn (yr_mono x_get (yr_get (lo := (-2147483648)) (hi := 2147483647) Z.1 yf_RX11_111 (by decide +kernel) yt_X11_sea_81 (yr_mono x_ri (yr_ri Z rfl yt_X11_sea_84)))))))), (List.forall_mem_cons.mpr ⟨(yr_mono x_ld (yr_aload_n Z.1 rfl (by decide) yt_X11_sea_85 (yr_mono (x_nm ⟨by decide, by decide⟩) (yr_nn (yr_mono x_get (yr_get (lo := 0) (hi := 4) Z.1 yf_RX11_114 (by decide +kernel) yt_X11_sea_86 (yr_mono x_ri (yr_ri Z rfl yt_X11_sea_89)))))))), (List.forall_mem_cons.mpr ⟨(yr_mono x_ld (yr_aload_n Z.1 rfl (by decide) yt_X11_sea_90 (yr_mono (x_nm ⟨by decide, by decide⟩) (yr_nn (yr_mono x_get (yr_get (lo := 0) (hi := 6) Z.1 yf_RX11_117 (by decide +kernel) yt_X11_sea_91 (yr_mono x_ri (yr_ri Z rfl yt_X11_sea_94)))))))), (List.forall_mem_nil _)⟩)⟩)⟩)⟩)⟩)⟩)⟩))))) (yr_mono x_cst (yr_iconst Z.1 yt_X11_sea_13 (by decide) (yr_mono x_ri (yr_ri Z rfl yt_X11_sea_14))))))))))))))))))
def f_X11_sea : yFn := fun n ys h => (fun n => xp_X11_sea n) n (yar 0 ([100065, 0, 0].zip ys)) [] h
theorem m_X11_sea (l : Launch) : yMet zkds vwCl zTW zKP l (yX11_sea, cX11_sea, 4, (some .int)) 1 21 [100065, 0, 0] (yF 0 f_X11_sea) := y_metF zkp_ok zTW_good (yX11_sea, cX11_sea, 4, (some .int)) 1 21 [100065, 0, 0] 0 (fun n => xp_X11_sea n) (by decide +kernel) (by decide) (fun η D cy L Θ p e R s m args below meth c Q Qr n Z => s_X11_sea (n := n) Z)
set_option maxRecDepth 100000 in
theorem e_X11_sea {n : Nat} {x1 x2 : Int} {h : yH} : f_X11_sea n [1, x1, x2] h = xg (h 1 0 = 3) (xb (f_X9_findSea n [3, x1] h) (fun v1 h1 => if v1 < 0 then (some ((-1), h1)) else (if x2 = 0 then (xg (0 ≤ v1) (some ((h1 v1.toNat 0), h1))) else (if x2 = 1 then (xg (0 ≤ v1) (some ((h1 v1.toNat 1), h1))) else (if x2 = 2 then (xg (0 ≤ v1) (some ((h1 v1.toNat 2), h1))) else (if x2 = 3 then (xg (0 ≤ v1) (some ((h1 v1.toNat 3), h1))) else (if x2 = 4 then (xg (0 ≤ v1) (some ((h1 v1.toNat 4), h1))) else (if x2 = 5 then (xg (0 ≤ v1) (some ((h1 v1.toNat 6), h1))) else (if x2 = 6 then (xg (0 ≤ v1) (some ((h1 v1.toNat 10), h1))) else (if x2 < 10 then (some ((-1), h1)) else (if x2 < 22 then (xg (0 ≤ v1) (xg (h1 v1.toNat 5 = (v1 + 1)) (xg (-2147483648 ≤ x2 - 10 ∧ x2 - 10 ≤ 2147483647) (xg (0 ≤ (x2 - 10) ∧ (x2 - 10) < 12) (some ((h1 (v1 + 1).toNat (x2 - 10).toNat), h1)))))) else (some ((-1), h1))))))))))))) := by rfl
set_option maxRecDepth 100000 in
theorem yq_X11_shoal : lw_tbl[839]? = some (.code yX11_shoal cX11_shoal 5 (some .int)) := rfl
theorem yw_X11_shoal : zMV yX11_shoal cX11_shoal 5 (some .int) 3 := ⟨⟨zTin 101 (by decide +kernel) rfl, zTin 839 yq_X11_shoal rfl, ⟨by decide, by decide⟩, by decide +kernel⟩, zTin 837 (by decide +kernel) rfl, zTin 838 (by decide +kernel) rfl⟩
theorem yt_X11_shoal_0 : decode cX11_shoal 0 = .ok (.aload_n 0, 1) := by decide +kernel
theorem yt_X11_shoal_1 : decode cX11_shoal 1 = .ok (.getfield 10, 3) := by decide +kernel
theorem yt_X11_shoal_4 : decode cX11_shoal 4 = .ok (.iload_n 1, 1) := by decide +kernel
theorem yt_X11_shoal_5 : decode cX11_shoal 5 = .ok (.invokevirtual 93, 3) := by decide +kernel
theorem yt_X11_shoal_8 : decode cX11_shoal 8 = .ok (.astore 4, 2) := by decide +kernel
theorem yt_X11_shoal_10 : decode cX11_shoal 10 = .ok (.aload 4, 2) := by decide +kernel
theorem yt_X11_shoal_12 : decode cX11_shoal 12 = .ok (.ifnull 12, 3) := by decide +kernel
theorem yt_X11_shoal_24 : decode cX11_shoal 24 = .ok (.iconst (-1), 1) := by decide +kernel
theorem yt_X11_shoal_25 : decode cX11_shoal 25 = .ok (.ireturn, 1) := by decide +kernel
theorem yt_X11_shoal_15 : decode cX11_shoal 15 = .ok (.aload 4, 2) := by decide +kernel
theorem yt_X11_shoal_17 : decode cX11_shoal 17 = .ok (.iload_n 2, 1) := by decide +kernel
theorem yt_X11_shoal_18 : decode cX11_shoal 18 = .ok (.invokevirtual 124, 3) := by decide +kernel
theorem yl_RX11_124 : Cond.methodLink RX11 124 yX6_hasShoal ∈ zTW := zTin 840 (by decide +kernel) rfl
theorem yt_X11_shoal_21 : decode cX11_shoal 21 = .ok (.ifCond .ne 5, 3) := by decide +kernel
theorem yt_X11_shoal_26 : decode cX11_shoal 26 = .ok (.iload_n 3, 1) := by decide +kernel
theorem yt_X11_shoal_27 : decode cX11_shoal 27 = .ok (.tableswitch 49 0 2 #[25, 33, 41], 25) := by decide +kernel
theorem yt_X11_shoal_52 : decode cX11_shoal 52 = .ok (.aload 4, 2) := by decide +kernel
theorem yt_X11_shoal_54 : decode cX11_shoal 54 = .ok (.getfield 128, 3) := by decide +kernel
theorem yf_RX11_128 : zFok RX11 zTW vwCl (128, 6, 7, none) := ⟨RX6, TX6, 15, rfl, zx_6, by decide, zTin 189 (by decide +kernel) rfl, fun _ h => by cases h⟩
theorem yt_X11_shoal_57 : decode cX11_shoal 57 = .ok (.iload_n 2, 1) := by decide +kernel
theorem yt_X11_shoal_58 : decode cX11_shoal 58 = .ok (.iaload, 1) := by decide +kernel
theorem yt_X11_shoal_59 : decode cX11_shoal 59 = .ok (.ireturn, 1) := by decide +kernel
theorem yt_X11_shoal_60 : decode cX11_shoal 60 = .ok (.aload 4, 2) := by decide +kernel
theorem yt_X11_shoal_62 : decode cX11_shoal 62 = .ok (.getfield 131, 3) := by decide +kernel
theorem yf_RX11_131 : zFok RX11 zTW vwCl (131, 6, 8, none) := ⟨RX6, TX6, 15, rfl, zx_6, by decide, zTin 193 (by decide +kernel) rfl, fun _ h => by cases h⟩
theorem yt_X11_shoal_65 : decode cX11_shoal 65 = .ok (.iload_n 2, 1) := by decide +kernel
theorem yt_X11_shoal_66 : decode cX11_shoal 66 = .ok (.iaload, 1) := by decide +kernel
theorem yt_X11_shoal_67 : decode cX11_shoal 67 = .ok (.ireturn, 1) := by decide +kernel
theorem yt_X11_shoal_68 : decode cX11_shoal 68 = .ok (.aload 4, 2) := by decide +kernel
theorem yt_X11_shoal_70 : decode cX11_shoal 70 = .ok (.getfield 134, 3) := by decide +kernel
theorem yf_RX11_134 : zFok RX11 zTW vwCl (134, 6, 9, none) := ⟨RX6, TX6, 15, rfl, zx_6, by decide, zTin 197 (by decide +kernel) rfl, fun _ h => by cases h⟩
theorem yt_X11_shoal_73 : decode cX11_shoal 73 = .ok (.iload_n 2, 1) := by decide +kernel
theorem yt_X11_shoal_74 : decode cX11_shoal 74 = .ok (.iaload, 1) := by decide +kernel
theorem yt_X11_shoal_75 : decode cX11_shoal 75 = .ok (.ireturn, 1) := by decide +kernel
theorem yt_X11_shoal_76 : decode cX11_shoal 76 = .ok (.iconst (-1), 1) := by decide +kernel
theorem yt_X11_shoal_77 : decode cX11_shoal 77 = .ok (.ireturn, 1) := by decide +kernel
def xp_X11_shoal (n : Nat) : yX := (xLd 0 100065 (xGetO 63 0 28 2 (xLd 1 0 (xCalR 2 [100030, 0] 17 (f_X9_findSea n) (xSt 4 17 (xLd 4 17 (xNull (xCst 0 (-1) xRi) (xLd 4 17 (xNm 17 (xLd 2 0 (xCalR 2 [100017, 0] 0 (f_X6_hasShoal n) (xEq0 (xCst 0 (-1) xRi) (xLd 3 0 (xSw [(0, (xLd 4 17 (xNm 17 (xGetO 15 7 9 2 (xLd 2 0 (xAld 9 4 xRi)))))), (1, (xLd 4 17 (xNm 17 (xGetO 15 8 10 3 (xLd 2 0 (xAld 10 4 xRi)))))), (2, (xLd 4 17 (xNm 17 (xGetO 15 9 11 4 (xLd 2 0 (xAld 11 4 xRi))))))] (xCst 0 (-1) xRi)))))))))))))))
theorem s_X11_shoal {η : zRn} {D : va_G} {cy : Nat → ClassId} {L : List Nat} {Θ : Nat → Option Nat} {p : Program} {l : Launch} {e : Env} {R : Room} {s : State} {m : MethodId} {args : Array Value} {below : List Frame} {meth : Method} {c : Code} {Q : State → Prop} {Qr : yQt} {n : Nat} (Z : yCz η zkds D vwCl cy L Θ 5 p l e R s m args below meth c Q cX11_shoal (tyW cy) RX11 zTW zKP tyW (some .int) 1 21 Qr) : yGo η zkds D vwCl cy L Θ 5 p l e R s m args below meth c Q 0 (xw Qr 0 (xp_X11_shoal n)) := (yr_mono x_ld (yr_aload_n Z.1 rfl (by decide) yt_X11_shoal_0 (yr_mono x_geto (yr_getP (lo := 0) (hi := 2147483647) Z.1 yf_RX11_10 (by decide +kernel) yt_X11_shoal_1 (yr_mono x_ld (yr_iload_n Z.1 rfl yt_X11_shoal_4 (yr_mono x_calR (yr_calR rfl (y_hrunV Z (y := (yX9_findSea, cX9_findSea, 2, (some (.object "ShoalClaims$Sea")))) (m_X9_findSea l) (ycv_of yw_X9_findSea 93 yt_X11_shoal_5 yl_RX11_93 rfl (by decide) (by decide) ⟨28, _, _, _, _, rfl, zkd_28, rfl, rfl⟩)) (yr_mono x_st (yr_astore Z.1 (by decide) (by decide) yt_X11_shoal_8 (yr_mono x_ld (yr_aload Z.1 (by decide) yt_X11_shoal_10 (yr_mono x_null (yr_ifnull Z.1 yt_X11_shoal_12 (by first | decide | rfl) (yr_mono x_cst (yr_iconst Z.1 yt_X11_shoal_24 (by decide) (yr_mono x_ri (yr_ri Z rfl yt_X11_shoal_25)))) (yr_mono x_ld (yr_aload Z.1 (by decide) yt_X11_shoal_15 (yr_mono (x_nm ⟨by decide, by decide⟩) (yr_nn (yr_mono x_ld (yr_iload_n Z.1 rfl yt_X11_shoal_17 (yr_mono x_calR (yr_calR rfl (y_hrunV Z (y := (yX6_hasShoal, cX6_hasShoal, 2, (some .boolean))) (m_X6_hasShoal l) (ycv_of yw_X6_hasShoal 124 yt_X11_shoal_18 yl_RX11_124 rfl (by decide) (by decide) ⟨15, _, _, _, _, rfl, zkd_15, rfl, rfl⟩)) (yr_mono x_eq0 (yr_ne0 Z.1 yt_X11_shoal_21 (by first | decide | rfl) (yr_mono x_ld (yr_iload_n Z.1 rfl yt_X11_shoal_26 (yr_mono x_sw (yr_tsw (cs := [(0, 52, _), (1, 60, _), (2, 68, _)]) (td := 76) Z.1 yt_X11_shoal_27 rfl rfl (yr_mono x_cst (yr_iconst Z.1 yt_X11_shoal_76 (by decide) (yr_mono x_ri (yr_ri Z rfl yt_X11_shoal_77)))) (List.forall_mem_cons.mpr ⟨(yr_mono x_ld (yr_aload Z.1 (by decide) yt_X11_shoal_52 (yr_mono (x_nm ⟨by decide, by decide⟩) (yr_nn (yr_mono x_geto (yr_getP (lo := 0) (hi := 2147483647) Z.1 yf_RX11_128 (by decide +kernel) yt_X11_shoal_54 (yr_mono x_ld (yr_iload_n Z.1 rfl yt_X11_shoal_57 (yr_mono x_ald (yr_iald (lo := (-2147483648)) (hi := 2147483647) Z.1 (by decide +kernel) yt_X11_shoal_58 (yr_mono x_ri (yr_ri Z rfl yt_X11_shoal_59)))))))))))), (List.forall_mem_cons.mpr ⟨(yr_mono x_ld (yr_aload Z.1 (by decide) yt_X11_shoal_60 (yr_mono (x_nm ⟨by decide, by decide⟩) (yr_nn (yr_mono x_geto (yr_getP (lo := 0) (hi := 2147483647) Z.1 yf_RX11_131 (by decide +kernel) yt_X11_shoal_62 (yr_mono x_ld (yr_iload_n Z.1 rfl yt_X11_shoal_65 (yr_mono x_ald (yr_iald (lo := (-2147483648)) (hi := 2147483647) Z.1 (by decide +kernel) yt_X11_shoal_66 (yr_mono x_ri (yr_ri Z rfl yt_X11_shoal_67)))))))))))), (List.forall_mem_cons.mpr ⟨(yr_mono x_ld (yr_aload Z.1 (by decide) yt_X11_shoal_68 (yr_mono (x_nm ⟨by decide, by decide⟩) (yr_nn (yr_mono x_geto (yr_getP (lo := 0) (hi := 2147483647) Z.1 yf_RX11_134 (by decide +kernel) yt_X11_shoal_70 (yr_mono x_ld (yr_iload_n Z.1 rfl yt_X11_shoal_73 (yr_mono x_ald (yr_iald (lo := (-2147483648)) (hi := 2147483647) Z.1 (by decide +kernel) yt_X11_shoal_74 (yr_mono x_ri (yr_ri Z rfl yt_X11_shoal_75)))))))))))), (List.forall_mem_nil _)⟩)⟩)⟩))))) (yr_mono x_cst (yr_iconst Z.1 yt_X11_shoal_24 (by decide) (yr_mono x_ri (yr_ri Z rfl yt_X11_shoal_25))))))))))))))))))))))))))))
def f_X11_shoal : yFn := fun n ys h => (fun n => xp_X11_shoal n) n (yar 0 ([100065, 0, 0, 0].zip ys)) [] h
theorem m_X11_shoal (l : Launch) : yMet zkds vwCl zTW zKP l (yX11_shoal, cX11_shoal, 5, (some .int)) 1 21 [100065, 0, 0, 0] (yF 0 f_X11_shoal) := y_metF zkp_ok zTW_good (yX11_shoal, cX11_shoal, 5, (some .int)) 1 21 [100065, 0, 0, 0] 0 (fun n => xp_X11_shoal n) (by decide +kernel) (by decide) (fun η D cy L Θ p e R s m args below meth c Q Qr n Z => s_X11_shoal (n := n) Z)
set_option maxRecDepth 100000 in
theorem e_X11_shoal {n : Nat} {x1 x2 x3 : Int} {h : yH} : f_X11_shoal n [1, x1, x2, x3] h = xg (h 1 0 = 3) (xb (f_X9_findSea n [3, x1] h) (fun v1 h1 => if v1 < 0 then (some ((-1), h1)) else (xg (0 ≤ v1) (xb (f_X6_hasShoal n [v1, x2] h1) (fun v2 h2 => if v2 = 0 then (some ((-1), h2)) else (if x3 = 0 then (xg (0 ≤ v1) (xg (h2 v1.toNat 7 = (v1 + 2)) (xg (0 ≤ x2 ∧ x2 < 4) (some ((h2 (v1 + 2).toNat x2.toNat), h2))))) else (if x3 = 1 then (xg (0 ≤ v1) (xg (h2 v1.toNat 8 = (v1 + 3)) (xg (0 ≤ x2 ∧ x2 < 4) (some ((h2 (v1 + 3).toNat x2.toNat), h2))))) else (if x3 = 2 then (xg (0 ≤ v1) (xg (h2 v1.toNat 9 = (v1 + 4)) (xg (0 ≤ x2 ∧ x2 < 4) (some ((h2 (v1 + 4).toNat x2.toNat), h2))))) else (some ((-1), h2)))))))))) := by rfl
set_option maxRecDepth 100000 in
theorem yq_X11_boat : lw_tbl[847]? = some (.code yX11_boat cX11_boat 5 (some .int)) := rfl
theorem yw_X11_boat : zMV yX11_boat cX11_boat 5 (some .int) 3 := ⟨⟨zTin 101 (by decide +kernel) rfl, zTin 847 yq_X11_boat rfl, ⟨by decide, by decide⟩, by decide +kernel⟩, zTin 845 (by decide +kernel) rfl, zTin 846 (by decide +kernel) rfl⟩
theorem yt_X11_boat_0 : decode cX11_boat 0 = .ok (.aload_n 0, 1) := by decide +kernel
theorem yt_X11_boat_1 : decode cX11_boat 1 = .ok (.getfield 10, 3) := by decide +kernel
theorem yt_X11_boat_4 : decode cX11_boat 4 = .ok (.iload_n 1, 1) := by decide +kernel
theorem yt_X11_boat_5 : decode cX11_boat 5 = .ok (.invokevirtual 93, 3) := by decide +kernel
theorem yt_X11_boat_8 : decode cX11_boat 8 = .ok (.astore 4, 2) := by decide +kernel
theorem yt_X11_boat_10 : decode cX11_boat 10 = .ok (.aload 4, 2) := by decide +kernel
theorem yt_X11_boat_12 : decode cX11_boat 12 = .ok (.ifnull 12, 3) := by decide +kernel
theorem yt_X11_boat_24 : decode cX11_boat 24 = .ok (.iconst (-1), 1) := by decide +kernel
theorem yt_X11_boat_25 : decode cX11_boat 25 = .ok (.ireturn, 1) := by decide +kernel
theorem yt_X11_boat_15 : decode cX11_boat 15 = .ok (.aload 4, 2) := by decide +kernel
theorem yt_X11_boat_17 : decode cX11_boat 17 = .ok (.iload_n 2, 1) := by decide +kernel
theorem yt_X11_boat_18 : decode cX11_boat 18 = .ok (.invokevirtual 137, 3) := by decide +kernel
theorem yl_RX11_137 : Cond.methodLink RX11 137 yX6_hasBoat ∈ zTW := zTin 848 (by decide +kernel) rfl
theorem yt_X11_boat_21 : decode cX11_boat 21 = .ok (.ifCond .ne 5, 3) := by decide +kernel
theorem yt_X11_boat_26 : decode cX11_boat 26 = .ok (.iload_n 3, 1) := by decide +kernel
theorem yt_X11_boat_27 : decode cX11_boat 27 = .ok (.tableswitch 63 0 3 #[29, 37, 45, 53], 29) := by decide +kernel
theorem yt_X11_boat_56 : decode cX11_boat 56 = .ok (.aload 4, 2) := by decide +kernel
theorem yt_X11_boat_58 : decode cX11_boat 58 = .ok (.getfield 140, 3) := by decide +kernel
theorem yf_RX11_140 : zFok RX11 zTW vwCl (140, 6, 11, none) := ⟨RX6, TX6, 15, rfl, zx_6, by decide, zTin 207 (by decide +kernel) rfl, fun _ h => by cases h⟩
theorem yt_X11_boat_61 : decode cX11_boat 61 = .ok (.iload_n 2, 1) := by decide +kernel
theorem yt_X11_boat_62 : decode cX11_boat 62 = .ok (.iaload, 1) := by decide +kernel
theorem yt_X11_boat_63 : decode cX11_boat 63 = .ok (.ireturn, 1) := by decide +kernel
theorem yt_X11_boat_64 : decode cX11_boat 64 = .ok (.aload 4, 2) := by decide +kernel
theorem yt_X11_boat_66 : decode cX11_boat 66 = .ok (.getfield 143, 3) := by decide +kernel
theorem yf_RX11_143 : zFok RX11 zTW vwCl (143, 6, 12, none) := ⟨RX6, TX6, 15, rfl, zx_6, by decide, zTin 211 (by decide +kernel) rfl, fun _ h => by cases h⟩
theorem yt_X11_boat_69 : decode cX11_boat 69 = .ok (.iload_n 2, 1) := by decide +kernel
theorem yt_X11_boat_70 : decode cX11_boat 70 = .ok (.iaload, 1) := by decide +kernel
theorem yt_X11_boat_71 : decode cX11_boat 71 = .ok (.ireturn, 1) := by decide +kernel
theorem yt_X11_boat_72 : decode cX11_boat 72 = .ok (.aload 4, 2) := by decide +kernel
theorem yt_X11_boat_74 : decode cX11_boat 74 = .ok (.getfield 146, 3) := by decide +kernel
theorem yf_RX11_146 : zFok RX11 zTW vwCl (146, 6, 13, none) := ⟨RX6, TX6, 15, rfl, zx_6, by decide, zTin 213 (by decide +kernel) rfl, fun _ h => by cases h⟩
theorem yt_X11_boat_77 : decode cX11_boat 77 = .ok (.iload_n 2, 1) := by decide +kernel
theorem yt_X11_boat_78 : decode cX11_boat 78 = .ok (.iaload, 1) := by decide +kernel
theorem yt_X11_boat_79 : decode cX11_boat 79 = .ok (.ireturn, 1) := by decide +kernel
theorem yt_X11_boat_80 : decode cX11_boat 80 = .ok (.aload 4, 2) := by decide +kernel
theorem yt_X11_boat_82 : decode cX11_boat 82 = .ok (.getfield 149, 3) := by decide +kernel
theorem yf_RX11_149 : zFok RX11 zTW vwCl (149, 6, 14, (some .int)) := ⟨RX6, TX6, 15, rfl, zx_6, by decide, zTin 217 (by decide +kernel) rfl, fun ty h => ⟨rfl, tyX6, tyX6_ok, nmX6, by cases h; rfl⟩⟩
theorem yt_X11_boat_85 : decode cX11_boat 85 = .ok (.iload_n 2, 1) := by decide +kernel
theorem yt_X11_boat_86 : decode cX11_boat 86 = .ok (.ishr, 1) := by decide +kernel
theorem yt_X11_boat_87 : decode cX11_boat 87 = .ok (.iconst 1, 1) := by decide +kernel
theorem yt_X11_boat_88 : decode cX11_boat 88 = .ok (.iand, 1) := by decide +kernel
theorem yt_X11_boat_89 : decode cX11_boat 89 = .ok (.ireturn, 1) := by decide +kernel
theorem yt_X11_boat_90 : decode cX11_boat 90 = .ok (.iconst (-1), 1) := by decide +kernel
theorem yt_X11_boat_91 : decode cX11_boat 91 = .ok (.ireturn, 1) := by decide +kernel
def xp_X11_boat (n : Nat) : yX := (xLd 0 100065 (xGetO 63 0 28 2 (xLd 1 0 (xCalR 2 [100030, 0] 17 (f_X9_findSea n) (xSt 4 17 (xLd 4 17 (xNull (xCst 0 (-1) xRi) (xLd 4 17 (xNm 17 (xLd 2 0 (xCalR 2 [100017, 0] 0 (f_X6_hasBoat n) (xEq0 (xCst 0 (-1) xRi) (xLd 3 0 (xSw [(0, (xLd 4 17 (xNm 17 (xGetO 15 11 12 5 (xLd 2 0 (xAld 12 6 xRi)))))), (1, (xLd 4 17 (xNm 17 (xGetO 15 12 13 6 (xLd 2 0 (xAld 13 6 xRi)))))), (2, (xLd 4 17 (xNm 17 (xGetO 15 13 14 7 (xLd 2 0 (xAld 14 6 xRi)))))), (3, (xLd 4 17 (xNm 17 (xGet 15 14 0 (xLd 2 0 (xAri 6 (xCst 0 1 (xAri 7 xRi))))))))] (xCst 0 (-1) xRi)))))))))))))))
theorem s_X11_boat {η : zRn} {D : va_G} {cy : Nat → ClassId} {L : List Nat} {Θ : Nat → Option Nat} {p : Program} {l : Launch} {e : Env} {R : Room} {s : State} {m : MethodId} {args : Array Value} {below : List Frame} {meth : Method} {c : Code} {Q : State → Prop} {Qr : yQt} {n : Nat} (Z : yCz η zkds D vwCl cy L Θ 5 p l e R s m args below meth c Q cX11_boat (tyW cy) RX11 zTW zKP tyW (some .int) 1 21 Qr) : yGo η zkds D vwCl cy L Θ 5 p l e R s m args below meth c Q 0 (xw Qr 0 (xp_X11_boat n)) := (yr_mono x_ld (yr_aload_n Z.1 rfl (by decide) yt_X11_boat_0 (yr_mono x_geto (yr_getP (lo := 0) (hi := 2147483647) Z.1 yf_RX11_10 (by decide +kernel) yt_X11_boat_1 (yr_mono x_ld (yr_iload_n Z.1 rfl yt_X11_boat_4 (yr_mono x_calR (yr_calR rfl (y_hrunV Z (y := (yX9_findSea, cX9_findSea, 2, (some (.object "ShoalClaims$Sea")))) (m_X9_findSea l) (ycv_of yw_X9_findSea 93 yt_X11_boat_5 yl_RX11_93 rfl (by decide) (by decide) ⟨28, _, _, _, _, rfl, zkd_28, rfl, rfl⟩)) (yr_mono x_st (yr_astore Z.1 (by decide) (by decide) yt_X11_boat_8 (yr_mono x_ld (yr_aload Z.1 (by decide) yt_X11_boat_10 (yr_mono x_null (yr_ifnull Z.1 yt_X11_boat_12 (by first | decide | rfl) (yr_mono x_cst (yr_iconst Z.1 yt_X11_boat_24 (by decide) (yr_mono x_ri (yr_ri Z rfl yt_X11_boat_25)))) (yr_mono x_ld (yr_aload Z.1 (by decide) yt_X11_boat_15 (yr_mono (x_nm ⟨by decide, by decide⟩) (yr_nn (yr_mono x_ld (yr_iload_n Z.1 rfl yt_X11_boat_17 (yr_mono x_calR (yr_calR rfl (y_hrunV Z (y := (yX6_hasBoat, cX6_hasBoat, 2, (some .boolean))) (m_X6_hasBoat l) (ycv_of yw_X6_hasBoat 137 yt_X11_boat_18 yl_RX11_137 rfl (by decide) (by decide) ⟨15, _, _, _, _, rfl, zkd_15, rfl, rfl⟩)) (yr_mono x_eq0 (yr_ne0 Z.1 yt_X11_boat_21 (by first | decide | rfl) (yr_mono x_ld (yr_iload_n Z.1 rfl yt_X11_boat_26 (yr_mono x_sw (yr_tsw (cs := [(0, 56, _), (1, 64, _), (2, 72, _), (3, 80, _)]) (td := 90) Z.1 yt_X11_boat_27 rfl rfl (yr_mono x_cst (yr_iconst Z.1 yt_X11_boat_90 (by decide) (yr_mono x_ri (yr_ri Z rfl yt_X11_boat_91)))) (List.forall_mem_cons.mpr ⟨(yr_mono x_ld (yr_aload Z.1 (by decide) yt_X11_boat_56 (yr_mono (x_nm ⟨by decide, by decide⟩) (yr_nn (yr_mono x_geto (yr_getP (lo := 0) (hi := 2147483647) Z.1 yf_RX11_140 (by decide +kernel) yt_X11_boat_58 (yr_mono x_ld (yr_iload_n Z.1 rfl yt_X11_boat_61 (yr_mono x_ald (yr_iald (lo := (-2147483648)) (hi := 2147483647) Z.1 (by decide +kernel) yt_X11_boat_62 (yr_mono x_ri (yr_ri Z rfl yt_X11_boat_63)))))))))))), (List.forall_mem_cons.mpr ⟨(yr_mono x_ld (yr_aload Z.1 (by decide) yt_X11_boat_64 (yr_mono (x_nm ⟨by decide, by decide⟩) (yr_nn (yr_mono x_geto (yr_getP (lo := 0) (hi := 2147483647) Z.1 yf_RX11_143 (by decide +kernel) yt_X11_boat_66 (yr_mono x_ld (yr_iload_n Z.1 rfl yt_X11_boat_69 (yr_mono x_ald (yr_iald (lo := (-2147483648)) (hi := 2147483647) Z.1 (by decide +kernel) yt_X11_boat_70 (yr_mono x_ri (yr_ri Z rfl yt_X11_boat_71)))))))))))), (List.forall_mem_cons.mpr ⟨(yr_mono x_ld (yr_aload Z.1 (by decide) yt_X11_boat_72 (yr_mono (x_nm ⟨by decide, by decide⟩) (yr_nn (yr_mono x_geto (yr_getP (lo := 0) (hi := 2147483647) Z.1 yf_RX11_146 (by decide +kernel) yt_X11_boat_74 (yr_mono x_ld (yr_iload_n Z.1 rfl yt_X11_boat_77 (yr_mono x_ald (yr_iald (lo := 0) (hi := 2) Z.1 (by decide +kernel) yt_X11_boat_78 (yr_mono x_ri (yr_ri Z rfl yt_X11_boat_79)))))))))))), (List.forall_mem_cons.mpr ⟨(yr_mono x_ld (yr_aload Z.1 (by decide) yt_X11_boat_80 (yr_mono (x_nm ⟨by decide, by decide⟩) (yr_nn (yr_mono x_get (yr_get (lo := (-2147483648)) (hi := 2147483647) Z.1 yf_RX11_149 (by decide +kernel) yt_X11_boat_82 (yr_mono x_ld (yr_iload_n Z.1 rfl yt_X11_boat_85 (yr_mono x_ari (yr_shr Z.1 yt_X11_boat_86 (yr_mono x_cst (yr_iconst Z.1 yt_X11_boat_87 (by decide) (yr_mono x_ari (yr_and Z.1 yt_X11_boat_88 (yr_mono x_ri (yr_ri Z rfl yt_X11_boat_89)))))))))))))))), (List.forall_mem_nil _)⟩)⟩)⟩)⟩))))) (yr_mono x_cst (yr_iconst Z.1 yt_X11_boat_24 (by decide) (yr_mono x_ri (yr_ri Z rfl yt_X11_boat_25))))))))))))))))))))))))))))
def f_X11_boat : yFn := fun n ys h => (fun n => xp_X11_boat n) n (yar 0 ([100065, 0, 0, 0].zip ys)) [] h
theorem m_X11_boat (l : Launch) : yMet zkds vwCl zTW zKP l (yX11_boat, cX11_boat, 5, (some .int)) 1 21 [100065, 0, 0, 0] (yF 0 f_X11_boat) := y_metF zkp_ok zTW_good (yX11_boat, cX11_boat, 5, (some .int)) 1 21 [100065, 0, 0, 0] 0 (fun n => xp_X11_boat n) (by decide +kernel) (by decide) (fun η D cy L Θ p e R s m args below meth c Q Qr n Z => s_X11_boat (n := n) Z)
set_option maxRecDepth 100000 in
theorem e_X11_boat {n : Nat} {x1 x2 x3 : Int} {h : yH} : f_X11_boat n [1, x1, x2, x3] h = xg (h 1 0 = 3) (xb (f_X9_findSea n [3, x1] h) (fun v1 h1 => if v1 < 0 then (some ((-1), h1)) else (xg (0 ≤ v1) (xb (f_X6_hasBoat n [v1, x2] h1) (fun v2 h2 => if v2 = 0 then (some ((-1), h2)) else (if x3 = 0 then (xg (0 ≤ v1) (xg (h2 v1.toNat 11 = (v1 + 5)) (xg (0 ≤ x2 ∧ x2 < 6) (some ((h2 (v1 + 5).toNat x2.toNat), h2))))) else (if x3 = 1 then (xg (0 ≤ v1) (xg (h2 v1.toNat 12 = (v1 + 6)) (xg (0 ≤ x2 ∧ x2 < 6) (some ((h2 (v1 + 6).toNat x2.toNat), h2))))) else (if x3 = 2 then (xg (0 ≤ v1) (xg (h2 v1.toNat 13 = (v1 + 7)) (xg (0 ≤ x2 ∧ x2 < 6) (some ((h2 (v1 + 7).toNat x2.toNat), h2))))) else (if x3 = 3 then (xg (0 ≤ v1) (some ((yari 7 (yari 6 (h2 v1.toNat 14) x2) 1), h2))) else (some ((-1), h2))))))))))) := by rfl
end
