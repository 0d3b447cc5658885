section
def zc_X6_rowsBetween : List (Nat × Jvm.ClassFile.Instr × Nat) := [(0, .aload_n 0, 1), (1, .iload_n 2, 1), (2, .invokevirtual 72, 3), (5, .aload_n 0, 1), (6, .iload_n 1, 1), (7, .invokevirtual 72, 3), (10, .isub, 1), (11, .invokestatic 76, 3), (14, .aload_n 0, 1), (15, .iload_n 2, 1), (16, .invokevirtual 81, 3), (19, .aload_n 0, 1), (20, .iload_n 1, 1), (21, .invokevirtual 81, 3), (24, .isub, 1), (25, .invokestatic 76, 3), (28, .iadd, 1), (29, .ireturn, 1)]
theorem zd_X6_rowsBetween : ∀ q ∈ zc_X6_rowsBetween, decode cX6_rowsBetween q.1 = .ok (q.2.1, q.2.2) := by decide +kernel
set_option maxRecDepth 100000 in
theorem zq_X6_rowsBetween : lw_tbl[1102]? = some (.code yX6_rowsBetween cX6_rowsBetween 3 (some .int)) := rfl
theorem zw_X6_rowsBetween : zMV yX6_rowsBetween cX6_rowsBetween 3 (some .int) 2 := ⟨⟨zTin 104 (by decide +kernel) rfl, zTin 1102 zq_X6_rowsBetween rfl, ⟨by decide, by decide⟩, by decide +kernel⟩, zTin 1100 (by decide +kernel) rfl, zTin 1101 (by decide +kernel) rfl⟩
def zk_X6_rowsBetween_0 : zCT := ((yX6_rowsBetween, cX6_rowsBetween, 3, (some .int)), (1, 21), ([(17, 1, 0), (0, 2, 0), (0, 3, 0)], ([(0, 0), (0, 2147483647), ((-2147483648), 2147483647), (0, 63)], [(0, (17, 1, 0)), (1, (0, 2, 0)), (2, (0, 3, 0))], [], [], [])), [([(0, 0), (0, 2147483647), ((-2147483648), 2147483647), (0, 63), ((-2147483648), 2147483647)], [], [(0, 4, 0)], [], []), ([(0, 0), (0, 2147483647), ((-2147483648), 2147483647), (0, 63), (0, 0)], [], [(0, 4, 0)], [], [])], [])
theorem zr_X6_rowsBetween_0 : zRC zkds vwCl zk_X6_rowsBetween_0 2 := ⟨by decide +kernel, (17, 1, 0), [(0, 2, 0), (0, 3, 0)], _, TX6, 15, rfl, by decide, by decide +kernel, zkd_15, rfl, rfl⟩
theorem zt_X6_rowsBetween_2 : decode cX6_rowsBetween 2 = .ok (.invokevirtual 72, 3) := by decide +kernel
theorem ze_X6_rowsBetween_0_2 (l : Launch) : ∀ C' ∈ [zk_X6_rowOf_0], zMet zkds vwCl zTW zKP l C' ∧ (zCV zkds vwCl zTW RX6 cX6_rowsBetween 1 21 2 C' ∨ zCS zTW RX6 cX6_rowsBetween 1 21 2 C') := (List.forall_mem_cons.mpr ⟨⟨zp_X6_rowOf_0 l, Or.inl (zcv_2 zw_X6_rowOf zr_X6_rowOf_0 72 zt_X6_rowsBetween_2 zl_RX6_72 (by decide +kernel) (by decide +kernel))⟩, (List.forall_mem_nil _)⟩)
theorem zt_X6_rowsBetween_7 : decode cX6_rowsBetween 7 = .ok (.invokevirtual 72, 3) := by decide +kernel
theorem ze_X6_rowsBetween_0_7 (l : Launch) : ∀ C' ∈ [zk_X6_rowOf_0], zMet zkds vwCl zTW zKP l C' ∧ (zCV zkds vwCl zTW RX6 cX6_rowsBetween 1 21 7 C' ∨ zCS zTW RX6 cX6_rowsBetween 1 21 7 C') := (List.forall_mem_cons.mpr ⟨⟨zp_X6_rowOf_0 l, Or.inl (zcv_2 zw_X6_rowOf zr_X6_rowOf_0 72 zt_X6_rowsBetween_7 zl_RX6_72 (by decide +kernel) (by decide +kernel))⟩, (List.forall_mem_nil _)⟩)
theorem zt_X6_rowsBetween_16 : decode cX6_rowsBetween 16 = .ok (.invokevirtual 81, 3) := by decide +kernel
theorem ze_X6_rowsBetween_0_16 (l : Launch) : ∀ C' ∈ [zk_X6_columnOf_0], zMet zkds vwCl zTW zKP l C' ∧ (zCV zkds vwCl zTW RX6 cX6_rowsBetween 1 21 16 C' ∨ zCS zTW RX6 cX6_rowsBetween 1 21 16 C') := (List.forall_mem_cons.mpr ⟨⟨zp_X6_columnOf_0 l, Or.inl (zcv_2 zw_X6_columnOf zr_X6_columnOf_0 81 zt_X6_rowsBetween_16 zl_RX6_81 (by decide +kernel) (by decide +kernel))⟩, (List.forall_mem_nil _)⟩)
theorem zt_X6_rowsBetween_21 : decode cX6_rowsBetween 21 = .ok (.invokevirtual 81, 3) := by decide +kernel
theorem ze_X6_rowsBetween_0_21 (l : Launch) : ∀ C' ∈ [zk_X6_columnOf_0], zMet zkds vwCl zTW zKP l C' ∧ (zCV zkds vwCl zTW RX6 cX6_rowsBetween 1 21 21 C' ∨ zCS zTW RX6 cX6_rowsBetween 1 21 21 C') := (List.forall_mem_cons.mpr ⟨⟨zp_X6_columnOf_0 l, Or.inl (zcv_2 zw_X6_columnOf zr_X6_columnOf_0 81 zt_X6_rowsBetween_21 zl_RX6_81 (by decide +kernel) (by decide +kernel))⟩, (List.forall_mem_nil _)⟩)
theorem zt_X6_rowsBetween_11 : decode cX6_rowsBetween 11 = .ok (.invokestatic 76, 3) := by decide +kernel
theorem zt_X6_rowsBetween_25 : decode cX6_rowsBetween 25 = .ok (.invokestatic 76, 3) := by decide +kernel
def zm_X6_rowsBetween_0 : zMD := (zc_X6_rowsBetween, [], ([], []), [(2, [zk_X6_rowOf_0]), (7, [zk_X6_rowOf_0]), (16, [zk_X6_columnOf_0]), (21, [zk_X6_columnOf_0])], [(11, 3, zo_abs), (25, 3, zo_abs)], [], [])
set_option maxRecDepth 100000 in
theorem zv_X6_rowsBetween_0 : zmeth zkds zk_X6_rowsBetween_0 zm_X6_rowsBetween_0 200000 1 = true := by decide +kernel
theorem zp_X6_rowsBetween_0 (l : Launch) : zMet zkds vwCl zTW zKP l zk_X6_rowsBetween_0 := z_met zkp_ok zTW_good zk_X6_rowsBetween_0 zm_X6_rowsBetween_0 200000 1 (by decide +kernel) (by decide +kernel) (by decide +kernel) zv_X6_rowsBetween_0 zd_X6_rowsBetween (List.forall_mem_nil _) ⟨(List.forall_mem_nil _), (List.forall_mem_nil _)⟩ (List.forall_mem_cons.mpr ⟨ze_X6_rowsBetween_0_2 l, (List.forall_mem_cons.mpr ⟨ze_X6_rowsBetween_0_7 l, (List.forall_mem_cons.mpr ⟨ze_X6_rowsBetween_0_16 l, (List.forall_mem_cons.mpr ⟨ze_X6_rowsBetween_0_21 l, (List.forall_mem_nil _)⟩)⟩)⟩)⟩) (List.forall_mem_cons.mpr ⟨z_spabs zt_X6_rowsBetween_11 zl_RX6_76 zms_abs zmi zmc_abs (by decide +kernel) (by decide +kernel), (List.forall_mem_cons.mpr ⟨z_spabs zt_X6_rowsBetween_25 zl_RX6_76 zms_abs zmi zmc_abs (by decide +kernel) (by decide +kernel), (List.forall_mem_nil _)⟩)⟩)
def zc_X0_isWithin : List (Nat × Jvm.ClassFile.Instr × Nat) := [(0, .iconst 0, 1), (1, .istore 4, 2), (3, .iload 4, 2), (5, .aload_n 1, 1), (6, .invokevirtual 33, 3), (9, .if_icmp .ge 36, 3), (12, .aload_n 0, 1), (13, .getfield 101, 3), (16, .iload 4, 2), (18, .lshr, 1), (19, .lconst 1, 1), (20, .land, 1), (21, .lconst 1, 1), (22, .lcmp, 1), (23, .ifCond .ne 16, 3), (26, .aload_n 1, 1), (27, .iload_n 2, 1), (28, .iload 4, 2), (30, .invokevirtual 105, 3), (33, .iload_n 3, 1), (34, .if_icmp .gt 5, 3), (37, .iconst 1, 1), (38, .ireturn, 1), (39, .iinc 4 1, 3), (42, .goto (-39), 3), (45, .iconst 0, 1), (46, .ireturn, 1)]
theorem zd_X0_isWithin : ∀ q ∈ zc_X0_isWithin, decode cX0_isWithin q.1 = .ok (q.2.1, q.2.2) := by decide +kernel
set_option maxRecDepth 100000 in
theorem zq_X0_isWithin : lw_tbl[1098]? = some (.code yX0_isWithin cX0_isWithin 5 (some .boolean)) := rfl
theorem zw_X0_isWithin : zMV yX0_isWithin cX0_isWithin 5 (some .boolean) 3 := ⟨⟨zTin 111 (by decide +kernel) rfl, zTin 1098 zq_X0_isWithin rfl, ⟨by decide, by decide⟩, by decide +kernel⟩, zTin 1097 (by decide +kernel) rfl, zTin 23 (by decide +kernel) rfl⟩
def zk_X0_isWithin_0 : zCT := ((yX0_isWithin, cX0_isWithin, 5, (some .boolean)), (2, 43), ([(53, 1, 0), (17, 2, 0), (0, 3, 0), (0, 4, 0)], ([(0, 0), (0, 2147483647), (0, 2147483647), ((-2147483648), 2147483647), ((-128), 30)], [(0, (53, 1, 0)), (1, (17, 2, 0)), (2, (0, 3, 0)), (3, (0, 4, 0))], [], [], [])), [([(0, 0), (0, 2147483647), (0, 2147483647), ((-2147483648), 2147483647), ((-128), 30)], [], [(0, 0, 1)], [], []), ([(0, 0), (0, 2147483647), (0, 2147483647), ((-2147483648), 2147483647), ((-128), 30)], [], [(0, 0, 0)], [], [])], [])
theorem zr_X0_isWithin_0 : zRC zkds vwCl zk_X0_isWithin_0 3 := ⟨by decide +kernel, (53, 1, 0), [(17, 2, 0), (0, 3, 0), (0, 4, 0)], _, TX0, 7, rfl, by decide, by decide +kernel, zkd_51, rfl, rfl⟩
theorem zt_X0_isWithin_6 : decode cX0_isWithin 6 = .ok (.invokevirtual 33, 3) := by decide +kernel
theorem ze_X0_isWithin_0_6 (l : Launch) : ∀ C' ∈ [zk_X6_cells_0], zMet zkds vwCl zTW zKP l C' ∧ (zCV zkds vwCl zTW RX0 cX0_isWithin 2 43 6 C' ∨ zCS zTW RX0 cX0_isWithin 2 43 6 C') := (List.forall_mem_cons.mpr ⟨⟨zp_X6_cells_0 l, Or.inl (zcv_2 zw_X6_cells zr_X6_cells_0 33 zt_X0_isWithin_6 zl_RX0_33 (by decide +kernel) (by decide +kernel))⟩, (List.forall_mem_nil _)⟩)
theorem zl_RX0_105 : Cond.methodLink RX0 105 yX6_rowsBetween ∈ zTW := zTin 1099 (by decide +kernel) rfl
theorem zt_X0_isWithin_30 : decode cX0_isWithin 30 = .ok (.invokevirtual 105, 3) := by decide +kernel
theorem ze_X0_isWithin_0_30 (l : Launch) : ∀ C' ∈ [zk_X6_rowsBetween_0], zMet zkds vwCl zTW zKP l C' ∧ (zCV zkds vwCl zTW RX0 cX0_isWithin 2 43 30 C' ∨ zCS zTW RX0 cX0_isWithin 2 43 30 C') := (List.forall_mem_cons.mpr ⟨⟨zp_X6_rowsBetween_0 l, Or.inl (zcv_2 zw_X6_rowsBetween zr_X6_rowsBetween_0 105 zt_X0_isWithin_30 zl_RX0_105 (by decide +kernel) (by decide +kernel))⟩, (List.forall_mem_nil _)⟩)
def zm_X0_isWithin_0 : zMD := (zc_X0_isWithin, [(101, 0, 6, some .long)], ([], []), [(6, [zk_X6_cells_0]), (30, [zk_X6_rowsBetween_0])], [], [(3, ([(0, 0), (0, 2147483647), (0, 2147483647), ((-2147483648), 2147483647), ((-128), 30), (0, 64)], [(0, (53, 1, 0)), (1, (17, 2, 0)), (2, (0, 3, 0)), (3, (0, 4, 0)), (4, (0, 5, 0))], [], [], []), (10991817742876736, [(5, (-1))]))], [])
set_option maxRecDepth 100000 in
theorem zv_X0_isWithin_0 : zmeth zkds zk_X0_isWithin_0 zm_X0_isWithin_0 200000 10991817742876801 = true := by decide +kernel
theorem zp_X0_isWithin_0 (l : Launch) : zMet zkds vwCl zTW zKP l zk_X0_isWithin_0 := z_met zkp_ok zTW_good zk_X0_isWithin_0 zm_X0_isWithin_0 200000 10991817742876801 (by decide +kernel) (by decide +kernel) (by decide +kernel) zv_X0_isWithin_0 zd_X0_isWithin (List.forall_mem_cons.mpr ⟨zf_RX0_101, (List.forall_mem_nil _)⟩) ⟨(List.forall_mem_nil _), (List.forall_mem_nil _)⟩ (List.forall_mem_cons.mpr ⟨ze_X0_isWithin_0_6 l, (List.forall_mem_cons.mpr ⟨ze_X0_isWithin_0_30 l, (List.forall_mem_nil _)⟩)⟩) (List.forall_mem_nil _)
def zc_X0_fewestHours : List (Nat × Jvm.ClassFile.Instr × Nat) := [(0, .aload_n 0, 1), (1, .aload_n 1, 1), (2, .iload_n 2, 1), (3, .iconst (-1), 1), (4, .iconst 0, 1), (5, .invokevirtual 58, 3), (8, .aload_n 1, 1), (9, .getfield 84, 3), (12, .iload_n 3, 1), (13, .iaload, 1), (14, .istore 4, 2), (16, .iconst 0, 1), (17, .istore 5, 2), (19, .iload 5, 2), (21, .bipush 30, 2), (23, .if_icmp .gt 50, 3), (26, .aload_n 0, 1), (27, .aload_n 1, 1), (28, .iload_n 2, 1), (29, .iload 4, 2), (31, .invokevirtual 87, 3), (34, .aload_n 0, 1), (35, .aload_n 1, 1), (36, .aload_n 1, 1), (37, .getfield 41, 3), (40, .iload_n 2, 1), (41, .iaload, 1), (42, .iload 5, 2), (44, .invokevirtual 91, 3), (47, .ifCond .eq 6, 3), (50, .iload 5, 2), (52, .ireturn, 1), (53, .aload_n 1, 1), (54, .iload 4, 2), (56, .aload_n 1, 1), (57, .getfield 95, 3), (60, .iload_n 3, 1), (61, .iaload, 1), (62, .invokevirtual 98, 3), (65, .istore 4, 2), (67, .iinc 5 1, 3), (70, .goto (-51), 3), (73, .iconst (-1), 1), (74, .ireturn, 1)]
theorem zd_X0_fewestHours : ∀ q ∈ zc_X0_fewestHours, decode cX0_fewestHours q.1 = .ok (q.2.1, q.2.2) := by decide +kernel
set_option maxRecDepth 100000 in
theorem zq_X0_fewestHours : lw_tbl[1076]? = some (.code yX0_fewestHours cX0_fewestHours 6 (some .int)) := rfl
theorem zw_X0_fewestHours : zMV yX0_fewestHours cX0_fewestHours 6 (some .int) 3 := ⟨⟨zTin 111 (by decide +kernel) rfl, zTin 1076 zq_X0_fewestHours rfl, ⟨by decide, by decide⟩, by decide +kernel⟩, zTin 1074 (by decide +kernel) rfl, zTin 1075 (by decide +kernel) rfl⟩
theorem zf_RX0_84 : zFok RX0 zTW vwCl (84, 6, 7, none) := ⟨RX6, TX6, 15, rfl, zx_6, by decide, zTin 188 (by decide +kernel) rfl, fun _ h => by cases h⟩
theorem zf_RX0_95 : zFok RX0 zTW vwCl (95, 6, 9, none) := ⟨RX6, TX6, 15, rfl, zx_6, by decide, zTin 196 (by decide +kernel) rfl, fun _ h => by cases h⟩
def zk_X0_fewestHours_0 : zCT := ((yX0_fewestHours, cX0_fewestHours, 6, (some .int)), (4, 102), ([(53, 1, 0), (17, 2, 0), (0, 3, 0), (0, 4, 0)], ([(0, 0), (0, 2147483647), (0, 2147483647), (0, 5), (0, 3)], [(0, (53, 1, 0)), (1, (17, 2, 0)), (2, (0, 3, 0)), (3, (0, 4, 0))], [], [], [])), [([(0, 0), (0, 2147483647), (0, 2147483647), (0, 5), (0, 3), (0, 30)], [], [(0, 5, 0)], [], []), ([(0, 0), (0, 2147483647), (0, 2147483647), (0, 5), (0, 3)], [], [(0, 0, (-1))], [], [])], [(48, 0, 127), (49, 0, 127), (51, 6, 6)])
theorem zr_X0_fewestHours_0 : zRC zkds vwCl zk_X0_fewestHours_0 3 := ⟨by decide +kernel, (53, 1, 0), [(17, 2, 0), (0, 3, 0), (0, 4, 0)], _, TX0, 7, rfl, by decide, by decide +kernel, zkd_51, rfl, rfl⟩
theorem zt_X0_fewestHours_5 : decode cX0_fewestHours 5 = .ok (.invokevirtual 58, 3) := by decide +kernel
theorem ze_X0_fewestHours_0_5 (l : Launch) : ∀ C' ∈ [zk_X0_lookFromCells_0], zMet zkds vwCl zTW zKP l C' ∧ (zCV zkds vwCl zTW RX0 cX0_fewestHours 4 102 5 C' ∨ zCS zTW RX0 cX0_fewestHours 4 102 5 C') := (List.forall_mem_cons.mpr ⟨⟨zp_X0_lookFromCells_0 l, Or.inl (zcv_2 zw_X0_lookFromCells zr_X0_lookFromCells_0 58 zt_X0_fewestHours_5 zl_RX0_58 (by decide +kernel) (by decide +kernel))⟩, (List.forall_mem_nil _)⟩)
theorem zl_RX0_87 : Cond.methodLink RX0 87 yX0_findGoals ∈ zTW := zTin 1089 (by decide +kernel) rfl
theorem zt_X0_fewestHours_31 : decode cX0_fewestHours 31 = .ok (.invokevirtual 87, 3) := by decide +kernel
theorem ze_X0_fewestHours_0_31 (l : Launch) : ∀ C' ∈ [zk_X0_findGoals_0], zMet zkds vwCl zTW zKP l C' ∧ (zCV zkds vwCl zTW RX0 cX0_fewestHours 4 102 31 C' ∨ zCS zTW RX0 cX0_fewestHours 4 102 31 C') := (List.forall_mem_cons.mpr ⟨⟨zp_X0_findGoals_0 l, Or.inl (zcv_2 zw_X0_findGoals zr_X0_findGoals_0 87 zt_X0_fewestHours_31 zl_RX0_87 (by decide +kernel) (by decide +kernel))⟩, (List.forall_mem_nil _)⟩)
theorem zl_RX0_91 : Cond.methodLink RX0 91 yX0_isWithin ∈ zTW := zTin 1095 (by decide +kernel) rfl
theorem zt_X0_fewestHours_44 : decode cX0_fewestHours 44 = .ok (.invokevirtual 91, 3) := by decide +kernel
theorem ze_X0_fewestHours_0_44 (l : Launch) : ∀ C' ∈ [zk_X0_isWithin_0], zMet zkds vwCl zTW zKP l C' ∧ (zCV zkds vwCl zTW RX0 cX0_fewestHours 4 102 44 C' ∨ zCS zTW RX0 cX0_fewestHours 4 102 44 C') := (List.forall_mem_cons.mpr ⟨⟨zp_X0_isWithin_0 l, Or.inl (zcv_2 zw_X0_isWithin zr_X0_isWithin_0 91 zt_X0_fewestHours_44 zl_RX0_91 (by decide +kernel) (by decide +kernel))⟩, (List.forall_mem_nil _)⟩)
theorem zl_RX0_98 : Cond.methodLink RX0 98 yX6_drifted ∈ zTW := zTin 1103 (by decide +kernel) rfl
theorem zt_X0_fewestHours_62 : decode cX0_fewestHours 62 = .ok (.invokevirtual 98, 3) := by decide +kernel
theorem ze_X0_fewestHours_0_62 (l : Launch) : ∀ C' ∈ [zk_X6_drifted_0], zMet zkds vwCl zTW zKP l C' ∧ (zCV zkds vwCl zTW RX0 cX0_fewestHours 4 102 62 C' ∨ zCS zTW RX0 cX0_fewestHours 4 102 62 C') := (List.forall_mem_cons.mpr ⟨⟨zp_X6_drifted_0 l, Or.inl (zcv_2 zw_X6_drifted zr_X6_drifted_0 98 zt_X0_fewestHours_62 zl_RX0_98 (by decide +kernel) (by decide +kernel))⟩, (List.forall_mem_nil _)⟩)
def zm_X0_fewestHours_0 : zMD := (zc_X0_fewestHours, [(41, 6, 11, none), (84, 6, 7, none), (95, 6, 9, none)], ([], []), [(5, [zk_X0_lookFromCells_0]), (31, [zk_X0_findGoals_0]), (44, [zk_X0_isWithin_0]), (62, [zk_X6_drifted_0])], [], [(19, ([(0, 0), (0, 2147483647), (0, 2147483647), (0, 5), (0, 3), ((-2147483648), 2147483647), (0, 31), (0, 2147483647)], [(0, (53, 1, 0)), (1, (17, 2, 0)), (2, (0, 3, 0)), (3, (0, 4, 0)), (4, (0, 5, 0)), (5, (0, 6, 0))], [], [((15, 2), 7, (11, 7, 0))], []), (10974225556832287, [(6, (-1))]))], [])
set_option maxRecDepth 100000 in
theorem zv_X0_fewestHours_0 : zmeth zkds zk_X0_fewestHours_0 zm_X0_fewestHours_0 200000 10974225556832319 = true := by decide +kernel
theorem zp_X0_fewestHours_0 (l : Launch) : zMet zkds vwCl zTW zKP l zk_X0_fewestHours_0 := z_met zkp_ok zTW_good zk_X0_fewestHours_0 zm_X0_fewestHours_0 200000 10974225556832319 (by decide +kernel) (by decide +kernel) (by decide +kernel) zv_X0_fewestHours_0 zd_X0_fewestHours (List.forall_mem_cons.mpr ⟨zf_RX0_41, (List.forall_mem_cons.mpr ⟨zf_RX0_84, (List.forall_mem_cons.mpr ⟨zf_RX0_95, (List.forall_mem_nil _)⟩)⟩)⟩) ⟨(List.forall_mem_nil _), (List.forall_mem_nil _)⟩ (List.forall_mem_cons.mpr ⟨ze_X0_fewestHours_0_5 l, (List.forall_mem_cons.mpr ⟨ze_X0_fewestHours_0_31 l, (List.forall_mem_cons.mpr ⟨ze_X0_fewestHours_0_44 l, (List.forall_mem_cons.mpr ⟨ze_X0_fewestHours_0_62 l, (List.forall_mem_nil _)⟩)⟩)⟩)⟩) (List.forall_mem_nil _)
def zc_X0_firstRowTowards : List (Nat × Jvm.ClassFile.Instr × Nat) := [(0, .iconst 0, 1), (1, .istore 4, 2), (3, .iload 4, 2), (5, .iconst 4, 1), (6, .if_icmp .ge 38, 3), (9, .aload_n 1, 1), (10, .iload_n 2, 1), (11, .iload 4, 2), (13, .invokevirtual 112, 3), (16, .istore 5, 2), (18, .iload 5, 2), (20, .iconst (-1), 1), (21, .if_icmp .eq 17, 3), (24, .aload_n 0, 1), (25, .aload_n 1, 1), (26, .iload 5, 2), (28, .iload_n 3, 1), (29, .invokevirtual 91, 3), (32, .ifCond .eq 6, 3), (35, .iload 4, 2), (37, .ireturn, 1), (38, .iinc 4 1, 3), (41, .goto (-38), 3), (44, .iconst 4, 1), (45, .ireturn, 1)]
theorem zd_X0_firstRowTowards : ∀ q ∈ zc_X0_firstRowTowards, decode cX0_firstRowTowards q.1 = .ok (q.2.1, q.2.2) := by decide +kernel
set_option maxRecDepth 100000 in
theorem zq_X0_firstRowTowards : lw_tbl[1111]? = some (.code yX0_firstRowTowards cX0_firstRowTowards 6 (some .int)) := rfl
theorem zw_X0_firstRowTowards : zMV yX0_firstRowTowards cX0_firstRowTowards 6 (some .int) 3 := ⟨⟨zTin 111 (by decide +kernel) rfl, zTin 1111 zq_X0_firstRowTowards rfl, ⟨by decide, by decide⟩, by decide +kernel⟩, zTin 1110 (by decide +kernel) rfl, zTin 24 (by decide +kernel) rfl⟩
def zk_X0_firstRowTowards_0 : zCT := ((yX0_firstRowTowards, cX0_firstRowTowards, 6, (some .int)), (3, 67), ([(53, 1, 0), (17, 2, 0), (0, 3, 0), (0, 4, 0)], ([(0, 0), (0, 2147483647), (0, 2147483647), ((-2147483648), 2147483647), ((-128), 29)], [(0, (53, 1, 0)), (1, (17, 2, 0)), (2, (0, 3, 0)), (3, (0, 4, 0))], [], [], [])), [([(0, 0), (0, 2147483647), (0, 2147483647), ((-2147483648), 2147483647), ((-128), 29), (0, 4)], [], [(0, 5, 0)], [], [])], [])
theorem zr_X0_firstRowTowards_0 : zRC zkds vwCl zk_X0_firstRowTowards_0 3 := ⟨by decide +kernel, (53, 1, 0), [(17, 2, 0), (0, 3, 0), (0, 4, 0)], _, TX0, 7, rfl, by decide, by decide +kernel, zkd_51, rfl, rfl⟩
theorem zl_RX0_112 : Cond.methodLink RX0 112 yX6_beside ∈ zTW := zTin 1112 (by decide +kernel) rfl
theorem zt_X0_firstRowTowards_13 : decode cX0_firstRowTowards 13 = .ok (.invokevirtual 112, 3) := by decide +kernel
theorem ze_X0_firstRowTowards_0_13 (l : Launch) : ∀ C' ∈ [zk_X6_beside_0], zMet zkds vwCl zTW zKP l C' ∧ (zCV zkds vwCl zTW RX0 cX0_firstRowTowards 3 67 13 C' ∨ zCS zTW RX0 cX0_firstRowTowards 3 67 13 C') := (List.forall_mem_cons.mpr ⟨⟨zp_X6_beside_0 l, Or.inl (zcv_2 zw_X6_beside zr_X6_beside_0 112 zt_X0_firstRowTowards_13 zl_RX0_112 (by decide +kernel) (by decide +kernel))⟩, (List.forall_mem_nil _)⟩)
theorem zt_X0_firstRowTowards_29 : decode cX0_firstRowTowards 29 = .ok (.invokevirtual 91, 3) := by decide +kernel
theorem ze_X0_firstRowTowards_0_29 (l : Launch) : ∀ C' ∈ [zk_X0_isWithin_0], zMet zkds vwCl zTW zKP l C' ∧ (zCV zkds vwCl zTW RX0 cX0_firstRowTowards 3 67 29 C' ∨ zCS zTW RX0 cX0_firstRowTowards 3 67 29 C') := (List.forall_mem_cons.mpr ⟨⟨zp_X0_isWithin_0 l, Or.inl (zcv_2 zw_X0_isWithin zr_X0_isWithin_0 91 zt_X0_firstRowTowards_29 zl_RX0_91 (by decide +kernel) (by decide +kernel))⟩, (List.forall_mem_nil _)⟩)
def zm_X0_firstRowTowards_0 : zMD := (zc_X0_firstRowTowards, [], ([], []), [(13, [zk_X6_beside_0]), (29, [zk_X0_isWithin_0])], [], [(3, ([(0, 0), (0, 2147483647), (0, 2147483647), ((-2147483648), 2147483647), ((-128), 29), (0, 4)], [(0, (53, 1, 0)), (1, (17, 2, 0)), (2, (0, 3, 0)), (3, (0, 4, 0)), (4, (0, 5, 0))], [], [], []), (10991817742876676, [(5, (-1))]))], [])
set_option maxRecDepth 100000 in
theorem zv_X0_firstRowTowards_0 : zmeth zkds zk_X0_firstRowTowards_0 zm_X0_firstRowTowards_0 200000 10991817742876681 = true := by decide +kernel
theorem zp_X0_firstRowTowards_0 (l : Launch) : zMet zkds vwCl zTW zKP l zk_X0_firstRowTowards_0 := z_met zkp_ok zTW_good zk_X0_firstRowTowards_0 zm_X0_firstRowTowards_0 200000 10991817742876681 (by decide +kernel) (by decide +kernel) (by decide +kernel) zv_X0_firstRowTowards_0 zd_X0_firstRowTowards (List.forall_mem_nil _) ⟨(List.forall_mem_nil _), (List.forall_mem_nil _)⟩ (List.forall_mem_cons.mpr ⟨ze_X0_firstRowTowards_0_13 l, (List.forall_mem_cons.mpr ⟨ze_X0_firstRowTowards_0_29 l, (List.forall_mem_nil _)⟩)⟩) (List.forall_mem_nil _)
def zc_X0_doneInHour : List (Nat × Jvm.ClassFile.Instr × Nat) := [(0, .aload_n 1, 1), (1, .getfield 41, 3), (4, .iload_n 2, 1), (5, .iaload, 1), (6, .istore 5, 2), (8, .iconst 4, 1), (9, .istore 6, 2), (11, .iconst 0, 1), (12, .istore 7, 2), (14, .iload 7, 2), (16, .iload_n 3, 1), (17, .if_icmp .gt 35, 3), (20, .aload_n 0, 1), (21, .aload_n 1, 1), (22, .iload 5, 2), (24, .iload 4, 2), (26, .iload 7, 2), (28, .isub, 1), (29, .iconst 1, 1), (30, .isub, 1), (31, .invokevirtual 108, 3), (34, .istore 6, 2), (36, .aload_n 1, 1), (37, .iload 5, 2), (39, .iload 6, 2), (41, .invokevirtual 98, 3), (44, .istore 5, 2), (46, .iinc 7 1, 3), (49, .goto (-35), 3), (52, .iload 6, 2), (54, .ireturn, 1)]
theorem zd_X0_doneInHour : ∀ q ∈ zc_X0_doneInHour, decode cX0_doneInHour q.1 = .ok (q.2.1, q.2.2) := by decide +kernel
set_option maxRecDepth 100000 in
theorem zq_X0_doneInHour : lw_tbl[1107]? = some (.code yX0_doneInHour cX0_doneInHour 8 (some .int)) := rfl
theorem zw_X0_doneInHour : zMV yX0_doneInHour cX0_doneInHour 8 (some .int) 4 := ⟨⟨zTin 111 (by decide +kernel) rfl, zTin 1107 zq_X0_doneInHour rfl, ⟨by decide, by decide⟩, by decide +kernel⟩, zTin 1105 (by decide +kernel) rfl, zTin 1106 (by decide +kernel) rfl⟩
def zk_X0_doneInHour_0 : zCT := ((yX0_doneInHour, cX0_doneInHour, 8, (some .int)), (4, 92), ([(53, 1, 0), (17, 2, 0), (0, 3, 0), (0, 4, 0), (0, 5, 0)], ([(0, 0), (0, 2147483647), (0, 2147483647), (0, 5), (0, 29), (1, 30)], [(0, (53, 1, 0)), (1, (17, 2, 0)), (2, (0, 3, 0)), (3, (0, 4, 0)), (4, (0, 5, 0))], [], [], [])), [([(0, 0), (0, 2147483647), (0, 2147483647), (0, 5), (0, 29), (1, 30), (0, 4)], [], [(0, 6, 0)], [], [])], [])
theorem zr_X0_doneInHour_0 : zRC zkds vwCl zk_X0_doneInHour_0 4 := ⟨by decide +kernel, (53, 1, 0), [(17, 2, 0), (0, 3, 0), (0, 4, 0), (0, 5, 0)], _, TX0, 7, rfl, by decide, by decide +kernel, zkd_51, rfl, rfl⟩
theorem zl_RX0_108 : Cond.methodLink RX0 108 yX0_firstRowTowards ∈ zTW := zTin 1108 (by decide +kernel) rfl
theorem zt_X0_doneInHour_31 : decode cX0_doneInHour 31 = .ok (.invokevirtual 108, 3) := by decide +kernel
theorem ze_X0_doneInHour_0_31 (l : Launch) : ∀ C' ∈ [zk_X0_firstRowTowards_0], zMet zkds vwCl zTW zKP l C' ∧ (zCV zkds vwCl zTW RX0 cX0_doneInHour 4 92 31 C' ∨ zCS zTW RX0 cX0_doneInHour 4 92 31 C') := (List.forall_mem_cons.mpr ⟨⟨zp_X0_firstRowTowards_0 l, Or.inl (zcv_2 zw_X0_firstRowTowards zr_X0_firstRowTowards_0 108 zt_X0_doneInHour_31 zl_RX0_108 (by decide +kernel) (by decide +kernel))⟩, (List.forall_mem_nil _)⟩)
theorem zt_X0_doneInHour_41 : decode cX0_doneInHour 41 = .ok (.invokevirtual 98, 3) := by decide +kernel
theorem ze_X0_doneInHour_0_41 (l : Launch) : ∀ C' ∈ [zk_X6_drifted_0], zMet zkds vwCl zTW zKP l C' ∧ (zCV zkds vwCl zTW RX0 cX0_doneInHour 4 92 41 C' ∨ zCS zTW RX0 cX0_doneInHour 4 92 41 C') := (List.forall_mem_cons.mpr ⟨⟨zp_X6_drifted_0 l, Or.inl (zcv_2 zw_X6_drifted zr_X6_drifted_0 98 zt_X0_doneInHour_41 zl_RX0_98 (by decide +kernel) (by decide +kernel))⟩, (List.forall_mem_nil _)⟩)
def zm_X0_doneInHour_0 : zMD := (zc_X0_doneInHour, [(41, 6, 11, none)], ([], []), [(31, [zk_X0_firstRowTowards_0]), (41, [zk_X6_drifted_0])], [], [(14, ([(0, 0), (0, 2147483647), (0, 2147483647), (0, 5), (0, 29), (1, 30), ((-2147483648), 2147483647), (0, 4), (0, 30), (0, 2147483647)], [(0, (53, 1, 0)), (1, (17, 2, 0)), (3, (0, 4, 0)), (4, (0, 5, 0)), (5, (0, 6, 0)), (6, (0, 7, 0)), (7, (0, 8, 0))], [], [((15, 2), 11, (14, 9, 0))], []), (10979723114971166, [(8, (-1))]))], [])
set_option maxRecDepth 100000 in
theorem zv_X0_doneInHour_0 : zmeth zkds zk_X0_doneInHour_0 zm_X0_doneInHour_0 200000 10979723114971197 = true := by decide +kernel
theorem zp_X0_doneInHour_0 (l : Launch) : zMet zkds vwCl zTW zKP l zk_X0_doneInHour_0 := z_met zkp_ok zTW_good zk_X0_doneInHour_0 zm_X0_doneInHour_0 200000 10979723114971197 (by decide +kernel) (by decide +kernel) (by decide +kernel) zv_X0_doneInHour_0 zd_X0_doneInHour (List.forall_mem_cons.mpr ⟨zf_RX0_41, (List.forall_mem_nil _)⟩) ⟨(List.forall_mem_nil _), (List.forall_mem_nil _)⟩ (List.forall_mem_cons.mpr ⟨ze_X0_doneInHour_0_31 l, (List.forall_mem_cons.mpr ⟨ze_X0_doneInHour_0_41 l, (List.forall_mem_nil _)⟩)⟩) (List.forall_mem_nil _)
def zc_X11_soon : List (Nat × Jvm.ClassFile.Instr × Nat) := [(0, .aload_n 0, 1), (1, .getfield 10, 3), (4, .iload_n 1, 1), (5, .invokevirtual 93, 3), (8, .astore 5, 2), (10, .aload 5, 2), (12, .ifnull 21, 3), (15, .aload 5, 2), (17, .iload_n 2, 1), (18, .invokevirtual 137, 3), (21, .ifCond .eq 12, 3), (24, .aload 5, 2), (26, .iload_n 3, 1), (27, .invokevirtual 124, 3), (30, .ifCond .ne 5, 3), (33, .iconst (-1), 1), (34, .ireturn, 1), (35, .aload_n 0, 1), (36, .getfield 44, 3), (39, .aload 5, 2), (41, .iload_n 2, 1), (42, .iload_n 3, 1), (43, .invokevirtual 261, 3), (46, .istore 6, 2), (48, .iload 6, 2), (50, .iconst (-1), 1), (51, .if_icmp .eq 8, 3), (54, .iload 4, 2), (56, .ifCond .ne 6, 3), (59, .iload 6, 2), (61, .ireturn, 1), (62, .iload 4, 2), (64, .bipush 10, 2), (66, .if_icmp .lt 13, 3), (69, .iload 4, 2), (71, .bipush 10, 2), (73, .isub, 1), (74, .iload 6, 2), (76, .if_icmp .lt 5, 3), (79, .iconst (-1), 1), (80, .ireturn, 1), (81, .aload_n 0, 1), (82, .getfield 44, 3), (85, .aload 5, 2), (87, .iload_n 2, 1), (88, .iload 4, 2), (90, .bipush 10, 2), (92, .isub, 1), (93, .iload 6, 2), (95, .invokevirtual 264, 3), (98, .ireturn, 1)]
theorem zd_X11_soon : ∀ q ∈ zc_X11_soon, decode cX11_soon q.1 = .ok (q.2.1, q.2.2) := by decide +kernel
set_option maxRecDepth 100000 in
theorem zq_X11_soon : lw_tbl[1072]? = some (.code yX11_soon cX11_soon 7 (some .int)) := rfl
theorem zw_X11_soon : zMV yX11_soon cX11_soon 7 (some .int) 4 := ⟨⟨zTin 101 (by decide +kernel) rfl, zTin 1072 zq_X11_soon rfl, ⟨by decide, by decide⟩, by decide +kernel⟩, zTin 1070 (by decide +kernel) rfl, zTin 1071 (by decide +kernel) rfl⟩
def zk_X11_soon_0 : zCT := ((yX11_soon, cX11_soon, 7, (some .int)), (5, 127), ([(65, 1, 0), (0, 2, 0), (0, 3, 0), (0, 4, 0), (0, 5, 0)], ([(0, 0), (0, 2147483647), ((-2147483648), 2147483647), ((-2147483648), 2147483647), ((-2147483648), 2147483647), ((-2147483648), 2147483647)], [(0, (65, 1, 0)), (1, (0, 2, 0)), (2, (0, 3, 0)), (3, (0, 4, 0)), (4, (0, 5, 0))], [], [], [])), [([(0, 0), (0, 2147483647), ((-2147483648), 2147483647), ((-2147483648), 2147483647), ((-2147483648), 2147483647), ((-2147483648), 2147483647)], [], [(0, 0, (-1))], [], []), ([(0, 0), (0, 2147483647), (0, 1), (0, 5), (0, 3), (0, 39), (0, 30)], [], [(0, 6, 0)], [], [])], [(48, 0, 127), (49, 0, 127), (51, 6, 6)])
theorem zr_X11_soon_0 : zRC zkds vwCl zk_X11_soon_0 4 := ⟨by decide +kernel, (65, 1, 0), [(0, 2, 0), (0, 3, 0), (0, 4, 0), (0, 5, 0)], _, TX11, 7, rfl, by decide, by decide +kernel, zkd_63, rfl, rfl⟩
theorem zt_X11_soon_5 : decode cX11_soon 5 = .ok (.invokevirtual 93, 3) := by decide +kernel
theorem ze_X11_soon_0_5 (l : Launch) : ∀ C' ∈ [zk_X9_findSea_0], zMet zkds vwCl zTW zKP l C' ∧ (zCV zkds vwCl zTW RX11 cX11_soon 5 127 5 C' ∨ zCS zTW RX11 cX11_soon 5 127 5 C') := (List.forall_mem_cons.mpr ⟨⟨zp_X9_findSea_0 l, Or.inl (zcv_2 zw_X9_findSea zr_X9_findSea_0 93 zt_X11_soon_5 zl_RX11_93 (by decide +kernel) (by decide +kernel))⟩, (List.forall_mem_nil _)⟩)
theorem zt_X11_soon_18 : decode cX11_soon 18 = .ok (.invokevirtual 137, 3) := by decide +kernel
theorem ze_X11_soon_0_18 (l : Launch) : ∀ C' ∈ [zk_X6_hasBoat_0], zMet zkds vwCl zTW zKP l C' ∧ (zCV zkds vwCl zTW RX11 cX11_soon 5 127 18 C' ∨ zCS zTW RX11 cX11_soon 5 127 18 C') := (List.forall_mem_cons.mpr ⟨⟨zp_X6_hasBoat_0 l, Or.inl (zcv_2 zw_X6_hasBoat zr_X6_hasBoat_0 137 zt_X11_soon_18 zl_RX11_137 (by decide +kernel) (by decide +kernel))⟩, (List.forall_mem_nil _)⟩)
theorem zt_X11_soon_27 : decode cX11_soon 27 = .ok (.invokevirtual 124, 3) := by decide +kernel
theorem ze_X11_soon_0_27 (l : Launch) : ∀ C' ∈ [zk_X6_hasShoal_0], zMet zkds vwCl zTW zKP l C' ∧ (zCV zkds vwCl zTW RX11 cX11_soon 5 127 27 C' ∨ zCS zTW RX11 cX11_soon 5 127 27 C') := (List.forall_mem_cons.mpr ⟨⟨zp_X6_hasShoal_0 l, Or.inl (zcv_2 zw_X6_hasShoal zr_X6_hasShoal_0 124 zt_X11_soon_27 zl_RX11_124 (by decide +kernel) (by decide +kernel))⟩, (List.forall_mem_nil _)⟩)
theorem zl_RX11_261 : Cond.methodLink RX11 261 yX0_fewestHours ∈ zTW := zTin 1073 (by decide +kernel) rfl
theorem zt_X11_soon_43 : decode cX11_soon 43 = .ok (.invokevirtual 261, 3) := by decide +kernel
theorem ze_X11_soon_0_43 (l : Launch) : ∀ C' ∈ [zk_X0_fewestHours_0], zMet zkds vwCl zTW zKP l C' ∧ (zCV zkds vwCl zTW RX11 cX11_soon 5 127 43 C' ∨ zCS zTW RX11 cX11_soon 5 127 43 C') := (List.forall_mem_cons.mpr ⟨⟨zp_X0_fewestHours_0 l, Or.inl (zcv_2 zw_X0_fewestHours zr_X0_fewestHours_0 261 zt_X11_soon_43 zl_RX11_261 (by decide +kernel) (by decide +kernel))⟩, (List.forall_mem_nil _)⟩)
theorem zl_RX11_264 : Cond.methodLink RX11 264 yX0_doneInHour ∈ zTW := zTin 1104 (by decide +kernel) rfl
theorem zt_X11_soon_95 : decode cX11_soon 95 = .ok (.invokevirtual 264, 3) := by decide +kernel
theorem ze_X11_soon_0_95 (l : Launch) : ∀ C' ∈ [zk_X0_doneInHour_0], zMet zkds vwCl zTW zKP l C' ∧ (zCV zkds vwCl zTW RX11 cX11_soon 5 127 95 C' ∨ zCS zTW RX11 cX11_soon 5 127 95 C') := (List.forall_mem_cons.mpr ⟨⟨zp_X0_doneInHour_0 l, Or.inl (zcv_2 zw_X0_doneInHour zr_X0_doneInHour_0 264 zt_X11_soon_95 zl_RX11_264 (by decide +kernel) (by decide +kernel))⟩, (List.forall_mem_nil _)⟩)
def zm_X11_soon_0 : zMD := (zc_X11_soon, [(10, 11, 0, none), (44, 11, 5, none)], ([], []), [(5, [zk_X9_findSea_0]), (18, [zk_X6_hasBoat_0]), (27, [zk_X6_hasShoal_0]), (43, [zk_X0_fewestHours_0]), (95, [zk_X0_doneInHour_0])], [], [], [])
set_option maxRecDepth 100000 in
theorem zv_X11_soon_0 : zmeth zkds zk_X11_soon_0 zm_X11_soon_0 200000 1 = true := by decide +kernel
theorem zp_X11_soon_0 (l : Launch) : zMet zkds vwCl zTW zKP l zk_X11_soon_0 := z_met zkp_ok zTW_good zk_X11_soon_0 zm_X11_soon_0 200000 1 (by decide +kernel) (by decide +kernel) (by decide +kernel) zv_X11_soon_0 zd_X11_soon (List.forall_mem_cons.mpr ⟨zf_RX11_10, (List.forall_mem_cons.mpr ⟨zf_RX11_44, (List.forall_mem_nil _)⟩)⟩) ⟨(List.forall_mem_nil _), (List.forall_mem_nil _)⟩ (List.forall_mem_cons.mpr ⟨ze_X11_soon_0_5 l, (List.forall_mem_cons.mpr ⟨ze_X11_soon_0_18 l, (List.forall_mem_cons.mpr ⟨ze_X11_soon_0_27 l, (List.forall_mem_cons.mpr ⟨ze_X11_soon_0_43 l, (List.forall_mem_cons.mpr ⟨ze_X11_soon_0_95 l, (List.forall_mem_nil _)⟩)⟩)⟩)⟩)⟩) (List.forall_mem_nil _)
def zc_X11_state : List (Nat × Jvm.ClassFile.Instr × Nat) := [(0, .aload_n 0, 1), (1, .iload_n 1, 1), (2, .iload_n 2, 1), (3, .iload_n 3, 1), (4, .invokevirtual 192, 3), (7, .ifCond .eq 18, 3), (10, .aload_n 0, 1), (11, .getfield 30, 3), (14, .getfield 196, 3), (17, .iload 4, 2), (19, .invokevirtual 199, 3), (22, .ifCond .ne 6, 3), (25, .bipush (-2), 2), (27, .ireturn, 1), (28, .aload_n 0, 1), (29, .getfield 30, 3), (32, .getfield 196, 3), (35, .astore 6, 2), (37, .aload 6, 2), (39, .iload 4, 2), (41, .iload_n 3, 1), (42, .invokevirtual 204, 3), (45, .iconst (-1), 1), (46, .if_icmp .eq 7, 3), (49, .iconst 1, 1), (50, .goto 4, 3), (53, .iconst 0, 1), (54, .istore 7, 2), (56, .iload 5, 2), (58, .tableswitch 114 0 5 #[38, 47, 56, 65, 83, 105], 38), (96, .aload 6, 2), (98, .getfield 207, 3), (101, .iload 4, 2), (103, .iaload, 1), (104, .ireturn, 1), (105, .aload 6, 2), (107, .getfield 210, 3), (110, .iload 4, 2), (112, .iaload, 1), (113, .ireturn, 1), (114, .aload 6, 2), (116, .iload 4, 2), (118, .iload_n 3, 1), (119, .invokevirtual 204, 3), (122, .ireturn, 1), (123, .iload 7, 2), (125, .ifCond .eq 14, 3), (128, .aload 6, 2), (130, .getfield 213, 3), (133, .iload 4, 2), (135, .iaload, 1), (136, .goto 4, 3), (139, .iconst 0, 1), (140, .ireturn, 1), (141, .iload 7, 2), (143, .ifCond .eq 18, 3), (146, .aload 6, 2), (148, .getfield 216, 3), (151, .iload 4, 2), (153, .iaload, 1), (154, .iload_n 3, 1), (155, .isub, 1), (156, .iconst 1, 1), (157, .iadd, 1), (158, .goto 4, 3), (161, .iconst 0, 1), (162, .ireturn, 1), (163, .aload 6, 2), (165, .getfield 219, 3), (168, .iload 4, 2), (170, .iaload, 1), (171, .ireturn, 1), (172, .bipush (-2), 2), (174, .ireturn, 1)]
theorem zd_X11_state : ∀ q ∈ zc_X11_state, decode cX11_state q.1 = .ok (q.2.1, q.2.2) := by decide +kernel
set_option maxRecDepth 100000 in
theorem zq_X11_state : lw_tbl[1033]? = some (.code yX11_state cX11_state 8 (some .int)) := rfl
theorem zw_X11_state : zMV yX11_state cX11_state 8 (some .int) 5 := ⟨⟨zTin 101 (by decide +kernel) rfl, zTin 1033 zq_X11_state rfl, ⟨by decide, by decide⟩, by decide +kernel⟩, zTin 1031 (by decide +kernel) rfl, zTin 1032 (by decide +kernel) rfl⟩
theorem zf_RX11_207 : zFok RX11 zTW vwCl (207, 7, 0, none) := ⟨RX7, TX7, 8, rfl, zx_7, by decide, zTin 398 (by decide +kernel) rfl, fun _ h => by cases h⟩
theorem zf_RX11_210 : zFok RX11 zTW vwCl (210, 7, 1, none) := ⟨RX7, TX7, 8, rfl, zx_7, by decide, zTin 401 (by decide +kernel) rfl, fun _ h => by cases h⟩
theorem zf_RX11_213 : zFok RX11 zTW vwCl (213, 7, 3, none) := ⟨RX7, TX7, 8, rfl, zx_7, by decide, zTin 406 (by decide +kernel) rfl, fun _ h => by cases h⟩
theorem zf_RX11_216 : zFok RX11 zTW vwCl (216, 7, 4, none) := ⟨RX7, TX7, 8, rfl, zx_7, by decide, zTin 408 (by decide +kernel) rfl, fun _ h => by cases h⟩
theorem zf_RX11_219 : zFok RX11 zTW vwCl (219, 7, 2, none) := ⟨RX7, TX7, 8, rfl, zx_7, by decide, zTin 403 (by decide +kernel) rfl, fun _ h => by cases h⟩
def zk_X11_state_0 : zCT := ((yX11_state, cX11_state, 8, (some .int)), (7, 171), ([(65, 1, 0), (0, 2, 0), (0, 3, 0), (0, 4, 0), (0, 5, 0), (0, 6, 0)], ([(0, 0), (0, 2147483647), ((-2147483648), 2147483647), ((-2147483648), 2147483647), ((-2147483648), 2147483647), ((-2147483648), 2147483647), ((-2147483648), 2147483647)], [(0, (65, 1, 0)), (1, (0, 2, 0)), (2, (0, 3, 0)), (3, (0, 4, 0)), (4, (0, 5, 0)), (5, (0, 6, 0))], [], [], [])), [([(0, 0), (0, 2147483647), ((-2147483648), 2147483647), ((-2147483648), 2147483647), ((-2147483648), 2147483647), ((-2147483648), 2147483647), ((-2147483648), 2147483647)], [], [(0, 0, (-2))], [], []), ([(0, 0), (0, 2147483647), (0, 1), (0, 1), (0, 30), (0, 5), (0, 5), ((-2147483648), 2147483647)], [], [(0, 7, 0)], [], []), ([(0, 0), (0, 2147483647), (0, 1), (0, 1), (0, 30), (0, 5), (3, 4)], [], [(0, 0, 0)], [], []), ([(0, 0), (0, 2147483647), (0, 1), (0, 1), (0, 30), (0, 5), (2, 2)], [], [(0, 0, (-1))], [], [])], [(35, 0, 5), (36, 0, 5), (37, 0, 5), (38, 0, 5), (39, 0, 5), (40, 0, 5), (41, 6, 7), (42, 0, 5), (43, 0, 5), (44, 0, 5), (46, 0, 1), (46, 6, 14)])
theorem zr_X11_state_0 : zRC zkds vwCl zk_X11_state_0 5 := ⟨by decide +kernel, (65, 1, 0), [(0, 2, 0), (0, 3, 0), (0, 4, 0), (0, 5, 0), (0, 6, 0)], _, TX11, 7, rfl, by decide, by decide +kernel, zkd_63, rfl, rfl⟩
theorem zt_X11_state_4 : decode cX11_state 4 = .ok (.invokevirtual 192, 3) := by decide +kernel
theorem ze_X11_state_0_4 (l : Launch) : ∀ C' ∈ [zk_X11_runToState_0], zMet zkds vwCl zTW zKP l C' ∧ (zCV zkds vwCl zTW RX11 cX11_state 7 171 4 C' ∨ zCS zTW RX11 cX11_state 7 171 4 C') := (List.forall_mem_cons.mpr ⟨⟨zp_X11_runToState_0 l, Or.inl (zcv_2 zw_X11_runToState zr_X11_runToState_0 192 zt_X11_state_4 zl_RX11_192 (by decide +kernel) (by decide +kernel))⟩, (List.forall_mem_nil _)⟩)
theorem zt_X11_state_19 : decode cX11_state 19 = .ok (.invokevirtual 199, 3) := by decide +kernel
theorem ze_X11_state_0_19 (l : Launch) : ∀ C' ∈ [zk_X7_isThere_0], zMet zkds vwCl zTW zKP l C' ∧ (zCV zkds vwCl zTW RX11 cX11_state 7 171 19 C' ∨ zCS zTW RX11 cX11_state 7 171 19 C') := (List.forall_mem_cons.mpr ⟨⟨zp_X7_isThere_0 l, Or.inl (zcv_2 zw_X7_isThere zr_X7_isThere_0 199 zt_X11_state_19 zl_RX11_199 (by decide +kernel) (by decide +kernel))⟩, (List.forall_mem_nil _)⟩)
theorem zl_RX11_204 : Cond.methodLink RX11 204 yX7_holderAt ∈ zTW := zTin 1039 (by decide +kernel) rfl
theorem zt_X11_state_42 : decode cX11_state 42 = .ok (.invokevirtual 204, 3) := by decide +kernel
theorem ze_X11_state_0_42 (l : Launch) : ∀ C' ∈ [zk_X7_holderAt_0], zMet zkds vwCl zTW zKP l C' ∧ (zCV zkds vwCl zTW RX11 cX11_state 7 171 42 C' ∨ zCS zTW RX11 cX11_state 7 171 42 C') := (List.forall_mem_cons.mpr ⟨⟨zp_X7_holderAt_0 l, Or.inl (zcv_2 zw_X7_holderAt zr_X7_holderAt_0 204 zt_X11_state_42 zl_RX11_204 (by decide +kernel) (by decide +kernel))⟩, (List.forall_mem_nil _)⟩)
theorem zt_X11_state_119 : decode cX11_state 119 = .ok (.invokevirtual 204, 3) := by decide +kernel
theorem ze_X11_state_0_119 (l : Launch) : ∀ C' ∈ [zk_X7_holderAt_0], zMet zkds vwCl zTW zKP l C' ∧ (zCV zkds vwCl zTW RX11 cX11_state 7 171 119 C' ∨ zCS zTW RX11 cX11_state 7 171 119 C') := (List.forall_mem_cons.mpr ⟨⟨zp_X7_holderAt_0 l, Or.inl (zcv_2 zw_X7_holderAt zr_X7_holderAt_0 204 zt_X11_state_119 zl_RX11_204 (by decide +kernel) (by decide +kernel))⟩, (List.forall_mem_nil _)⟩)
def zm_X11_state_0 : zMD := (zc_X11_state, [(30, 11, 3, none), (196, 5, 2, none), (207, 7, 0, none), (210, 7, 1, none), (213, 7, 3, none), (216, 7, 4, none), (219, 7, 2, none)], ([], []), [(4, [zk_X11_runToState_0]), (19, [zk_X7_isThere_0]), (42, [zk_X7_holderAt_0]), (119, [zk_X7_holderAt_0])], [], [], [])
set_option maxRecDepth 100000 in
theorem zv_X11_state_0 : zmeth zkds zk_X11_state_0 zm_X11_state_0 200000 1 = true := by decide +kernel
theorem zp_X11_state_0 (l : Launch) : zMet zkds vwCl zTW zKP l zk_X11_state_0 := z_met zkp_ok zTW_good zk_X11_state_0 zm_X11_state_0 200000 1 (by decide +kernel) (by decide +kernel) (by decide +kernel) zv_X11_state_0 zd_X11_state (List.forall_mem_cons.mpr ⟨zf_RX11_30, (List.forall_mem_cons.mpr ⟨zf_RX11_196, (List.forall_mem_cons.mpr ⟨zf_RX11_207, (List.forall_mem_cons.mpr ⟨zf_RX11_210, (List.forall_mem_cons.mpr ⟨zf_RX11_213, (List.forall_mem_cons.mpr ⟨zf_RX11_216, (List.forall_mem_cons.mpr ⟨zf_RX11_219, (List.forall_mem_nil _)⟩)⟩)⟩)⟩)⟩)⟩)⟩) ⟨(List.forall_mem_nil _), (List.forall_mem_nil _)⟩ (List.forall_mem_cons.mpr ⟨ze_X11_state_0_4 l, (List.forall_mem_cons.mpr ⟨ze_X11_state_0_19 l, (List.forall_mem_cons.mpr ⟨ze_X11_state_0_42 l, (List.forall_mem_cons.mpr ⟨ze_X11_state_0_119 l, (List.forall_mem_nil _)⟩)⟩)⟩)⟩) (List.forall_mem_nil _)
def zc_X11_runToStop : List (Nat × Jvm.ClassFile.Instr × Nat) := [(0, .aload_n 0, 1), (1, .getfield 10, 3), (4, .iload_n 1, 1), (5, .invokevirtual 93, 3), (8, .astore_n 3, 1), (9, .aload_n 0, 1), (10, .getfield 10, 3), (13, .iload_n 2, 1), (14, .invokevirtual 170, 3), (17, .astore 4, 2), (19, .aload_n 3, 1), (20, .ifnull 8, 3), (23, .aload 4, 2), (25, .ifnonnull 5, 3), (28, .iconst 0, 1), (29, .ireturn, 1), (30, .aload_n 0, 1), (31, .getfield 30, 3), (34, .aload_n 3, 1), (35, .aload 4, 2), (37, .iconst 0, 1), (38, .iconst 0, 1), (39, .invokevirtual 326, 3), (42, .aload_n 0, 1), (43, .getfield 30, 3), (46, .bipush 30, 2), (48, .invokevirtual 330, 3), (51, .iconst 1, 1), (52, .ireturn, 1)]
theorem zd_X11_runToStop : ∀ q ∈ zc_X11_runToStop, decode cX11_runToStop q.1 = .ok (q.2.1, q.2.2) := by decide +kernel
set_option maxRecDepth 100000 in
theorem zq_X11_runToStop : lw_tbl[918]? = some (.code yX11_runToStop cX11_runToStop 5 (some .boolean)) := rfl
theorem zw_X11_runToStop : zMV yX11_runToStop cX11_runToStop 5 (some .boolean) 2 := ⟨⟨zTin 101 (by decide +kernel) rfl, zTin 918 zq_X11_runToStop rfl, ⟨by decide, by decide⟩, by decide +kernel⟩, zTin 917 (by decide +kernel) rfl, zTin 10 (by decide +kernel) rfl⟩
def zk_X11_runToStop_0 : zCT := ((yX11_runToStop, cX11_runToStop, 5, (some .boolean)), (6, 146), ([(65, 1, 0), (0, 2, 0), (0, 3, 0)], ([(0, 0), (0, 2147483647), ((-2147483648), 2147483647), ((-2147483648), 2147483647)], [(0, (65, 1, 0)), (1, (0, 2, 0)), (2, (0, 3, 0))], [], [], [])), [([(0, 0), (0, 2147483647), (0, 1), (0, 1), (0, 2147483647), (0, 2147483647), (0, 2147483647)], [], [(0, 0, 1)], [((63, 1), 3, (48, 4, 0)), ((46, 4), 0, (17, 5, 0)), ((46, 4), 1, (20, 6, 0))], []), ([(0, 0), (0, 2147483647), ((-2147483648), 2147483647), ((-2147483648), 2147483647)], [], [(0, 0, 0)], [], [])], [(35, 0, 5), (36, 0, 5), (37, 0, 5), (38, 0, 5), (39, 0, 5), (40, 0, 5), (41, 6, 7), (42, 0, 5), (43, 0, 5), (44, 0, 5), (46, 0, 1), (46, 6, 14)])
theorem zr_X11_runToStop_0 : zRC zkds vwCl zk_X11_runToStop_0 2 := ⟨by decide +kernel, (65, 1, 0), [(0, 2, 0), (0, 3, 0)], _, TX11, 7, rfl, by decide, by decide +kernel, zkd_63, rfl, rfl⟩
theorem zt_X11_runToStop_5 : decode cX11_runToStop 5 = .ok (.invokevirtual 93, 3) := by decide +kernel
theorem ze_X11_runToStop_0_5 (l : Launch) : ∀ C' ∈ [zk_X9_findSea_0], zMet zkds vwCl zTW zKP l C' ∧ (zCV zkds vwCl zTW RX11 cX11_runToStop 6 146 5 C' ∨ zCS zTW RX11 cX11_runToStop 6 146 5 C') := (List.forall_mem_cons.mpr ⟨⟨zp_X9_findSea_0 l, Or.inl (zcv_2 zw_X9_findSea zr_X9_findSea_0 93 zt_X11_runToStop_5 zl_RX11_93 (by decide +kernel) (by decide +kernel))⟩, (List.forall_mem_nil _)⟩)
theorem zt_X11_runToStop_14 : decode cX11_runToStop 14 = .ok (.invokevirtual 170, 3) := by decide +kernel
theorem ze_X11_runToStop_0_14 (l : Launch) : ∀ C' ∈ [zk_X9_findDay_0], zMet zkds vwCl zTW zKP l C' ∧ (zCV zkds vwCl zTW RX11 cX11_runToStop 6 146 14 C' ∨ zCS zTW RX11 cX11_runToStop 6 146 14 C') := (List.forall_mem_cons.mpr ⟨⟨zp_X9_findDay_0 l, Or.inl (zcv_2 zw_X9_findDay zr_X9_findDay_0 170 zt_X11_runToStop_14 zl_RX11_170 (by decide +kernel) (by decide +kernel))⟩, (List.forall_mem_nil _)⟩)
theorem zt_X11_runToStop_39 : decode cX11_runToStop 39 = .ok (.invokevirtual 326, 3) := by decide +kernel
theorem ze_X11_runToStop_0_39 (l : Launch) : ∀ C' ∈ [zk_X5_begin_0], zMet zkds vwCl zTW zKP l C' ∧ (zCV zkds vwCl zTW RX11 cX11_runToStop 6 146 39 C' ∨ zCS zTW RX11 cX11_runToStop 6 146 39 C') := (List.forall_mem_cons.mpr ⟨⟨zp_X5_begin_0 l, Or.inl (zcv_2 zw_X5_begin zr_X5_begin_0 326 zt_X11_runToStop_39 zl_RX11_326 (by decide +kernel) (by decide +kernel))⟩, (List.forall_mem_nil _)⟩)
theorem zt_X11_runToStop_48 : decode cX11_runToStop 48 = .ok (.invokevirtual 330, 3) := by decide +kernel
theorem ze_X11_runToStop_0_48 (l : Launch) : ∀ C' ∈ [zk_X5_go_0], zMet zkds vwCl zTW zKP l C' ∧ (zCV zkds vwCl zTW RX11 cX11_runToStop 6 146 48 C' ∨ zCS zTW RX11 cX11_runToStop 6 146 48 C') := (List.forall_mem_cons.mpr ⟨⟨zp_X5_go_0 l, Or.inl (zcv_2 zw_X5_go zr_X5_go_0 330 zt_X11_runToStop_48 zl_RX11_330 (by decide +kernel) (by decide +kernel))⟩, (List.forall_mem_nil _)⟩)
def zm_X11_runToStop_0 : zMD := (zc_X11_runToStop, [(10, 11, 0, none), (30, 11, 3, none)], ([], []), [(5, [zk_X9_findSea_0]), (14, [zk_X9_findDay_0]), (39, [zk_X5_begin_0]), (48, [zk_X5_go_0])], [], [], [])
set_option maxRecDepth 100000 in
theorem zv_X11_runToStop_0 : zmeth zkds zk_X11_runToStop_0 zm_X11_runToStop_0 200000 1 = true := by decide +kernel
theorem zp_X11_runToStop_0 (l : Launch) : zMet zkds vwCl zTW zKP l zk_X11_runToStop_0 := z_met zkp_ok zTW_good zk_X11_runToStop_0 zm_X11_runToStop_0 200000 1 (by decide +kernel) (by decide +kernel) (by decide +kernel) zv_X11_runToStop_0 zd_X11_runToStop (List.forall_mem_cons.mpr ⟨zf_RX11_10, (List.forall_mem_cons.mpr ⟨zf_RX11_30, (List.forall_mem_nil _)⟩)⟩) ⟨(List.forall_mem_nil _), (List.forall_mem_nil _)⟩ (List.forall_mem_cons.mpr ⟨ze_X11_runToStop_0_5 l, (List.forall_mem_cons.mpr ⟨ze_X11_runToStop_0_14 l, (List.forall_mem_cons.mpr ⟨ze_X11_runToStop_0_39 l, (List.forall_mem_cons.mpr ⟨ze_X11_runToStop_0_48 l, (List.forall_mem_nil _)⟩)⟩)⟩)⟩) (List.forall_mem_nil _)
def zc_X11_stop : List (Nat × Jvm.ClassFile.Instr × Nat) := [(0, .aload_n 0, 1), (1, .iload_n 1, 1), (2, .iload_n 2, 1), (3, .invokevirtual 185, 3), (6, .ifCond .eq 13, 3), (9, .aload_n 0, 1), (10, .getfield 30, 3), (13, .getfield 189, 3), (16, .goto 4, 3), (19, .iconst (-1), 1), (20, .ireturn, 1)]
theorem zd_X11_stop : ∀ q ∈ zc_X11_stop, decode cX11_stop q.1 = .ok (q.2.1, q.2.2) := by decide +kernel
set_option maxRecDepth 100000 in
theorem zq_X11_stop : lw_tbl[914]? = some (.code yX11_stop cX11_stop 3 (some .int)) := rfl
theorem zw_X11_stop : zMV yX11_stop cX11_stop 3 (some .int) 2 := ⟨⟨zTin 101 (by decide +kernel) rfl, zTin 914 zq_X11_stop rfl, ⟨by decide, by decide⟩, by decide +kernel⟩, zTin 912 (by decide +kernel) rfl, zTin 913 (by decide +kernel) rfl⟩
def zk_X11_stop_0 : zCT := ((yX11_stop, cX11_stop, 3, (some .int)), (7, 170), ([(65, 1, 0), (0, 2, 0), (0, 3, 0)], ([(0, 0), (0, 2147483647), ((-2147483648), 2147483647), ((-2147483648), 2147483647)], [(0, (65, 1, 0)), (1, (0, 2, 0)), (2, (0, 3, 0))], [], [], [])), [([(0, 0), (0, 2147483647), ((-2147483648), 2147483647), ((-2147483648), 2147483647)], [], [(0, 0, (-1))], [], []), ([(0, 0), (0, 2147483647), (0, 1), (0, 1), (0, 30)], [], [(0, 4, 0)], [], [])], [(35, 0, 5), (36, 0, 5), (37, 0, 5), (38, 0, 5), (39, 0, 5), (40, 0, 5), (41, 6, 7), (42, 0, 5), (43, 0, 5), (44, 0, 5), (46, 0, 1), (46, 6, 14)])
theorem zr_X11_stop_0 : zRC zkds vwCl zk_X11_stop_0 2 := ⟨by decide +kernel, (65, 1, 0), [(0, 2, 0), (0, 3, 0)], _, TX11, 7, rfl, by decide, by decide +kernel, zkd_63, rfl, rfl⟩
theorem zl_RX11_185 : Cond.methodLink RX11 185 yX11_runToStop ∈ zTW := zTin 915 (by decide +kernel) rfl
theorem zt_X11_stop_3 : decode cX11_stop 3 = .ok (.invokevirtual 185, 3) := by decide +kernel
theorem ze_X11_stop_0_3 (l : Launch) : ∀ C' ∈ [zk_X11_runToStop_0], zMet zkds vwCl zTW zKP l C' ∧ (zCV zkds vwCl zTW RX11 cX11_stop 7 170 3 C' ∨ zCS zTW RX11 cX11_stop 7 170 3 C') := (List.forall_mem_cons.mpr ⟨⟨zp_X11_runToStop_0 l, Or.inl (zcv_2 zw_X11_runToStop zr_X11_runToStop_0 185 zt_X11_stop_3 zl_RX11_185 (by decide +kernel) (by decide +kernel))⟩, (List.forall_mem_nil _)⟩)
def zm_X11_stop_0 : zMD := (zc_X11_stop, [(30, 11, 3, none), (189, 5, 6, some .int)], ([], []), [(3, [zk_X11_runToStop_0])], [], [], [])
set_option maxRecDepth 100000 in
theorem zv_X11_stop_0 : zmeth zkds zk_X11_stop_0 zm_X11_stop_0 200000 1 = true := by decide +kernel
theorem zp_X11_stop_0 (l : Launch) : zMet zkds vwCl zTW zKP l zk_X11_stop_0 := z_met zkp_ok zTW_good zk_X11_stop_0 zm_X11_stop_0 200000 1 (by decide +kernel) (by decide +kernel) (by decide +kernel) zv_X11_stop_0 zd_X11_stop (List.forall_mem_cons.mpr ⟨zf_RX11_30, (List.forall_mem_cons.mpr ⟨zf_RX11_189, (List.forall_mem_nil _)⟩)⟩) ⟨(List.forall_mem_nil _), (List.forall_mem_nil _)⟩ (List.forall_mem_cons.mpr ⟨ze_X11_stop_0_3 l, (List.forall_mem_nil _)⟩) (List.forall_mem_nil _)
def zc_X5_richestBoat : List (Nat × Jvm.ClassFile.Instr × Nat) := [(0, .iconst (-1), 1), (1, .istore_n 1, 1), (2, .iconst 0, 1), (3, .istore_n 2, 1), (4, .iload_n 2, 1), (5, .aload_n 0, 1), (6, .getfield 31, 3), (9, .getfield 191, 3), (12, .if_icmp .ge 31, 3), (15, .iload_n 1, 1), (16, .iconst (-1), 1), (17, .if_icmp .eq 18, 3), (20, .aload_n 0, 1), (21, .getfield 22, 3), (24, .iload_n 2, 1), (25, .iaload, 1), (26, .aload_n 0, 1), (27, .getfield 22, 3), (30, .iload_n 1, 1), (31, .iaload, 1), (32, .if_icmp .le 5, 3), (35, .iload_n 2, 1), (36, .istore_n 1, 1), (37, .iinc 2 1, 3), (40, .goto (-36), 3), (43, .iload_n 1, 1), (44, .ireturn, 1)]
theorem zd_X5_richestBoat : ∀ q ∈ zc_X5_richestBoat, decode cX5_richestBoat q.1 = .ok (q.2.1, q.2.2) := by decide +kernel
set_option maxRecDepth 100000 in
theorem zq_X5_richestBoat : lw_tbl[1252]? = some (.code yX5_richestBoat cX5_richestBoat 3 (some .int)) := rfl
theorem zw_X5_richestBoat : zMV yX5_richestBoat cX5_richestBoat 3 (some .int) 0 := ⟨⟨zTin 108 (by decide +kernel) rfl, zTin 1252 zq_X5_richestBoat rfl, ⟨by decide, by decide⟩, by decide +kernel⟩, zTin 1250 (by decide +kernel) rfl, zTin 1251 (by decide +kernel) rfl⟩
def zk_X5_richestBoat_0 : zCT := ((yX5_richestBoat, cX5_richestBoat, 3, (some .int)), (0, 0), ([(48, 1, 0)], ([(0, 0), (0, 2147483647), (0, 2147483647), (0, 2147483647)], [(0, (48, 1, 0))], [], [((46, 1), 0, (17, 2, 0)), ((46, 1), 1, (20, 3, 0))], [])), [([(0, 0), (0, 2147483647), (0, 2147483647), (0, 2147483647), ((-1), 5)], [], [(0, 4, 0)], [((46, 1), 0, (17, 2, 0)), ((46, 1), 1, (20, 3, 0))], [])], [])
theorem zr_X5_richestBoat_0 : zRC zkds vwCl zk_X5_richestBoat_0 0 := ⟨by decide +kernel, (48, 1, 0), [], _, TX5, 16, rfl, by decide, by decide +kernel, zkd_46, rfl, rfl⟩
def zm_X5_richestBoat_0 : zMD := (zc_X5_richestBoat, [(22, 5, 4, none), (31, 5, 0, some (.object "ShoalClaims$Sea")), (191, 6, 10, some .int)], ([], []), [], [], [(4, ([(0, 0), (0, 2147483647), (0, 2147483647), (0, 2147483647), ((-1), 5), (0, 6)], [(0, (48, 1, 0)), (1, (0, 4, 0)), (2, (0, 5, 0))], [], [((46, 1), 0, (17, 2, 0)), ((46, 1), 1, (20, 3, 0))], []), (10990718231248902, [(5, (-1))]))], [])
set_option maxRecDepth 100000 in
theorem zv_X5_richestBoat_0 : zmeth zkds zk_X5_richestBoat_0 zm_X5_richestBoat_0 200000 10990718231248909 = true := by decide +kernel
theorem zp_X5_richestBoat_0 (l : Launch) : zMet zkds vwCl zTW zKP l zk_X5_richestBoat_0 := z_met zkp_ok zTW_good zk_X5_richestBoat_0 zm_X5_richestBoat_0 200000 10990718231248909 (by decide +kernel) (by decide +kernel) (by decide +kernel) zv_X5_richestBoat_0 zd_X5_richestBoat (List.forall_mem_cons.mpr ⟨zf_RX5_22, (List.forall_mem_cons.mpr ⟨zf_RX5_31, (List.forall_mem_cons.mpr ⟨zf_RX5_191, (List.forall_mem_nil _)⟩)⟩)⟩) ⟨(List.forall_mem_nil _), (List.forall_mem_nil _)⟩ (List.forall_mem_nil _) (List.forall_mem_nil _)
def zc_X5_luck : List (Nat × Jvm.ClassFile.Instr × Nat) := [(0, .aload_n 0, 1), (1, .invokevirtual 194, 3), (4, .istore_n 1, 1), (5, .iload_n 1, 1), (6, .iconst (-1), 1), (7, .if_icmp .ne 5, 3), (10, .iconst 0, 1), (11, .ireturn, 1), (12, .aload_n 0, 1), (13, .getfield 22, 3), (16, .iload_n 1, 1), (17, .iaload, 1), (18, .istore_n 2, 1), (19, .iconst 0, 1), (20, .istore_n 3, 1), (21, .iload_n 3, 1), (22, .aload_n 0, 1), (23, .getfield 31, 3), (26, .getfield 191, 3), (29, .if_icmp .ge 20, 3), (32, .iload_n 2, 1), (33, .aload_n 0, 1), (34, .getfield 22, 3), (37, .iload_n 3, 1), (38, .iaload, 1), (39, .invokestatic 64, 3), (42, .istore_n 2, 1), (43, .iinc 3 1, 3), (46, .goto (-25), 3), (49, .aload_n 0, 1), (50, .getfield 22, 3), (53, .iload_n 1, 1), (54, .iaload, 1), (55, .iload_n 2, 1), (56, .isub, 1), (57, .ireturn, 1)]
theorem zd_X5_luck : ∀ q ∈ zc_X5_luck, decode cX5_luck q.1 = .ok (q.2.1, q.2.2) := by decide +kernel
set_option maxRecDepth 100000 in
theorem zq_X5_luck : lw_tbl[1248]? = some (.code yX5_luck cX5_luck 4 (some .int)) := rfl
theorem zw_X5_luck : zMV yX5_luck cX5_luck 4 (some .int) 0 := ⟨⟨zTin 108 (by decide +kernel) rfl, zTin 1248 zq_X5_luck rfl, ⟨by decide, by decide⟩, by decide +kernel⟩, zTin 1246 (by decide +kernel) rfl, zTin 1247 (by decide +kernel) rfl⟩
def zk_X5_luck_0 : zCT := ((yX5_luck, cX5_luck, 4, (some .int)), (1, 22), ([(48, 1, 0)], ([(0, 0), (0, 2147483647), (0, 2147483647), (0, 2147483647)], [(0, (48, 1, 0))], [], [((46, 1), 0, (17, 2, 0)), ((46, 1), 1, (20, 3, 0))], [])), [([(0, 0), (0, 2147483647), (0, 2147483647), (0, 2147483647)], [], [(0, 0, 0)], [((46, 1), 0, (17, 2, 0)), ((46, 1), 1, (20, 3, 0))], []), ([(0, 0), (0, 2147483647), (0, 2147483647), (0, 2147483647), ((-2147483648), 2147483647)], [], [(0, 4, 0)], [((46, 1), 0, (17, 2, 0)), ((46, 1), 1, (20, 3, 0))], [])], [])
theorem zr_X5_luck_0 : zRC zkds vwCl zk_X5_luck_0 0 := ⟨by decide +kernel, (48, 1, 0), [], _, TX5, 16, rfl, by decide, by decide +kernel, zkd_46, rfl, rfl⟩
theorem zl_RX5_194 : Cond.methodLink RX5 194 yX5_richestBoat ∈ zTW := zTin 1249 (by decide +kernel) rfl
theorem zt_X5_luck_1 : decode cX5_luck 1 = .ok (.invokevirtual 194, 3) := by decide +kernel
theorem ze_X5_luck_0_1 (l : Launch) : ∀ C' ∈ [zk_X5_richestBoat_0], zMet zkds vwCl zTW zKP l C' ∧ (zCV zkds vwCl zTW RX5 cX5_luck 1 22 1 C' ∨ zCS zTW RX5 cX5_luck 1 22 1 C') := (List.forall_mem_cons.mpr ⟨⟨zp_X5_richestBoat_0 l, Or.inl (zcv_2 zw_X5_richestBoat zr_X5_richestBoat_0 194 zt_X5_luck_1 zl_RX5_194 (by decide +kernel) (by decide +kernel))⟩, (List.forall_mem_nil _)⟩)
theorem zt_X5_luck_39 : decode cX5_luck 39 = .ok (.invokestatic 64, 3) := by decide +kernel
def zm_X5_luck_0 : zMD := (zc_X5_luck, [(22, 5, 4, none), (31, 5, 0, some (.object "ShoalClaims$Sea")), (191, 6, 10, some .int)], ([], []), [(1, [zk_X5_richestBoat_0])], [(39, 3, zo_min)], [(21, ([(0, 0), (0, 2147483647), (0, 2147483647), (0, 2147483647), (0, 5), ((-2147483648), 2147483647), (0, 6), (0, 2147483647)], [(0, (48, 1, 0)), (1, (0, 4, 0)), (2, (0, 5, 0)), (3, (0, 6, 0))], [], [((46, 1), 4, (45, 7, 0)), ((46, 1), 0, (17, 2, 0)), ((46, 1), 1, (20, 3, 0))], []), (10972026533576710, [(6, (-1))]))], [])
set_option maxRecDepth 100000 in
theorem zv_X5_luck_0 : zmeth zkds zk_X5_luck_0 zm_X5_luck_0 200000 10972026533576717 = true := by decide +kernel
theorem zp_X5_luck_0 (l : Launch) : zMet zkds vwCl zTW zKP l zk_X5_luck_0 := z_met zkp_ok zTW_good zk_X5_luck_0 zm_X5_luck_0 200000 10972026533576717 (by decide +kernel) (by decide +kernel) (by decide +kernel) zv_X5_luck_0 zd_X5_luck (List.forall_mem_cons.mpr ⟨zf_RX5_22, (List.forall_mem_cons.mpr ⟨zf_RX5_31, (List.forall_mem_cons.mpr ⟨zf_RX5_191, (List.forall_mem_nil _)⟩)⟩)⟩) ⟨(List.forall_mem_nil _), (List.forall_mem_nil _)⟩ (List.forall_mem_cons.mpr ⟨ze_X5_luck_0_1 l, (List.forall_mem_nil _)⟩) (List.forall_mem_cons.mpr ⟨z_spmin zt_X5_luck_39 zl_RX5_64 zms_min zmi zmc_min (by decide +kernel) (by decide +kernel), (List.forall_mem_nil _)⟩)
def zc_X7_fishThere : List (Nat × Jvm.ClassFile.Instr × Nat) := [(0, .iconst 0, 1), (1, .istore_n 1, 1), (2, .iconst 0, 1), (3, .istore_n 2, 1), (4, .iload_n 2, 1), (5, .bipush 6, 2), (7, .if_icmp .ge 30, 3), (10, .iload_n 1, 1), (11, .aload_n 0, 1), (12, .iload_n 2, 1), (13, .invokevirtual 55, 3), (16, .ifCond .eq 12, 3), (19, .aload_n 0, 1), (20, .getfield 15, 3), (23, .iload_n 2, 1), (24, .iaload, 1), (25, .goto 4, 3), (28, .iconst 0, 1), (29, .iadd, 1), (30, .istore_n 1, 1), (31, .iinc 2 1, 3), (34, .goto (-30), 3), (37, .iload_n 1, 1), (38, .ireturn, 1)]
theorem zd_X7_fishThere : ∀ q ∈ zc_X7_fishThere, decode cX7_fishThere q.1 = .ok (q.2.1, q.2.2) := by decide +kernel
set_option maxRecDepth 100000 in
theorem zq_X7_fishThere : lw_tbl[1256]? = some (.code yX7_fishThere cX7_fishThere 3 (some .int)) := rfl
theorem zw_X7_fishThere : zMV yX7_fishThere cX7_fishThere 3 (some .int) 0 := ⟨⟨zTin 109 (by decide +kernel) rfl, zTin 1256 zq_X7_fishThere rfl, ⟨by decide, by decide⟩, by decide +kernel⟩, zTin 1254 (by decide +kernel) rfl, zTin 1255 (by decide +kernel) rfl⟩
def zk_X7_fishThere_0 : zCT := ((yX7_fishThere, cX7_fishThere, 3, (some .int)), (1, 21), ([(43, 1, 0)], ([(0, 0), (0, 2147483647)], [(0, (43, 1, 0))], [], [], [])), [([(0, 0), (0, 2147483647), ((-2147483648), 2147483647)], [], [(0, 2, 0)], [], [])], [])
theorem zr_X7_fishThere_0 : zRC zkds vwCl zk_X7_fishThere_0 0 := ⟨by decide +kernel, (43, 1, 0), [], _, TX7, 8, rfl, by decide, by decide +kernel, zkd_41, rfl, rfl⟩
theorem zt_X7_fishThere_13 : decode cX7_fishThere 13 = .ok (.invokevirtual 55, 3) := by decide +kernel
theorem ze_X7_fishThere_0_13 (l : Launch) : ∀ C' ∈ [zk_X7_isThere_0], zMet zkds vwCl zTW zKP l C' ∧ (zCV zkds vwCl zTW RX7 cX7_fishThere 1 21 13 C' ∨ zCS zTW RX7 cX7_fishThere 1 21 13 C') := (List.forall_mem_cons.mpr ⟨⟨zp_X7_isThere_0 l, Or.inl (zcv_2 zw_X7_isThere zr_X7_isThere_0 55 zt_X7_fishThere_13 zl_RX7_55 (by decide +kernel) (by decide +kernel))⟩, (List.forall_mem_nil _)⟩)
def zm_X7_fishThere_0 : zMD := (zc_X7_fishThere, [(15, 7, 1, none)], ([], []), [(13, [zk_X7_isThere_0])], [], [(4, ([(0, 0), (0, 2147483647), ((-2147483648), 2147483647), (0, 6)], [(0, (43, 1, 0)), (1, (0, 2, 0)), (2, (0, 3, 0))], [], [], []), (10990718231248902, [(3, (-1))]))], [])
set_option maxRecDepth 100000 in
theorem zv_X7_fishThere_0 : zmeth zkds zk_X7_fishThere_0 zm_X7_fishThere_0 200000 10990718231248909 = true := by decide +kernel
theorem zp_X7_fishThere_0 (l : Launch) : zMet zkds vwCl zTW zKP l zk_X7_fishThere_0 := z_met zkp_ok zTW_good zk_X7_fishThere_0 zm_X7_fishThere_0 200000 10990718231248909 (by decide +kernel) (by decide +kernel) (by decide +kernel) zv_X7_fishThere_0 zd_X7_fishThere (List.forall_mem_cons.mpr ⟨zf_RX7_15, (List.forall_mem_nil _)⟩) ⟨(List.forall_mem_nil _), (List.forall_mem_nil _)⟩ (List.forall_mem_cons.mpr ⟨ze_X7_fishThere_0_13 l, (List.forall_mem_nil _)⟩) (List.forall_mem_nil _)
end
section
def zk_J7_fill_53178_3 : zCT := ((yJ7_fill_53178, cJ7_fill_53178, 4, none), (0, 0), ([(47, 1, 0), (0, 2, 0)], ([(0, 0), (0, 2147483647), (0, 0)], [(0, (47, 1, 0)), (1, (0, 2, 0))], [], [], [])), [([(0, 0), (0, 2147483647), (0, 0)], [], [], [], [])], [(45, 0, 2)])
def zm_J7_fill_53178_3 : zMD := (zc_J7_fill_53178, [], ([], []), [], [], [(5, ([(0, 0), (0, 2147483647), (0, 0), (0, 3)], [(0, (47, 1, 0)), (1, (0, 2, 0)), (2, (0, 3, 0)), (3, (0, 0, 3))], [], [], []), (10989618719621123, [(3, (-1))]))], [])
set_option maxRecDepth 100000 in
theorem zv_J7_fill_53178_3 : zmeth zkds zk_J7_fill_53178_3 zm_J7_fill_53178_3 200000 10989618719621127 = true := by decide +kernel
theorem zp_J7_fill_53178_3 (l : Launch) : zMet zkds vwCl zTW zKP l zk_J7_fill_53178_3 := z_met zkp_ok zTW_good zk_J7_fill_53178_3 zm_J7_fill_53178_3 200000 10989618719621127 (by decide +kernel) (by decide +kernel) (by decide +kernel) zv_J7_fill_53178_3 zd_J7_fill_53178 (List.forall_mem_nil _) ⟨(List.forall_mem_nil _), (List.forall_mem_nil _)⟩ (List.forall_mem_nil _) (List.forall_mem_nil _)
def zc_X5_richestCoast : List (Nat × Jvm.ClassFile.Instr × Nat) := [(0, .aload_n 0, 1), (1, .getfield 28, 3), (4, .iconst 0, 1), (5, .invokestatic 197, 3), (8, .iconst 0, 1), (9, .istore_n 1, 1), (10, .iload_n 1, 1), (11, .aload_n 0, 1), (12, .getfield 31, 3), (15, .getfield 191, 3), (18, .if_icmp .ge 32, 3), (21, .aload_n 0, 1), (22, .getfield 28, 3), (25, .aload_n 0, 1), (26, .getfield 31, 3), (29, .getfield 203, 3), (32, .iload_n 1, 1), (33, .iaload, 1), (34, .dup2, 1), (35, .iaload, 1), (36, .aload_n 0, 1), (37, .getfield 22, 3), (40, .iload_n 1, 1), (41, .iaload, 1), (42, .iadd, 1), (43, .iastore, 1), (44, .iinc 1 1, 3), (47, .goto (-37), 3), (50, .iconst 0, 1), (51, .istore_n 1, 1), (52, .iconst 1, 1), (53, .istore_n 2, 1), (54, .iload_n 2, 1), (55, .iconst 3, 1), (56, .if_icmp .ge 26, 3), (59, .aload_n 0, 1), (60, .getfield 28, 3), (63, .iload_n 2, 1), (64, .iaload, 1), (65, .aload_n 0, 1), (66, .getfield 28, 3), (69, .iload_n 1, 1), (70, .iaload, 1), (71, .if_icmp .le 5, 3), (74, .iload_n 2, 1), (75, .istore_n 1, 1), (76, .iinc 2 1, 3), (79, .goto (-25), 3), (82, .iload_n 1, 1), (83, .ireturn, 1)]
theorem zd_X5_richestCoast : ∀ q ∈ zc_X5_richestCoast, decode cX5_richestCoast q.1 = .ok (q.2.1, q.2.2) := by decide +kernel
set_option maxRecDepth 100000 in
theorem zq_X5_richestCoast : lw_tbl[1260]? = some (.code yX5_richestCoast cX5_richestCoast 3 (some .int)) := rfl
theorem zw_X5_richestCoast : zMV yX5_richestCoast cX5_richestCoast 3 (some .int) 0 := ⟨⟨zTin 108 (by decide +kernel) rfl, zTin 1260 zq_X5_richestCoast rfl, ⟨by decide, by decide⟩, by decide +kernel⟩, zTin 1258 (by decide +kernel) rfl, zTin 1259 (by decide +kernel) rfl⟩
theorem zf_RX5_28 : zFok RX5 zTW vwCl (28, 5, 15, none) := ⟨RX5, TX5, 16, rfl, zx_5, by decide, zTin 458 (by decide +kernel) rfl, fun _ h => by cases h⟩
theorem zf_RX5_203 : zFok RX5 zTW vwCl (203, 6, 13, none) := ⟨RX6, TX6, 15, rfl, zx_6, by decide, zTin 214 (by decide +kernel) rfl, fun _ h => by cases h⟩
def zk_X5_richestCoast_0 : zCT := ((yX5_richestCoast, cX5_richestCoast, 3, (some .int)), (1, 23), ([(48, 1, 0)], ([(0, 0), (0, 2147483647), (0, 2147483647), (0, 2147483647)], [(0, (48, 1, 0))], [], [((46, 1), 0, (17, 2, 0)), ((46, 1), 1, (20, 3, 0))], [])), [([(0, 0), (0, 2147483647), (0, 2147483647), (0, 2147483647), (0, 2)], [], [(0, 4, 0)], [((46, 1), 0, (17, 2, 0)), ((46, 1), 1, (20, 3, 0))], [])], [(45, 0, 2)])
theorem zr_X5_richestCoast_0 : zRC zkds vwCl zk_X5_richestCoast_0 0 := ⟨by decide +kernel, (48, 1, 0), [], _, TX5, 16, rfl, by decide, by decide +kernel, zkd_46, rfl, rfl⟩
theorem zl_RX5_197 : Cond.methodLink RX5 197 yJ7_fill_53178 ∈ zTW := zTin 1261 (by decide +kernel) rfl
theorem zt_X5_richestCoast_5 : decode cX5_richestCoast 5 = .ok (.invokestatic 197, 3) := by decide +kernel
theorem ze_X5_richestCoast_0_5 (l : Launch) : ∀ C' ∈ [zk_J7_fill_53178_3], zMet zkds vwCl zTW zKP l C' ∧ (zCV zkds vwCl zTW RX5 cX5_richestCoast 1 23 5 C' ∨ zCS zTW RX5 cX5_richestCoast 1 23 5 C') := (List.forall_mem_cons.mpr ⟨⟨zp_J7_fill_53178_3 l, Or.inr (zcs_of zw_J7_fill_53178 197 zt_X5_richestCoast_5 zl_RX5_197 (by decide +kernel) (by decide +kernel) (by decide +kernel))⟩, (List.forall_mem_nil _)⟩)
def zm_X5_richestCoast_0 : zMD := (zc_X5_richestCoast, [(22, 5, 4, none), (28, 5, 15, none), (31, 5, 0, some (.object "ShoalClaims$Sea")), (191, 6, 10, some .int), (203, 6, 13, none)], ([], []), [(5, [zk_J7_fill_53178_3])], [], [(10, ([(0, 0), (0, 2147483647), (0, 2147483647), (0, 2147483647), (0, 6), (0, 2147483647)], [(0, (48, 1, 0)), (1, (0, 4, 0))], [], [((46, 1), 15, (47, 5, 0)), ((46, 1), 0, (17, 2, 0)), ((46, 1), 1, (20, 3, 0))], []), (10984121161482246, [(4, (-1))])), (54, ([(0, 0), (0, 2147483647), (0, 2147483647), (0, 2147483647), (0, 2), (1, 3), (0, 6), (0, 2147483647)], [(0, (48, 1, 0)), (1, (0, 4, 0)), (2, (0, 5, 0))], [], [((15, 2), 10, (0, 6, 0)), ((46, 1), 15, (47, 7, 0)), ((46, 1), 0, (17, 2, 0)), ((46, 1), 1, (20, 3, 0))], []), (10935742649860099, [(5, (-1))]))], [])
set_option maxRecDepth 100000 in
theorem zv_X5_richestCoast_0 : zmeth zkds zk_X5_richestCoast_0 zm_X5_richestCoast_0 200000 10984121161482253 = true := by decide +kernel
theorem zp_X5_richestCoast_0 (l : Launch) : zMet zkds vwCl zTW zKP l zk_X5_richestCoast_0 := z_met zkp_ok zTW_good zk_X5_richestCoast_0 zm_X5_richestCoast_0 200000 10984121161482253 (by decide +kernel) (by decide +kernel) (by decide +kernel) zv_X5_richestCoast_0 zd_X5_richestCoast (List.forall_mem_cons.mpr ⟨zf_RX5_22, (List.forall_mem_cons.mpr ⟨zf_RX5_28, (List.forall_mem_cons.mpr ⟨zf_RX5_31, (List.forall_mem_cons.mpr ⟨zf_RX5_191, (List.forall_mem_cons.mpr ⟨zf_RX5_203, (List.forall_mem_nil _)⟩)⟩)⟩)⟩)⟩) ⟨(List.forall_mem_nil _), (List.forall_mem_nil _)⟩ (List.forall_mem_cons.mpr ⟨ze_X5_richestCoast_0_5 l, (List.forall_mem_nil _)⟩) (List.forall_mem_nil _)
def zc_X11_sum : List (Nat × Jvm.ClassFile.Instr × Nat) := [(0, .aload_n 0, 1), (1, .iload_n 1, 1), (2, .iload_n 2, 1), (3, .invokevirtual 185, 3), (6, .ifCond .ne 6, 3), (9, .bipush (-2), 2), (11, .ireturn, 1), (12, .iload_n 3, 1), (13, .tableswitch 66 0 3 #[31, 39, 50, 58], 31), (44, .aload_n 0, 1), (45, .getfield 30, 3), (48, .invokevirtual 363, 3), (51, .ireturn, 1), (52, .aload_n 0, 1), (53, .getfield 30, 3), (56, .getfield 196, 3), (59, .invokevirtual 366, 3), (62, .ireturn, 1), (63, .aload_n 0, 1), (64, .getfield 30, 3), (67, .invokevirtual 369, 3), (70, .ireturn, 1), (71, .aload_n 0, 1), (72, .getfield 30, 3), (75, .invokevirtual 372, 3), (78, .ireturn, 1), (79, .bipush (-2), 2), (81, .ireturn, 1)]
theorem zd_X11_sum : ∀ q ∈ zc_X11_sum, decode cX11_sum q.1 = .ok (q.2.1, q.2.2) := by decide +kernel
set_option maxRecDepth 100000 in
theorem zq_X11_sum : lw_tbl[1244]? = some (.code yX11_sum cX11_sum 4 (some .int)) := rfl
theorem zw_X11_sum : zMV yX11_sum cX11_sum 4 (some .int) 3 := ⟨⟨zTin 101 (by decide +kernel) rfl, zTin 1244 zq_X11_sum rfl, ⟨by decide, by decide⟩, by decide +kernel⟩, zTin 1242 (by decide +kernel) rfl, zTin 1243 (by decide +kernel) rfl⟩
def zk_X11_sum_0 : zCT := ((yX11_sum, cX11_sum, 4, (some .int)), (7, 170), ([(65, 1, 0), (0, 2, 0), (0, 3, 0), (0, 4, 0)], ([(0, 0), (0, 2147483647), ((-2147483648), 2147483647), ((-2147483648), 2147483647), ((-2147483648), 2147483647)], [(0, (65, 1, 0)), (1, (0, 2, 0)), (2, (0, 3, 0)), (3, (0, 4, 0))], [], [], [])), [([(0, 0), (0, 2147483647), ((-2147483648), 2147483647), ((-2147483648), 2147483647), ((-2147483648), 2147483647)], [], [(0, 0, (-2))], [], []), ([(0, 0), (0, 2147483647), (0, 1), (0, 1), (0, 3), ((-2147483648), 2147483647)], [], [(0, 5, 0)], [], []), ([(0, 0), (0, 2147483647), (0, 1), (0, 1), (0, 0)], [], [(0, 0, 0)], [], [])], [(35, 0, 5), (36, 0, 5), (37, 0, 5), (38, 0, 5), (39, 0, 5), (40, 0, 5), (41, 6, 7), (42, 0, 5), (43, 0, 5), (44, 0, 5), (45, 0, 2), (46, 0, 1), (46, 6, 14)])
theorem zr_X11_sum_0 : zRC zkds vwCl zk_X11_sum_0 3 := ⟨by decide +kernel, (65, 1, 0), [(0, 2, 0), (0, 3, 0), (0, 4, 0)], _, TX11, 7, rfl, by decide, by decide +kernel, zkd_63, rfl, rfl⟩
theorem zt_X11_sum_3 : decode cX11_sum 3 = .ok (.invokevirtual 185, 3) := by decide +kernel
theorem ze_X11_sum_0_3 (l : Launch) : ∀ C' ∈ [zk_X11_runToStop_0], zMet zkds vwCl zTW zKP l C' ∧ (zCV zkds vwCl zTW RX11 cX11_sum 7 170 3 C' ∨ zCS zTW RX11 cX11_sum 7 170 3 C') := (List.forall_mem_cons.mpr ⟨⟨zp_X11_runToStop_0 l, Or.inl (zcv_2 zw_X11_runToStop zr_X11_runToStop_0 185 zt_X11_sum_3 zl_RX11_185 (by decide +kernel) (by decide +kernel))⟩, (List.forall_mem_nil _)⟩)
theorem zl_RX11_363 : Cond.methodLink RX11 363 yX5_luck ∈ zTW := zTin 1245 (by decide +kernel) rfl
theorem zt_X11_sum_48 : decode cX11_sum 48 = .ok (.invokevirtual 363, 3) := by decide +kernel
theorem ze_X11_sum_0_48 (l : Launch) : ∀ C' ∈ [zk_X5_luck_0], zMet zkds vwCl zTW zKP l C' ∧ (zCV zkds vwCl zTW RX11 cX11_sum 7 170 48 C' ∨ zCS zTW RX11 cX11_sum 7 170 48 C') := (List.forall_mem_cons.mpr ⟨⟨zp_X5_luck_0 l, Or.inl (zcv_2 zw_X5_luck zr_X5_luck_0 363 zt_X11_sum_48 zl_RX11_363 (by decide +kernel) (by decide +kernel))⟩, (List.forall_mem_nil _)⟩)
theorem zl_RX11_366 : Cond.methodLink RX11 366 yX7_fishThere ∈ zTW := zTin 1253 (by decide +kernel) rfl
theorem zt_X11_sum_59 : decode cX11_sum 59 = .ok (.invokevirtual 366, 3) := by decide +kernel
theorem ze_X11_sum_0_59 (l : Launch) : ∀ C' ∈ [zk_X7_fishThere_0], zMet zkds vwCl zTW zKP l C' ∧ (zCV zkds vwCl zTW RX11 cX11_sum 7 170 59 C' ∨ zCS zTW RX11 cX11_sum 7 170 59 C') := (List.forall_mem_cons.mpr ⟨⟨zp_X7_fishThere_0 l, Or.inl (zcv_2 zw_X7_fishThere zr_X7_fishThere_0 366 zt_X11_sum_59 zl_RX11_366 (by decide +kernel) (by decide +kernel))⟩, (List.forall_mem_nil _)⟩)
theorem zl_RX11_369 : Cond.methodLink RX11 369 yX5_richestCoast ∈ zTW := zTin 1257 (by decide +kernel) rfl
theorem zt_X11_sum_67 : decode cX11_sum 67 = .ok (.invokevirtual 369, 3) := by decide +kernel
theorem ze_X11_sum_0_67 (l : Launch) : ∀ C' ∈ [zk_X5_richestCoast_0], zMet zkds vwCl zTW zKP l C' ∧ (zCV zkds vwCl zTW RX11 cX11_sum 7 170 67 C' ∨ zCS zTW RX11 cX11_sum 7 170 67 C') := (List.forall_mem_cons.mpr ⟨⟨zp_X5_richestCoast_0 l, Or.inl (zcv_2 zw_X5_richestCoast zr_X5_richestCoast_0 369 zt_X11_sum_67 zl_RX11_369 (by decide +kernel) (by decide +kernel))⟩, (List.forall_mem_nil _)⟩)
theorem zl_RX11_372 : Cond.methodLink RX11 372 yX5_richestBoat ∈ zTW := zTin 1262 (by decide +kernel) rfl
theorem zt_X11_sum_75 : decode cX11_sum 75 = .ok (.invokevirtual 372, 3) := by decide +kernel
theorem ze_X11_sum_0_75 (l : Launch) : ∀ C' ∈ [zk_X5_richestBoat_0], zMet zkds vwCl zTW zKP l C' ∧ (zCV zkds vwCl zTW RX11 cX11_sum 7 170 75 C' ∨ zCS zTW RX11 cX11_sum 7 170 75 C') := (List.forall_mem_cons.mpr ⟨⟨zp_X5_richestBoat_0 l, Or.inl (zcv_2 zw_X5_richestBoat zr_X5_richestBoat_0 372 zt_X11_sum_75 zl_RX11_372 (by decide +kernel) (by decide +kernel))⟩, (List.forall_mem_nil _)⟩)
def zm_X11_sum_0 : zMD := (zc_X11_sum, [(30, 11, 3, none), (196, 5, 2, none)], ([], []), [(3, [zk_X11_runToStop_0]), (48, [zk_X5_luck_0]), (59, [zk_X7_fishThere_0]), (67, [zk_X5_richestCoast_0]), (75, [zk_X5_richestBoat_0])], [], [], [])
set_option maxRecDepth 100000 in
theorem zv_X11_sum_0 : zmeth zkds zk_X11_sum_0 zm_X11_sum_0 200000 1 = true := by decide +kernel
theorem zp_X11_sum_0 (l : Launch) : zMet zkds vwCl zTW zKP l zk_X11_sum_0 := z_met zkp_ok zTW_good zk_X11_sum_0 zm_X11_sum_0 200000 1 (by decide +kernel) (by decide +kernel) (by decide +kernel) zv_X11_sum_0 zd_X11_sum (List.forall_mem_cons.mpr ⟨zf_RX11_30, (List.forall_mem_cons.mpr ⟨zf_RX11_196, (List.forall_mem_nil _)⟩)⟩) ⟨(List.forall_mem_nil _), (List.forall_mem_nil _)⟩ (List.forall_mem_cons.mpr ⟨ze_X11_sum_0_3 l, (List.forall_mem_cons.mpr ⟨ze_X11_sum_0_48 l, (List.forall_mem_cons.mpr ⟨ze_X11_sum_0_59 l, (List.forall_mem_cons.mpr ⟨ze_X11_sum_0_67 l, (List.forall_mem_cons.mpr ⟨ze_X11_sum_0_75 l, (List.forall_mem_nil _)⟩)⟩)⟩)⟩)⟩) (List.forall_mem_nil _)
end
section
def zc_X11_twice : List (Nat × Jvm.ClassFile.Instr × Nat) := [(0, .aload_n 0, 1), (1, .iload_n 1, 1), (2, .iload_n 2, 1), (3, .invokevirtual 185, 3), (6, .ifCond .eq 13, 3), (9, .aload_n 0, 1), (10, .getfield 30, 3), (13, .getfield 258, 3), (16, .goto 4, 3), (19, .iconst (-1), 1), (20, .ireturn, 1)]
theorem zd_X11_twice : ∀ q ∈ zc_X11_twice, decode cX11_twice q.1 = .ok (q.2.1, q.2.2) := by decide +kernel
set_option maxRecDepth 100000 in
theorem zq_X11_twice : lw_tbl[1068]? = some (.code yX11_twice cX11_twice 3 (some .int)) := rfl
theorem zw_X11_twice : zMV yX11_twice cX11_twice 3 (some .int) 2 := ⟨⟨zTin 101 (by decide +kernel) rfl, zTin 1068 zq_X11_twice rfl, ⟨by decide, by decide⟩, by decide +kernel⟩, zTin 1066 (by decide +kernel) rfl, zTin 1067 (by decide +kernel) rfl⟩
theorem zf_RX11_258 : zFok RX11 zTW vwCl (258, 5, 7, (some .int)) := ⟨RX5, TX5, 16, rfl, zx_5, by decide, zTin 445 (by decide +kernel) rfl, fun ty h => ⟨rfl, tyX5, tyX5_ok, nmX5, by cases h; rfl⟩⟩
def zk_X11_twice_0 : zCT := ((yX11_twice, cX11_twice, 3, (some .int)), (7, 170), ([(65, 1, 0), (0, 2, 0), (0, 3, 0)], ([(0, 0), (0, 2147483647), ((-2147483648), 2147483647), ((-2147483648), 2147483647)], [(0, (65, 1, 0)), (1, (0, 2, 0)), (2, (0, 3, 0))], [], [], [])), [([(0, 0), (0, 2147483647), ((-2147483648), 2147483647), ((-2147483648), 2147483647)], [], [(0, 0, (-1))], [], []), ([(0, 0), (0, 2147483647), (0, 1), (0, 1), ((-2147483648), 2147483647)], [], [(0, 4, 0)], [], [])], [(35, 0, 5), (36, 0, 5), (37, 0, 5), (38, 0, 5), (39, 0, 5), (40, 0, 5), (41, 6, 7), (42, 0, 5), (43, 0, 5), (44, 0, 5), (46, 0, 1), (46, 6, 14)])
theorem zr_X11_twice_0 : zRC zkds vwCl zk_X11_twice_0 2 := ⟨by decide +kernel, (65, 1, 0), [(0, 2, 0), (0, 3, 0)], _, TX11, 7, rfl, by decide, by decide +kernel, zkd_63, rfl, rfl⟩
theorem zt_X11_twice_3 : decode cX11_twice 3 = .ok (.invokevirtual 185, 3) := by decide +kernel
theorem ze_X11_twice_0_3 (l : Launch) : ∀ C' ∈ [zk_X11_runToStop_0], zMet zkds vwCl zTW zKP l C' ∧ (zCV zkds vwCl zTW RX11 cX11_twice 7 170 3 C' ∨ zCS zTW RX11 cX11_twice 7 170 3 C') := (List.forall_mem_cons.mpr ⟨⟨zp_X11_runToStop_0 l, Or.inl (zcv_2 zw_X11_runToStop zr_X11_runToStop_0 185 zt_X11_twice_3 zl_RX11_185 (by decide +kernel) (by decide +kernel))⟩, (List.forall_mem_nil _)⟩)
def zm_X11_twice_0 : zMD := (zc_X11_twice, [(30, 11, 3, none), (258, 5, 7, some .int)], ([], []), [(3, [zk_X11_runToStop_0])], [], [], [])
set_option maxRecDepth 100000 in
theorem zv_X11_twice_0 : zmeth zkds zk_X11_twice_0 zm_X11_twice_0 200000 1 = true := by decide +kernel
theorem zp_X11_twice_0 (l : Launch) : zMet zkds vwCl zTW zKP l zk_X11_twice_0 := z_met zkp_ok zTW_good zk_X11_twice_0 zm_X11_twice_0 200000 1 (by decide +kernel) (by decide +kernel) (by decide +kernel) zv_X11_twice_0 zd_X11_twice (List.forall_mem_cons.mpr ⟨zf_RX11_30, (List.forall_mem_cons.mpr ⟨zf_RX11_258, (List.forall_mem_nil _)⟩)⟩) ⟨(List.forall_mem_nil _), (List.forall_mem_nil _)⟩ (List.forall_mem_cons.mpr ⟨ze_X11_twice_0_3 l, (List.forall_mem_nil _)⟩) (List.forall_mem_nil _)
set_option maxRecDepth 100000 in
theorem zq_X11_again : lw_tbl[1292]? = some (.code yX11_again cX11_again 2 (some .boolean)) := rfl
theorem zw_X11_again : zMV yX11_again cX11_again 2 (some .boolean) 1 := ⟨⟨zTin 101 (by decide +kernel) rfl, zTin 1292 zq_X11_again rfl, ⟨by decide, by decide⟩, by decide +kernel⟩, zTin 1290 (by decide +kernel) rfl, zTin 1291 (by decide +kernel) rfl⟩
theorem zf_RX11_16 : zFok RX11 zTW vwCl (16, 11, 1, none) := ⟨RX11, TX11, 7, rfl, zx_11, by decide, zTin 575 (by decide +kernel) rfl, fun _ h => by cases h⟩
end
section
variable {η : zRn}
/-! Math.abs, negation, constants, longs -/
def yAbs (P : yP) : yP := fun loc st h => match st with
  | a :: st' => a.1 = 0 ∧ st'.length ≤ 4 ∧ -2147483648 < a.2 ∧ P loc ((0, if 0 ≤ a.2 then a.2 else -a.2) :: st') h
  | _ => False
def yNeg (P : yP) : yP := fun loc st h => match st with
  | a :: st' => a.1 = 0 ∧ -2147483648 < a.2 ∧ P loc ((0, -a.2) :: st') h
  | _ => False
section YAB
variable {kds : List zKD} {D : va_G} {cl : List vw_C} {cy : Nat → ClassId} {L : List Nat} {Θ : Nat → Option Nat} {nL : Nat}
variable {p : Program} {l : Launch} {e : Env} {R : Room} {s : State} {m : MethodId} {args : Array Value} {below : List Frame} {meth : Method} {c : Code} {Q : State → Prop}
variable {cc : ByteArray} {pc : Nat} {tys : List (ClassId × FieldType)} {own : String} {TW : List Cond} {KP : zKPt} {tyf : (Nat → ClassId) → List (ClassId × FieldType)} {ret : Option FieldType} {fr lo : Nat} {Qr : yQt} {P : yP}
theorem yr_abs (Z : yCz η kds D cl cy L Θ nL p l e R s m args below meth c Q cc tys own TW KP tyf ret fr lo Qr) {idx : Nat} (hd : decode cc pc = .ok (.invokestatic idx, 3)) (h1 : Cond.methodLink own idx Lib.Math.abs.name ∈ TW) (h2 : Cond.static Lib.Math.abs.name ∈ TW) (h3 : Cond.initialized "java/lang/Math" ∈ TW) (h4 : Cond.code Lib.Math.abs.name Lib.Math.abs.code 1 (some .int) ∈ TW) (h5 : 1 ≤ fr) (h6 : 21 ≤ lo) (k : yGo η kds D cl cy L Θ nL p l e R s m args below meth c Q (pc + 3) (P)) : yGo η kds D cl cy L Θ nL p l e R s m args below meth c Q (pc) (yAbs P) := by
  intro loc st h H locs ls hp g
  unfold yAbs at hp
  split at hp
  · rename_i a st'
    obtain ⟨q1, q3, qb, q4⟩ := hp
    obtain ⟨⟨hexec, hb, hml, hts, hown, hKa, hTy, hnd⟩, -, -, -, -, ⟨hfr, hlo⟩, -⟩ := Z
    obtain ⟨x, ex, hx⟩ := y_int (η := η) (g.2.2.1 a List.mem_cons_self) q1
    have key : (if 0 ≤ x then x else 0 - x).toInt = if 0 ≤ a.2 then a.2 else -a.2 := by
      have z0 : (0 : Int32).toInt = 0 := rfl
      rw [← hx] at qb ⊢
      by_cases hlt : 0 ≤ x
      · have := Int32.le_iff_toInt_le.mp hlt
        rw [z0] at this
        rw [if_pos hlt, if_pos this]
      · have : ¬ 0 ≤ x.toInt := fun g => hlt (Int32.le_iff_toInt_le.mpr (by rw [z0]; exact g))
        rw [if_neg hlt, if_neg this, Int32.toInt_sub, z0]
        have h9 := z_hi x
        rw [Int.bmod_eq_of_le (by omega) (by omega)]
        omega
    have c8 := y_cat8 (η := η) (st := st')
    have w := yr_un (t := 0) g (by rw [← key]; exact y_i0 Θ _) q4 k
    rw [y_vi key] at w
    rw [List.map_cons, ex]
    exact va_mabs hexec hb (by rw [hml]; exact g.2.1.1.symm) hown (hts _ h1) (hts _ h2) (hts _ h3) (hts _ h4) (by omega) (by omega) (Nat.zero_le _) (Nat.zero_le _) hd w
  · exact hp.elim
theorem yr_neg (X : hCx D cl cy L p s m args c cc nL tys TW own) (hd : decode cc pc = .ok (.ineg, 1)) (k : yGo η kds D cl cy L Θ nL p l e R s m args below meth c Q (pc + 1) (P)) : yGo η kds D cl cy L Θ nL p l e R s m args below meth c Q (pc) (yNeg P) := by
  intro loc st h H locs ls hp g
  unfold yNeg at hp
  split at hp
  · rename_i a st'
    obtain ⟨q1, qb, q4⟩ := hp
    obtain ⟨x, ex, hx⟩ := y_int (η := η) (g.2.2.1 a List.mem_cons_self) q1
    have key : (-x).toInt = -a.2 := by
      have h9 := z_hi x
      have h8 := z_lo x
      rw [← hx] at qb ⊢
      rw [Int32.toInt_neg]
      exact Int.bmod_eq_of_le (by omega) (by omega)
    have w := yr_un (t := 0) g (by rw [← key]; exact y_i0 Θ _) q4 k
    rw [y_vi key] at w
    rw [List.map_cons, ex]
    exact lv_ineg X.1 X.2.1 hd w
  · exact hp.elim
theorem yr_ldcw (X : hCx D cl cy L p s m args c cc nL tys TW own) {i : Nat} {n : Int} (hd : decode cc pc = .ok (.ldc_w i, 3)) (hc : Cond.constant own i (Int32.ofInt n) ∈ TW) (hn : -2147483648 ≤ n ∧ n ≤ 2147483647) (k : yGo η kds D cl cy L Θ nL p l e R s m args below meth c Q (pc + 3) (P)) : yGo η kds D cl cy L Θ nL p l e R s m args below meth c Q (pc) (yCst 0 n P) :=
  yr_cst (y_i hn.1 hn.2) (fun _ _ _ _ w => lv_ldcw X.1 X.2.1 X.2.2.2.2.1 (X.2.2.2.1 _ hc) hd w) k
/-! sums and products that may wrap -/
end YAB
def xAbs (K : yX) : yX := fun loc st h => match st with
  | a :: st => cond (Nat.beq a.1 0) (cond (Nat.ble st.length 4) (xg (-2147483648 < a.2) (K loc ((0, if 0 ≤ a.2 then a.2 else -a.2) :: st) h)) none) none
  | _ => none
theorem x_abs {Qr : yQt} {t : Nat} {K : yX} : ∀ loc st h, xw Qr t (xAbs K) loc st h → yAbs (xw Qr t K) loc st h := by
  intro loc st h ⟨v, h2, e, q⟩
  unfold xAbs at e
  unfold yAbs
  split at e
  · rename_i a st
    obtain ⟨e1, e⟩ := xt1 e
    obtain ⟨e2, e⟩ := xt_s e
    obtain ⟨e3, e⟩ := xg_s e
    exact ⟨e1, Nat.le_of_ble_eq_true e2, e3, v, h2, e, q⟩
  · cases e
def xNeg (K : yX) : yX := fun loc st h => match st with
  | a :: st => cond (Nat.beq a.1 0) (xg (-2147483648 < a.2) (K loc ((0, -a.2) :: st) h)) none
  | _ => none
theorem x_neg {Qr : yQt} {t : Nat} {K : yX} : ∀ loc st h, xw Qr t (xNeg K) loc st h → yNeg (xw Qr t K) loc st h := by
  intro loc st h ⟨v, h2, e, q⟩
  unfold xNeg at e
  unfold yNeg
  split at e
  · rename_i a st
    obtain ⟨e1, e⟩ := xt1 e
    obtain ⟨e3, e⟩ := xg_s e
    exact ⟨e1, e3, v, h2, e, q⟩
  · cases e
/-! a reference that may be null is none: its tag is named -/
def xNm (t0 : Nat) (K : yX) : yX := fun loc st h => match st with
  | a :: st => cond (Nat.beq a.1 t0) (xg (0 ≤ a.2) (K loc ((t0 + 100000, a.2) :: st) h)) none
  | _ => none
theorem x_nm {t0 : Nat} (ht : 2 ≤ t0 ∧ t0 < 100002) {Θ : Nat → Option Nat} {Qr : yQt} {t : Nat} {K : yX} : ∀ loc st h, xw Qr t (xNm t0 K) loc st h → yNn Θ (xw Qr t K) loc st h := by
  intro loc st h ⟨v, h2, e, q⟩
  unfold xNm at e
  unfold yNn
  split at e
  · rename_i a st
    obtain ⟨a1, a2⟩ := a
    obtain ⟨e1, e⟩ := xt1 e
    obtain ⟨e2, e⟩ := xg_s e
    simp only at e1
    subst e1
    exact ⟨ht, e2, fun _ => ⟨v, h2, e, q⟩⟩
  · cases e
end
