def zc_X6_cells : List (Nat × Jvm.ClassFile.Instr × Nat) := [(0, .aload_n 0, 1), (1, .getfield 33, 3), (4, .aload_n 0, 1), (5, .getfield 37, 3), (8, .imul, 1), (9, .ireturn, 1)]
theorem zd_X6_cells : ∀ q ∈ zc_X6_cells, decode cX6_cells q.1 = .ok (q.2.1, q.2.2) := by decide +kernel
set_option maxRecDepth 100000 in
theorem zq_X6_cells : lw_tbl[797]? = some (.code yX6_cells cX6_cells 1 (some .int)) := rfl
theorem zw_X6_cells : zMV yX6_cells cX6_cells 1 (some .int) 0 := ⟨⟨zTin 104 (by decide +kernel) rfl, zTin 797 zq_X6_cells rfl, ⟨by decide, by decide⟩, by decide +kernel⟩, zTin 795 (by decide +kernel) rfl, zTin 796 (by decide +kernel) rfl⟩
theorem zf_RX6_33 : zFok RX6 zTW vwCl (33, 6, 0, (some .int)) := ⟨RX6, TX6, 15, rfl, zx_6, by decide, zTin 160 (by decide +kernel) rfl, fun ty h => ⟨rfl, tyX6, tyX6_ok, nmX6, by cases h; rfl⟩⟩
theorem zf_RX6_37 : zFok RX6 zTW vwCl (37, 6, 1, (some .int)) := ⟨RX6, TX6, 15, rfl, zx_6, by decide, zTin 163 (by decide +kernel) rfl, fun ty h => ⟨rfl, tyX6, tyX6_ok, nmX6, by cases h; rfl⟩⟩
def zk_X6_cells_0 : zCT := ((yX6_cells, cX6_cells, 1, (some .int)), (0, 0), ([(17, 1, 0)], ([(0, 0), (0, 2147483647)], [(0, (17, 1, 0))], [], [], [])), [([(0, 0), (0, 2147483647), (0, 64)], [], [(0, 2, 0)], [], [])], [])
theorem zr_X6_cells_0 : zRC zkds vwCl zk_X6_cells_0 0 := ⟨by decide +kernel, (17, 1, 0), [], _, TX6, 15, rfl, by decide, by decide +kernel, zkd_15, rfl, rfl⟩
def zm_X6_cells_0 : zMD := (zc_X6_cells, [(33, 6, 0, some .int), (37, 6, 1, some .int)], ([], []), [], [], [], [])
set_option maxRecDepth 100000 in
theorem zv_X6_cells_0 : zmeth zkds zk_X6_cells_0 zm_X6_cells_0 200000 1 = true := by decide +kernel
theorem zp_X6_cells_0 {KP : zKPt} (hKP : zKPok vwCl tyW KP) (l : Launch) : zMet zkds vwCl zTW KP l zk_X6_cells_0 := z_met hKP zTW_good zk_X6_cells_0 zm_X6_cells_0 200000 1 (by decide +kernel) (by decide +kernel) (by decide +kernel) zv_X6_cells_0 zd_X6_cells (List.forall_mem_cons.mpr ⟨zf_RX6_33, (List.forall_mem_cons.mpr ⟨zf_RX6_37, (List.forall_mem_nil _)⟩)⟩) ⟨(List.forall_mem_nil _), (List.forall_mem_nil _)⟩ (List.forall_mem_nil _) (List.forall_mem_nil _)
def zc_X6_hasCell : List (Nat × Jvm.ClassFile.Instr × Nat) := [(0, .iload_n 1, 1), (1, .ifCond .lt 15, 3), (4, .iload_n 1, 1), (5, .aload_n 0, 1), (6, .invokevirtual 64, 3), (9, .if_icmp .ge 7, 3), (12, .iconst 1, 1), (13, .goto 4, 3), (16, .iconst 0, 1), (17, .ireturn, 1)]
theorem zd_X6_hasCell : ∀ q ∈ zc_X6_hasCell, decode cX6_hasCell q.1 = .ok (q.2.1, q.2.2) := by decide +kernel
set_option maxRecDepth 100000 in
theorem zq_X6_hasCell : lw_tbl[793]? = some (.code yX6_hasCell cX6_hasCell 2 (some .boolean)) := rfl
theorem zw_X6_hasCell : zMV yX6_hasCell cX6_hasCell 2 (some .boolean) 1 := ⟨⟨zTin 104 (by decide +kernel) rfl, zTin 793 zq_X6_hasCell rfl, ⟨by decide, by decide⟩, by decide +kernel⟩, zTin 791 (by decide +kernel) rfl, zTin 792 (by decide +kernel) rfl⟩
def zk_X6_hasCell_0 : zCT := ((yX6_hasCell, cX6_hasCell, 2, (some .boolean)), (1, 20), ([(17, 1, 0), (0, 2, 0)], ([(0, 0), (0, 2147483647), ((-2147483648), 2147483647)], [(0, (17, 1, 0)), (1, (0, 2, 0))], [], [], [])), [([(0, 0), (0, 2147483647), (0, 63)], [], [(0, 0, 1)], [], []), ([(0, 0), (0, 2147483647), ((-2147483648), 2147483647)], [], [(0, 0, 0)], [], [])], [])
theorem zr_X6_hasCell_0 : zRC zkds vwCl zk_X6_hasCell_0 1 := ⟨by decide +kernel, (17, 1, 0), [(0, 2, 0)], _, TX6, 15, rfl, by decide, by decide +kernel, zkd_15, rfl, rfl⟩
theorem zl_RX6_64 : Cond.methodLink RX6 64 yX6_cells ∈ zTW := zTin 794 (by decide +kernel) rfl
theorem zt_X6_hasCell_6 : decode cX6_hasCell 6 = .ok (.invokevirtual 64, 3) := by decide +kernel
theorem ze_X6_hasCell_0_6 {KP : zKPt} (hKP : zKPok vwCl tyW KP) (l : Launch) : ∀ C' ∈ [zk_X6_cells_0], zMet zkds vwCl zTW KP l C' ∧ (zCV zkds vwCl zTW RX6 cX6_hasCell 1 20 6 C' ∨ zCS zTW RX6 cX6_hasCell 1 20 6 C') := (List.forall_mem_cons.mpr ⟨⟨zp_X6_cells_0 hKP l, Or.inl (zcv_2 zw_X6_cells zr_X6_cells_0 64 zt_X6_hasCell_6 zl_RX6_64 (by decide +kernel) (by decide +kernel))⟩, (List.forall_mem_nil _)⟩)
def zm_X6_hasCell_0 : zMD := (zc_X6_hasCell, [], ([], []), [(6, [zk_X6_cells_0])], [], [], [])
set_option maxRecDepth 100000 in
theorem zv_X6_hasCell_0 : zmeth zkds zk_X6_hasCell_0 zm_X6_hasCell_0 200000 1 = true := by decide +kernel
theorem zp_X6_hasCell_0 {KP : zKPt} (hKP : zKPok vwCl tyW KP) (l : Launch) : zMet zkds vwCl zTW KP l zk_X6_hasCell_0 := z_met hKP zTW_good zk_X6_hasCell_0 zm_X6_hasCell_0 200000 1 (by decide +kernel) (by decide +kernel) (by decide +kernel) zv_X6_hasCell_0 zd_X6_hasCell (List.forall_mem_nil _) ⟨(List.forall_mem_nil _), (List.forall_mem_nil _)⟩ (List.forall_mem_cons.mpr ⟨ze_X6_hasCell_0_6 hKP l, (List.forall_mem_nil _)⟩) (List.forall_mem_nil _)
def zc_X6_cost : List (Nat × Jvm.ClassFile.Instr × Nat) := [(0, .aload_n 0, 1), (1, .getfield 33, 3), (4, .iconst 1, 1), (5, .if_icmp .ge 5, 3), (8, .iconst 0, 1), (9, .ireturn, 1), (10, .iload_n 2, 1), (11, .aload_n 0, 1), (12, .getfield 33, 3), (15, .idiv, 1), (16, .iload_n 1, 1), (17, .aload_n 0, 1), (18, .getfield 33, 3), (21, .idiv, 1), (22, .isub, 1), (23, .istore_n 3, 1), (24, .iload_n 2, 1), (25, .aload_n 0, 1), (26, .getfield 33, 3), (29, .irem, 1), (30, .iload_n 1, 1), (31, .aload_n 0, 1), (32, .getfield 33, 3), (35, .irem, 1), (36, .isub, 1), (37, .istore 4, 2), (39, .aload_n 0, 1), (40, .getfield 40, 3), (43, .tableswitch 46 0 2 #[25, 31, 39], 25), (68, .iload_n 3, 1), (69, .istore 5, 2), (71, .goto 22, 3), (74, .iload 4, 2), (76, .ineg, 1), (77, .istore 5, 2), (79, .goto 14, 3), (82, .iload_n 3, 1), (83, .ineg, 1), (84, .istore 5, 2), (86, .goto 7, 3), (89, .iload 4, 2), (91, .istore 5, 2), (93, .iload_n 3, 1), (94, .invokestatic 76, 3), (97, .iload 4, 2), (99, .invokestatic 76, 3), (102, .iadd, 1), (103, .istore 6, 2), (105, .iload 5, 2), (107, .ifCond .le 16, 3), (110, .iload 6, 2), (112, .iload 5, 2), (114, .aload_n 0, 1), (115, .getfield 43, 3), (118, .imul, 1), (119, .iadd, 1), (120, .goto 5, 3), (123, .iload 6, 2), (125, .ireturn, 1)]
theorem zd_X6_cost : ∀ q ∈ zc_X6_cost, decode cX6_cost q.1 = .ok (q.2.1, q.2.2) := by decide +kernel
set_option maxRecDepth 100000 in
theorem zq_X6_cost : lw_tbl[860]? = some (.code yX6_cost cX6_cost 7 (some .int)) := rfl
theorem zw_X6_cost : zMV yX6_cost cX6_cost 7 (some .int) 2 := ⟨⟨zTin 104 (by decide +kernel) rfl, zTin 860 zq_X6_cost rfl, ⟨by decide, by decide⟩, by decide +kernel⟩, zTin 858 (by decide +kernel) rfl, zTin 859 (by decide +kernel) rfl⟩
theorem zf_RX6_40 : zFok RX6 zTW vwCl (40, 6, 2, (some .int)) := ⟨RX6, TX6, 15, rfl, zx_6, by decide, zTin 166 (by decide +kernel) rfl, fun ty h => ⟨rfl, tyX6, tyX6_ok, nmX6, by cases h; rfl⟩⟩
theorem zf_RX6_43 : zFok RX6 zTW vwCl (43, 6, 3, (some .int)) := ⟨RX6, TX6, 15, rfl, zx_6, by decide, zTin 170 (by decide +kernel) rfl, fun ty h => ⟨rfl, tyX6, tyX6_ok, nmX6, by cases h; rfl⟩⟩
def zk_X6_cost_0 : zCT := ((yX6_cost, cX6_cost, 7, (some .int)), (1, 21), ([(17, 1, 0), (0, 2, 0), (0, 3, 0)], ([(0, 0), (0, 2147483647), (0, 63), (0, 63)], [(0, (17, 1, 0)), (1, (0, 2, 0)), (2, (0, 3, 0))], [], [], [])), [([(0, 0), (0, 2147483647), (0, 63), (0, 63)], [], [(0, 0, 0)], [], []), ([(0, 0), (0, 2147483647), (0, 63), (0, 63), ((-2147483648), 2147483647)], [], [(0, 4, 0)], [], [])], [])
theorem zr_X6_cost_0 : zRC zkds vwCl zk_X6_cost_0 2 := ⟨by decide +kernel, (17, 1, 0), [(0, 2, 0), (0, 3, 0)], _, TX6, 15, rfl, by decide, by decide +kernel, zkd_15, rfl, rfl⟩
theorem zl_RX6_76 : Cond.methodLink RX6 76 Lib.Math.abs.name ∈ zTW := zTin 861 (by decide +kernel) rfl
theorem zmi : Cond.initialized "java/lang/Math" ∈ zTW := zTin 119 (by decide +kernel) rfl
theorem zms_abs : Cond.static Lib.Math.abs.name ∈ zTW := zTin 862 (by decide +kernel) rfl
set_option maxRecDepth 100000 in
theorem zmc_abs : Cond.code Lib.Math.abs.name Lib.Math.abs.code 1 (some .int) ∈ zTW := zTin 863 rfl rfl
theorem zt_X6_cost_94 : decode cX6_cost 94 = .ok (.invokestatic 76, 3) := by decide +kernel
theorem zt_X6_cost_99 : decode cX6_cost 99 = .ok (.invokestatic 76, 3) := by decide +kernel
def zm_X6_cost_0 : zMD := (zc_X6_cost, [(33, 6, 0, some .int), (40, 6, 2, some .int), (43, 6, 3, some .int)], ([], []), [], [(94, 3, zo_abs), (99, 3, zo_abs)], [], [])
set_option maxRecDepth 100000 in
theorem zv_X6_cost_0 : zmeth zkds zk_X6_cost_0 zm_X6_cost_0 200000 1 = true := by decide +kernel
theorem zp_X6_cost_0 {KP : zKPt} (hKP : zKPok vwCl tyW KP) (l : Launch) : zMet zkds vwCl zTW KP l zk_X6_cost_0 := z_met hKP zTW_good zk_X6_cost_0 zm_X6_cost_0 200000 1 (by decide +kernel) (by decide +kernel) (by decide +kernel) zv_X6_cost_0 zd_X6_cost (List.forall_mem_cons.mpr ⟨zf_RX6_33, (List.forall_mem_cons.mpr ⟨zf_RX6_40, (List.forall_mem_cons.mpr ⟨zf_RX6_43, (List.forall_mem_nil _)⟩)⟩)⟩) ⟨(List.forall_mem_nil _), (List.forall_mem_nil _)⟩ (List.forall_mem_nil _) (List.forall_mem_cons.mpr ⟨z_spabs zt_X6_cost_94 zl_RX6_76 zms_abs zmi zmc_abs (by decide +kernel) (by decide +kernel), (List.forall_mem_cons.mpr ⟨z_spabs zt_X6_cost_99 zl_RX6_76 zms_abs zmi zmc_abs (by decide +kernel) (by decide +kernel), (List.forall_mem_nil _)⟩)⟩)
