section
def zk_X12_of_82 : zCT := ((yX12_of, cX12_of, 2, (some .int)), (0, 0), ([(37, 1, 0), (0, 2, 0)], ([(0, 0), (0, 2147483647), (11, 11), (0, 0), (0, 2147483647), (0, 99), (0, 99)], [(0, (37, 1, 0)), (1, (0, 2, 0))], [], [((35, 1), 23, (0, 3, 0)), ((35, 1), 6, (7, 4, 0)), ((5, 4), 11, (0, 5, 0)), ((5, 4), 61, (0, 6, 0))], [])), [([(0, 0), (0, 2147483647), (11, 11), (0, 0), (0, 2147483647), (0, 99), (0, 99)], [], [(0, 5, 0)], [], [])], [])
theorem zr_X12_of_82 : zRC zkdm vwCl zk_X12_of_82 1 := ⟨by decide +kernel, (37, 1, 0), [(0, 2, 0)], _, TX12, 64, rfl, by decide, by decide +kernel, zkdm_35, rfl, rfl⟩
def zm_X12_of_82 : zMD := (zc_X12_of, [(26, 12, 6, none), (282, 12, 23, some .int)], ([], []), [], [], [], [10])
set_option maxRecDepth 100000 in
theorem zv_X12_of_82 : zmeth zkdm zk_X12_of_82 zm_X12_of_82 200000 1 = true := by decide +kernel
theorem zp_X12_of_82 (l : Launch) : zMet zkdm vwCl zTW zKPr l zk_X12_of_82 := z_met zkpr_ok zTW_good zk_X12_of_82 zm_X12_of_82 200000 1 (by decide +kernel) (by decide +kernel) (by decide +kernel) zv_X12_of_82 zd_X12_of (List.forall_mem_cons.mpr ⟨zf_RX12_26, (List.forall_mem_cons.mpr ⟨zf_RX12_282, (List.forall_mem_nil _)⟩)⟩) ⟨(List.forall_mem_nil _), (List.forall_mem_nil _)⟩ (List.forall_mem_nil _) (List.forall_mem_nil _)
def zk_X12_of_83 : zCT := ((yX12_of, cX12_of, 2, (some .int)), (0, 0), ([(37, 1, 0), (0, 2, 0)], ([(0, 0), (0, 2147483647), (15, 15), (0, 0), (0, 2147483647), (0, 99), (0, 99)], [(0, (37, 1, 0)), (1, (0, 2, 0))], [], [((35, 1), 23, (0, 3, 0)), ((35, 1), 6, (7, 4, 0)), ((5, 4), 15, (0, 5, 0)), ((5, 4), 65, (0, 6, 0))], [])), [([(0, 0), (0, 2147483647), (15, 15), (0, 0), (0, 2147483647), (0, 99), (0, 99)], [], [(0, 5, 0)], [], [])], [])
theorem zr_X12_of_83 : zRC zkdm vwCl zk_X12_of_83 1 := ⟨by decide +kernel, (37, 1, 0), [(0, 2, 0)], _, TX12, 64, rfl, by decide, by decide +kernel, zkdm_35, rfl, rfl⟩
def zm_X12_of_83 : zMD := (zc_X12_of, [(26, 12, 6, none), (282, 12, 23, some .int)], ([], []), [], [], [], [10])
set_option maxRecDepth 100000 in
theorem zv_X12_of_83 : zmeth zkdm zk_X12_of_83 zm_X12_of_83 200000 1 = true := by decide +kernel
theorem zp_X12_of_83 (l : Launch) : zMet zkdm vwCl zTW zKPr l zk_X12_of_83 := z_met zkpr_ok zTW_good zk_X12_of_83 zm_X12_of_83 200000 1 (by decide +kernel) (by decide +kernel) (by decide +kernel) zv_X12_of_83 zd_X12_of (List.forall_mem_cons.mpr ⟨zf_RX12_26, (List.forall_mem_cons.mpr ⟨zf_RX12_282, (List.forall_mem_nil _)⟩)⟩) ⟨(List.forall_mem_nil _), (List.forall_mem_nil _)⟩ (List.forall_mem_nil _) (List.forall_mem_nil _)
def zk_X12_of_84 : zCT := ((yX12_of, cX12_of, 2, (some .int)), (0, 0), ([(37, 1, 0), (0, 2, 0)], ([(0, 0), (0, 2147483647), (7, 7), (0, 0), (0, 2147483647), (0, 99), (0, 99)], [(0, (37, 1, 0)), (1, (0, 2, 0))], [], [((35, 1), 23, (0, 3, 0)), ((35, 1), 6, (7, 4, 0)), ((5, 4), 7, (0, 5, 0)), ((5, 4), 57, (0, 6, 0))], [])), [([(0, 0), (0, 2147483647), (7, 7), (0, 0), (0, 2147483647), (0, 99), (0, 99)], [], [(0, 5, 0)], [], [])], [])
theorem zr_X12_of_84 : zRC zkdm vwCl zk_X12_of_84 1 := ⟨by decide +kernel, (37, 1, 0), [(0, 2, 0)], _, TX12, 64, rfl, by decide, by decide +kernel, zkdm_35, rfl, rfl⟩
def zm_X12_of_84 : zMD := (zc_X12_of, [(26, 12, 6, none), (282, 12, 23, some .int)], ([], []), [], [], [], [10])
set_option maxRecDepth 100000 in
theorem zv_X12_of_84 : zmeth zkdm zk_X12_of_84 zm_X12_of_84 200000 1 = true := by decide +kernel
theorem zp_X12_of_84 (l : Launch) : zMet zkdm vwCl zTW zKPr l zk_X12_of_84 := z_met zkpr_ok zTW_good zk_X12_of_84 zm_X12_of_84 200000 1 (by decide +kernel) (by decide +kernel) (by decide +kernel) zv_X12_of_84 zd_X12_of (List.forall_mem_cons.mpr ⟨zf_RX12_26, (List.forall_mem_cons.mpr ⟨zf_RX12_282, (List.forall_mem_nil _)⟩)⟩) ⟨(List.forall_mem_nil _), (List.forall_mem_nil _)⟩ (List.forall_mem_nil _) (List.forall_mem_nil _)
def zk_X12_lawOf_4 : zCT := ((yX12_lawOf, cX12_lawOf, 3, (some .int)), (1, 21), ([(37, 1, 0), (0, 2, 0), (0, 3, 0)], ([(0, 0), (0, 2147483647), (0, 5), (0, 0), (0, 0)], [(0, (37, 1, 0)), (1, (0, 2, 0)), (2, (0, 3, 0))], [], [((35, 1), 23, (0, 4, 0))], [])), [([(0, 0), (0, 2147483647), (0, 5), (0, 0), (0, 0), (0, 99)], [], [(0, 5, 0)], [], [])], [])
theorem zr_X12_lawOf_4 : zRC zkdm vwCl zk_X12_lawOf_4 2 := ⟨by decide +kernel, (37, 1, 0), [(0, 2, 0), (0, 3, 0)], _, TX12, 64, rfl, by decide, by decide +kernel, zkdm_35, rfl, rfl⟩
theorem ze_X12_lawOf_4_13 (l : Launch) : ∀ C' ∈ [zk_X12_of_76, zk_X12_of_77, zk_X12_of_78, zk_X12_of_79, zk_X12_of_80, zk_X12_of_81], zMet zkdm vwCl zTW zKPr l C' ∧ (zCV zkdm vwCl zTW RX12 cX12_lawOf 1 21 13 C' ∨ zCS zTW RX12 cX12_lawOf 1 21 13 C') := (List.forall_mem_cons.mpr ⟨⟨zp_X12_of_76 l, Or.inl (zcv_2 zw_X12_of zr_X12_of_76 285 zt_X12_lawOf_13 zl_RX12_285 (by decide +kernel) (by decide +kernel))⟩, (List.forall_mem_cons.mpr ⟨⟨zp_X12_of_77 l, Or.inl (zcv_2 zw_X12_of zr_X12_of_77 285 zt_X12_lawOf_13 zl_RX12_285 (by decide +kernel) (by decide +kernel))⟩, (List.forall_mem_cons.mpr ⟨⟨zp_X12_of_78 l, Or.inl (zcv_2 zw_X12_of zr_X12_of_78 285 zt_X12_lawOf_13 zl_RX12_285 (by decide +kernel) (by decide +kernel))⟩, (List.forall_mem_cons.mpr ⟨⟨zp_X12_of_79 l, Or.inl (zcv_2 zw_X12_of zr_X12_of_79 285 zt_X12_lawOf_13 zl_RX12_285 (by decide +kernel) (by decide +kernel))⟩, (List.forall_mem_cons.mpr ⟨⟨zp_X12_of_80 l, Or.inl (zcv_2 zw_X12_of zr_X12_of_80 285 zt_X12_lawOf_13 zl_RX12_285 (by decide +kernel) (by decide +kernel))⟩, (List.forall_mem_cons.mpr ⟨⟨zp_X12_of_81 l, Or.inl (zcv_2 zw_X12_of zr_X12_of_81 285 zt_X12_lawOf_13 zl_RX12_285 (by decide +kernel) (by decide +kernel))⟩, (List.forall_mem_nil _)⟩)⟩)⟩)⟩)⟩)⟩)
theorem ze_X12_lawOf_4_20 (l : Launch) : ∀ C' ∈ [zk_X12_of_82, zk_X12_of_83, zk_X12_of_84], zMet zkdm vwCl zTW zKPr l C' ∧ (zCV zkdm vwCl zTW RX12 cX12_lawOf 1 21 20 C' ∨ zCS zTW RX12 cX12_lawOf 1 21 20 C') := (List.forall_mem_cons.mpr ⟨⟨zp_X12_of_82 l, Or.inl (zcv_2 zw_X12_of zr_X12_of_82 285 zt_X12_lawOf_20 zl_RX12_285 (by decide +kernel) (by decide +kernel))⟩, (List.forall_mem_cons.mpr ⟨⟨zp_X12_of_83 l, Or.inl (zcv_2 zw_X12_of zr_X12_of_83 285 zt_X12_lawOf_20 zl_RX12_285 (by decide +kernel) (by decide +kernel))⟩, (List.forall_mem_cons.mpr ⟨⟨zp_X12_of_84 l, Or.inl (zcv_2 zw_X12_of zr_X12_of_84 285 zt_X12_lawOf_20 zl_RX12_285 (by decide +kernel) (by decide +kernel))⟩, (List.forall_mem_nil _)⟩)⟩)⟩)
def zm_X12_lawOf_4 : zMD := (zc_X12_lawOf, [], ([], []), [(13, [zk_X12_of_76, zk_X12_of_77, zk_X12_of_78, zk_X12_of_79, zk_X12_of_80, zk_X12_of_81]), (20, [zk_X12_of_82, zk_X12_of_83, zk_X12_of_84])], [], [], [9, 16])
set_option maxRecDepth 100000 in
theorem zv_X12_lawOf_4 : zmeth zkdm zk_X12_lawOf_4 zm_X12_lawOf_4 200000 1 = true := by decide +kernel
theorem zp_X12_lawOf_4 (l : Launch) : zMet zkdm vwCl zTW zKPr l zk_X12_lawOf_4 := z_met zkpr_ok zTW_good zk_X12_lawOf_4 zm_X12_lawOf_4 200000 1 (by decide +kernel) (by decide +kernel) (by decide +kernel) zv_X12_lawOf_4 zd_X12_lawOf (List.forall_mem_nil _) ⟨(List.forall_mem_nil _), (List.forall_mem_nil _)⟩ (List.forall_mem_cons.mpr ⟨ze_X12_lawOf_4_13 l, (List.forall_mem_cons.mpr ⟨ze_X12_lawOf_4_20 l, (List.forall_mem_nil _)⟩)⟩) (List.forall_mem_nil _)
def zc_X12_lack : List (Nat × Jvm.ClassFile.Instr × Nat) := [(0, .aload_n 0, 1), (1, .iconst 0, 1), (2, .putfield 117, 3), (5, .aload_n 0, 1), (6, .iload_n 1, 1), (7, .iload_n 2, 1), (8, .iload_n 3, 1), (9, .invokevirtual 409, 3), (12, .ifCond .eq 45, 3), (15, .aload_n 0, 1), (16, .iload 4, 2), (18, .invokevirtual 320, 3), (21, .ifCond .eq 36, 3), (24, .aload_n 0, 1), (25, .iload 5, 2), (27, .invokevirtual 379, 3), (30, .ifCond .eq 27, 3), (33, .aload_n 0, 1), (34, .iload 4, 2), (36, .iload 5, 2), (38, .aload_n 0, 1), (39, .iload 4, 2), (41, .iconst 0, 1), (42, .invokevirtual 363, 3), (45, .aload_n 0, 1), (46, .iload 4, 2), (48, .invokevirtual 326, 3), (51, .invokevirtual 375, 3), (54, .goto 4, 3), (57, .iconst (-1), 1), (58, .ireturn, 1)]
theorem zd_X12_lack : ∀ q ∈ zc_X12_lack, decode cX12_lack q.1 = .ok (q.2.1, q.2.2) := by decide +kernel
set_option maxRecDepth 100000 in
theorem zq_X12_lack : lw_tbl[1886]? = some (.code yX12_lack cX12_lack 6 (some .int)) := rfl
theorem zw_X12_lack : zMV yX12_lack cX12_lack 6 (some .int) 5 := ⟨⟨zTin 113 (by decide +kernel) rfl, zTin 1886 zq_X12_lack rfl, ⟨by decide, by decide⟩, by decide +kernel⟩, zTin 1884 (by decide +kernel) rfl, zTin 1885 (by decide +kernel) rfl⟩
def zk_X12_lack_0 : zCT := ((yX12_lack, cX12_lack, 6, (some .int)), (11, 254), ([(37, 1, 0), (0, 2, 0), (0, 3, 0), (0, 4, 0), (0, 5, 0), (0, 6, 0)], ([(0, 0), (0, 2147483647), (0, 0), ((-2147483648), 2147483647), ((-2147483648), 2147483647), ((-2147483648), 2147483647), ((-2147483648), 2147483647), (0, 2147483647), (1, 2), (0, 2), (0, 2), (0, 2147483647), (2, 8), (1, 9), (0, 8), (0, 9)], [(0, (37, 1, 0)), (1, (0, 2, 0)), (2, (0, 3, 0)), (3, (0, 4, 0)), (4, (0, 5, 0)), (5, (0, 6, 0))], [], [((35, 1), 5, (6, 7, 0)), ((4, 7), 0, (0, 8, 0)), ((4, 7), 1, (0, 9, 0)), ((4, 7), 2, (0, 10, 0)), ((35, 1), 6, (7, 11, 0)), ((5, 11), 0, (0, 12, 0)), ((5, 11), 4, (0, 13, 0)), ((5, 11), 50, (0, 14, 0)), ((5, 11), 54, (0, 15, 0))], [])), [([(0, 0), (0, 2147483647), (0, 0), ((-2147483648), 2147483647), ((-2147483648), 2147483647), ((-2147483648), 2147483647), ((-2147483648), 2147483647), (0, 2147483647), (1, 2), (0, 2), (0, 2), (0, 2147483647), (2, 8), (1, 9), (0, 8), (0, 9)], [], [(0, 0, (-1))], [], []), ([(0, 0), (0, 2147483647), (0, 0), (0, 1), (0, 30), (0, 5), (0, 5), (0, 2147483647), (1, 2), (1, 2), (0, 2), (0, 2147483647), (2, 8), (1, 9), (0, 8), (0, 9), (1, 1)], [], [(0, 16, 0)], [], []), ([(0, 0), (0, 2147483647), (0, 0), (0, 1), (0, 30), (0, 5), (0, 5), (0, 2147483647), (1, 2), (1, 2), (0, 2), (0, 2147483647), (2, 8), (1, 9), (0, 8), (0, 9), (0, 0)], [], [(0, 16, 0)], [], []), ([(0, 0), (0, 2147483647), (0, 0), (0, 1), (0, 30), (0, 5), (0, 5), (0, 2147483647), (1, 2), (1, 2), (0, 2), (0, 2147483647), (2, 8), (1, 9), (0, 8), (0, 9), (2, 15)], [], [(0, 16, 0)], [], [])], [(10, 0, 5), (11, 0, 5), (13, 0, 5), (14, 0, 5), (15, 0, 5), (16, 0, 5), (17, 0, 5), (18, 0, 5), (19, 0, 5), (20, 0, 5), (21, 0, 29), (22, 0, 29), (23, 0, 29), (24, 0, 29), (25, 0, 29), (35, 0, 0), (35, 23, 29), (35, 33, 35), (35, 49, 51)])
theorem zr_X12_lack_0 : zRC zkdm vwCl zk_X12_lack_0 5 := ⟨by decide +kernel, (37, 1, 0), [(0, 2, 0), (0, 3, 0), (0, 4, 0), (0, 5, 0), (0, 6, 0)], _, TX12, 64, rfl, by decide, by decide +kernel, zkdm_35, rfl, rfl⟩
theorem zt_X12_lack_9 : decode cX12_lack 9 = .ok (.invokevirtual 409, 3) := by decide +kernel
theorem ze_X12_lack_0_9 (l : Launch) : ∀ C' ∈ [zk_X12_layState_0], zMet zkdm vwCl zTW zKPr l C' ∧ (zCV zkdm vwCl zTW RX12 cX12_lack 11 254 9 C' ∨ zCS zTW RX12 cX12_lack 11 254 9 C') := (List.forall_mem_cons.mpr ⟨⟨zp_X12_layState_0 l, Or.inl (zcv_2 zw_X12_layState zr_X12_layState_0 409 zt_X12_lack_9 zl_RX12_409 (by decide +kernel) (by decide +kernel))⟩, (List.forall_mem_nil _)⟩)
theorem zt_X12_lack_18 : decode cX12_lack 18 = .ok (.invokevirtual 320, 3) := by decide +kernel
theorem ze_X12_lack_0_18 (l : Launch) : ∀ C' ∈ [zk_X12_isBoat_0], zMet zkdm vwCl zTW zKPr l C' ∧ (zCV zkdm vwCl zTW RX12 cX12_lack 11 254 18 C' ∨ zCS zTW RX12 cX12_lack 11 254 18 C') := (List.forall_mem_cons.mpr ⟨⟨zp_X12_isBoat_0 l, Or.inl (zcv_2 zw_X12_isBoat zr_X12_isBoat_0 320 zt_X12_lack_18 zl_RX12_320 (by decide +kernel) (by decide +kernel))⟩, (List.forall_mem_nil _)⟩)
theorem zt_X12_lack_27 : decode cX12_lack 27 = .ok (.invokevirtual 379, 3) := by decide +kernel
theorem ze_X12_lack_0_27 (l : Launch) : ∀ C' ∈ [zk_X12_isThere_0], zMet zkdm vwCl zTW zKPr l C' ∧ (zCV zkdm vwCl zTW RX12 cX12_lack 11 254 27 C' ∨ zCS zTW RX12 cX12_lack 11 254 27 C') := (List.forall_mem_cons.mpr ⟨⟨zp_X12_isThere_0 l, Or.inl (zcv_2 zw_X12_isThere zr_X12_isThere_0 379 zt_X12_lack_27 zl_RX12_379 (by decide +kernel) (by decide +kernel))⟩, (List.forall_mem_nil _)⟩)
theorem zt_X12_lack_42 : decode cX12_lack 42 = .ok (.invokevirtual 363, 3) := by decide +kernel
theorem ze_X12_lack_0_42 (l : Launch) : ∀ C' ∈ [zk_X12_lawOf_4], zMet zkdm vwCl zTW zKPr l C' ∧ (zCV zkdm vwCl zTW RX12 cX12_lack 11 254 42 C' ∨ zCS zTW RX12 cX12_lack 11 254 42 C') := (List.forall_mem_cons.mpr ⟨⟨zp_X12_lawOf_4 l, Or.inl (zcv_2 zw_X12_lawOf zr_X12_lawOf_4 363 zt_X12_lack_42 zl_RX12_363 (by decide +kernel) (by decide +kernel))⟩, (List.forall_mem_nil _)⟩)
theorem zt_X12_lack_48 : decode cX12_lack 48 = .ok (.invokevirtual 326, 3) := by decide +kernel
theorem ze_X12_lack_0_48 (l : Launch) : ∀ C' ∈ [zk_X12_hearersOf_0], zMet zkdm vwCl zTW zKPr l C' ∧ (zCV zkdm vwCl zTW RX12 cX12_lack 11 254 48 C' ∨ zCS zTW RX12 cX12_lack 11 254 48 C') := (List.forall_mem_cons.mpr ⟨⟨zp_X12_hearersOf_0 l, Or.inl (zcv_2 zw_X12_hearersOf zr_X12_hearersOf_0 326 zt_X12_lack_48 zl_RX12_326 (by decide +kernel) (by decide +kernel))⟩, (List.forall_mem_nil _)⟩)
theorem zt_X12_lack_51 : decode cX12_lack 51 = .ok (.invokevirtual 375, 3) := by decide +kernel
theorem ze_X12_lack_0_51 (l : Launch) : ∀ C' ∈ [zk_X12_lackOf_0], zMet zkdm vwCl zTW zKPr l C' ∧ (zCV zkdm vwCl zTW RX12 cX12_lack 11 254 51 C' ∨ zCS zTW RX12 cX12_lack 11 254 51 C') := (List.forall_mem_cons.mpr ⟨⟨zp_X12_lackOf_0 l, Or.inl (zcv_2 zw_X12_lackOf zr_X12_lackOf_0 375 zt_X12_lack_51 zl_RX12_375 (by decide +kernel) (by decide +kernel))⟩, (List.forall_mem_nil _)⟩)
def zm_X12_lack_0 : zMD := (zc_X12_lack, [(117, 12, 0, some .int)], ([], []), [(9, [zk_X12_layState_0]), (18, [zk_X12_isBoat_0]), (27, [zk_X12_isThere_0]), (42, [zk_X12_lawOf_4]), (48, [zk_X12_hearersOf_0]), (51, [zk_X12_lackOf_0])], [], [], [])
set_option maxRecDepth 100000 in
theorem zv_X12_lack_0 : zmeth zkdm zk_X12_lack_0 zm_X12_lack_0 200000 1 = true := by decide +kernel
theorem zp_X12_lack_0 (l : Launch) : zMet zkdm vwCl zTW zKPr l zk_X12_lack_0 := z_met zkpr_ok zTW_good zk_X12_lack_0 zm_X12_lack_0 200000 1 (by decide +kernel) (by decide +kernel) (by decide +kernel) zv_X12_lack_0 zd_X12_lack (List.forall_mem_cons.mpr ⟨zf_RX12_117, (List.forall_mem_nil _)⟩) ⟨(List.forall_mem_nil _), (List.forall_mem_nil _)⟩ (List.forall_mem_cons.mpr ⟨ze_X12_lack_0_9 l, (List.forall_mem_cons.mpr ⟨ze_X12_lack_0_18 l, (List.forall_mem_cons.mpr ⟨ze_X12_lack_0_27 l, (List.forall_mem_cons.mpr ⟨ze_X12_lack_0_42 l, (List.forall_mem_cons.mpr ⟨ze_X12_lack_0_48 l, (List.forall_mem_cons.mpr ⟨ze_X12_lack_0_51 l, (List.forall_mem_nil _)⟩)⟩)⟩)⟩)⟩)⟩) (List.forall_mem_nil _)
def zk_X12_of_85 : zCT := ((yX12_of, cX12_of, 2, (some .int)), (0, 0), ([(37, 1, 0), (0, 2, 0)], ([(0, 0), (0, 2147483647), (33, 33), (1, 1), (0, 2147483647), (0, 2), (0, 2)], [(0, (37, 1, 0)), (1, (0, 2, 0))], [], [((35, 1), 23, (0, 3, 0)), ((35, 1), 6, (7, 4, 0)), ((5, 4), 33, (0, 5, 0)), ((5, 4), 83, (0, 6, 0))], [])), [([(0, 0), (0, 2147483647), (33, 33), (1, 1), (0, 2147483647), (0, 2), (0, 2)], [], [(0, 6, 0)], [], [])], [])
theorem zr_X12_of_85 : zRC zkdm vwCl zk_X12_of_85 1 := ⟨by decide +kernel, (37, 1, 0), [(0, 2, 0)], _, TX12, 64, rfl, by decide, by decide +kernel, zkdm_35, rfl, rfl⟩
def zm_X12_of_85 : zMD := (zc_X12_of, [(26, 12, 6, none), (282, 12, 23, some .int)], ([], []), [], [], [], [10])
set_option maxRecDepth 100000 in
theorem zv_X12_of_85 : zmeth zkdm zk_X12_of_85 zm_X12_of_85 200000 1 = true := by decide +kernel
theorem zp_X12_of_85 (l : Launch) : zMet zkdm vwCl zTW zKPr l zk_X12_of_85 := z_met zkpr_ok zTW_good zk_X12_of_85 zm_X12_of_85 200000 1 (by decide +kernel) (by decide +kernel) (by decide +kernel) zv_X12_of_85 zd_X12_of (List.forall_mem_cons.mpr ⟨zf_RX12_26, (List.forall_mem_cons.mpr ⟨zf_RX12_282, (List.forall_mem_nil _)⟩)⟩) ⟨(List.forall_mem_nil _), (List.forall_mem_nil _)⟩ (List.forall_mem_nil _) (List.forall_mem_nil _)
def zk_X12_of_86 : zCT := ((yX12_of, cX12_of, 2, (some .int)), (0, 0), ([(37, 1, 0), (0, 2, 0)], ([(0, 0), (0, 2147483647), (36, 36), (1, 1), (0, 2147483647), (0, 2), (0, 2)], [(0, (37, 1, 0)), (1, (0, 2, 0))], [], [((35, 1), 23, (0, 3, 0)), ((35, 1), 6, (7, 4, 0)), ((5, 4), 36, (0, 5, 0)), ((5, 4), 86, (0, 6, 0))], [])), [([(0, 0), (0, 2147483647), (36, 36), (1, 1), (0, 2147483647), (0, 2), (0, 2)], [], [(0, 6, 0)], [], [])], [])
theorem zr_X12_of_86 : zRC zkdm vwCl zk_X12_of_86 1 := ⟨by decide +kernel, (37, 1, 0), [(0, 2, 0)], _, TX12, 64, rfl, by decide, by decide +kernel, zkdm_35, rfl, rfl⟩
def zm_X12_of_86 : zMD := (zc_X12_of, [(26, 12, 6, none), (282, 12, 23, some .int)], ([], []), [], [], [], [10])
set_option maxRecDepth 100000 in
theorem zv_X12_of_86 : zmeth zkdm zk_X12_of_86 zm_X12_of_86 200000 1 = true := by decide +kernel
theorem zp_X12_of_86 (l : Launch) : zMet zkdm vwCl zTW zKPr l zk_X12_of_86 := z_met zkpr_ok zTW_good zk_X12_of_86 zm_X12_of_86 200000 1 (by decide +kernel) (by decide +kernel) (by decide +kernel) zv_X12_of_86 zd_X12_of (List.forall_mem_cons.mpr ⟨zf_RX12_26, (List.forall_mem_cons.mpr ⟨zf_RX12_282, (List.forall_mem_nil _)⟩)⟩) ⟨(List.forall_mem_nil _), (List.forall_mem_nil _)⟩ (List.forall_mem_nil _) (List.forall_mem_nil _)
def zk_X12_of_87 : zCT := ((yX12_of, cX12_of, 2, (some .int)), (0, 0), ([(37, 1, 0), (0, 2, 0)], ([(0, 0), (0, 2147483647), (39, 39), (1, 1), (0, 2147483647), (0, 2), (0, 2)], [(0, (37, 1, 0)), (1, (0, 2, 0))], [], [((35, 1), 23, (0, 3, 0)), ((35, 1), 6, (7, 4, 0)), ((5, 4), 39, (0, 5, 0)), ((5, 4), 89, (0, 6, 0))], [])), [([(0, 0), (0, 2147483647), (39, 39), (1, 1), (0, 2147483647), (0, 2), (0, 2)], [], [(0, 6, 0)], [], [])], [])
theorem zr_X12_of_87 : zRC zkdm vwCl zk_X12_of_87 1 := ⟨by decide +kernel, (37, 1, 0), [(0, 2, 0)], _, TX12, 64, rfl, by decide, by decide +kernel, zkdm_35, rfl, rfl⟩
def zm_X12_of_87 : zMD := (zc_X12_of, [(26, 12, 6, none), (282, 12, 23, some .int)], ([], []), [], [], [], [10])
set_option maxRecDepth 100000 in
theorem zv_X12_of_87 : zmeth zkdm zk_X12_of_87 zm_X12_of_87 200000 1 = true := by decide +kernel
theorem zp_X12_of_87 (l : Launch) : zMet zkdm vwCl zTW zKPr l zk_X12_of_87 := z_met zkpr_ok zTW_good zk_X12_of_87 zm_X12_of_87 200000 1 (by decide +kernel) (by decide +kernel) (by decide +kernel) zv_X12_of_87 zd_X12_of (List.forall_mem_cons.mpr ⟨zf_RX12_26, (List.forall_mem_cons.mpr ⟨zf_RX12_282, (List.forall_mem_nil _)⟩)⟩) ⟨(List.forall_mem_nil _), (List.forall_mem_nil _)⟩ (List.forall_mem_nil _) (List.forall_mem_nil _)
def zk_X12_of_88 : zCT := ((yX12_of, cX12_of, 2, (some .int)), (0, 0), ([(37, 1, 0), (0, 2, 0)], ([(0, 0), (0, 2147483647), (42, 42), (1, 1), (0, 2147483647), (0, 2), (0, 2)], [(0, (37, 1, 0)), (1, (0, 2, 0))], [], [((35, 1), 23, (0, 3, 0)), ((35, 1), 6, (7, 4, 0)), ((5, 4), 42, (0, 5, 0)), ((5, 4), 92, (0, 6, 0))], [])), [([(0, 0), (0, 2147483647), (42, 42), (1, 1), (0, 2147483647), (0, 2), (0, 2)], [], [(0, 6, 0)], [], [])], [])
theorem zr_X12_of_88 : zRC zkdm vwCl zk_X12_of_88 1 := ⟨by decide +kernel, (37, 1, 0), [(0, 2, 0)], _, TX12, 64, rfl, by decide, by decide +kernel, zkdm_35, rfl, rfl⟩
def zm_X12_of_88 : zMD := (zc_X12_of, [(26, 12, 6, none), (282, 12, 23, some .int)], ([], []), [], [], [], [10])
set_option maxRecDepth 100000 in
theorem zv_X12_of_88 : zmeth zkdm zk_X12_of_88 zm_X12_of_88 200000 1 = true := by decide +kernel
theorem zp_X12_of_88 (l : Launch) : zMet zkdm vwCl zTW zKPr l zk_X12_of_88 := z_met zkpr_ok zTW_good zk_X12_of_88 zm_X12_of_88 200000 1 (by decide +kernel) (by decide +kernel) (by decide +kernel) zv_X12_of_88 zd_X12_of (List.forall_mem_cons.mpr ⟨zf_RX12_26, (List.forall_mem_cons.mpr ⟨zf_RX12_282, (List.forall_mem_nil _)⟩)⟩) ⟨(List.forall_mem_nil _), (List.forall_mem_nil _)⟩ (List.forall_mem_nil _) (List.forall_mem_nil _)
def zk_X12_of_89 : zCT := ((yX12_of, cX12_of, 2, (some .int)), (0, 0), ([(37, 1, 0), (0, 2, 0)], ([(0, 0), (0, 2147483647), (45, 45), (1, 1), (0, 2147483647), (0, 2), (0, 2)], [(0, (37, 1, 0)), (1, (0, 2, 0))], [], [((35, 1), 23, (0, 3, 0)), ((35, 1), 6, (7, 4, 0)), ((5, 4), 45, (0, 5, 0)), ((5, 4), 95, (0, 6, 0))], [])), [([(0, 0), (0, 2147483647), (45, 45), (1, 1), (0, 2147483647), (0, 2), (0, 2)], [], [(0, 6, 0)], [], [])], [])
theorem zr_X12_of_89 : zRC zkdm vwCl zk_X12_of_89 1 := ⟨by decide +kernel, (37, 1, 0), [(0, 2, 0)], _, TX12, 64, rfl, by decide, by decide +kernel, zkdm_35, rfl, rfl⟩
def zm_X12_of_89 : zMD := (zc_X12_of, [(26, 12, 6, none), (282, 12, 23, some .int)], ([], []), [], [], [], [10])
set_option maxRecDepth 100000 in
theorem zv_X12_of_89 : zmeth zkdm zk_X12_of_89 zm_X12_of_89 200000 1 = true := by decide +kernel
theorem zp_X12_of_89 (l : Launch) : zMet zkdm vwCl zTW zKPr l zk_X12_of_89 := z_met zkpr_ok zTW_good zk_X12_of_89 zm_X12_of_89 200000 1 (by decide +kernel) (by decide +kernel) (by decide +kernel) zv_X12_of_89 zd_X12_of (List.forall_mem_cons.mpr ⟨zf_RX12_26, (List.forall_mem_cons.mpr ⟨zf_RX12_282, (List.forall_mem_nil _)⟩)⟩) ⟨(List.forall_mem_nil _), (List.forall_mem_nil _)⟩ (List.forall_mem_nil _) (List.forall_mem_nil _)
def zk_X12_of_90 : zCT := ((yX12_of, cX12_of, 2, (some .int)), (0, 0), ([(37, 1, 0), (0, 2, 0)], ([(0, 0), (0, 2147483647), (48, 48), (1, 1), (0, 2147483647), (0, 2), (0, 2)], [(0, (37, 1, 0)), (1, (0, 2, 0))], [], [((35, 1), 23, (0, 3, 0)), ((35, 1), 6, (7, 4, 0)), ((5, 4), 48, (0, 5, 0)), ((5, 4), 98, (0, 6, 0))], [])), [([(0, 0), (0, 2147483647), (48, 48), (1, 1), (0, 2147483647), (0, 2), (0, 2)], [], [(0, 6, 0)], [], [])], [])
theorem zr_X12_of_90 : zRC zkdm vwCl zk_X12_of_90 1 := ⟨by decide +kernel, (37, 1, 0), [(0, 2, 0)], _, TX12, 64, rfl, by decide, by decide +kernel, zkdm_35, rfl, rfl⟩
def zm_X12_of_90 : zMD := (zc_X12_of, [(26, 12, 6, none), (282, 12, 23, some .int)], ([], []), [], [], [], [10])
set_option maxRecDepth 100000 in
theorem zv_X12_of_90 : zmeth zkdm zk_X12_of_90 zm_X12_of_90 200000 1 = true := by decide +kernel
theorem zp_X12_of_90 (l : Launch) : zMet zkdm vwCl zTW zKPr l zk_X12_of_90 := z_met zkpr_ok zTW_good zk_X12_of_90 zm_X12_of_90 200000 1 (by decide +kernel) (by decide +kernel) (by decide +kernel) zv_X12_of_90 zd_X12_of (List.forall_mem_cons.mpr ⟨zf_RX12_26, (List.forall_mem_cons.mpr ⟨zf_RX12_282, (List.forall_mem_nil _)⟩)⟩) ⟨(List.forall_mem_nil _), (List.forall_mem_nil _)⟩ (List.forall_mem_nil _) (List.forall_mem_nil _)
def zk_X12_of_91 : zCT := ((yX12_of, cX12_of, 2, (some .int)), (0, 0), ([(37, 1, 0), (0, 2, 0)], ([(0, 0), (0, 2147483647), (11, 11), (1, 1), (0, 2147483647), (0, 99), (0, 99)], [(0, (37, 1, 0)), (1, (0, 2, 0))], [], [((35, 1), 23, (0, 3, 0)), ((35, 1), 6, (7, 4, 0)), ((5, 4), 11, (0, 5, 0)), ((5, 4), 61, (0, 6, 0))], [])), [([(0, 0), (0, 2147483647), (11, 11), (1, 1), (0, 2147483647), (0, 99), (0, 99)], [], [(0, 6, 0)], [], [])], [])
theorem zr_X12_of_91 : zRC zkdm vwCl zk_X12_of_91 1 := ⟨by decide +kernel, (37, 1, 0), [(0, 2, 0)], _, TX12, 64, rfl, by decide, by decide +kernel, zkdm_35, rfl, rfl⟩
def zm_X12_of_91 : zMD := (zc_X12_of, [(26, 12, 6, none), (282, 12, 23, some .int)], ([], []), [], [], [], [10])
set_option maxRecDepth 100000 in
theorem zv_X12_of_91 : zmeth zkdm zk_X12_of_91 zm_X12_of_91 200000 1 = true := by decide +kernel
theorem zp_X12_of_91 (l : Launch) : zMet zkdm vwCl zTW zKPr l zk_X12_of_91 := z_met zkpr_ok zTW_good zk_X12_of_91 zm_X12_of_91 200000 1 (by decide +kernel) (by decide +kernel) (by decide +kernel) zv_X12_of_91 zd_X12_of (List.forall_mem_cons.mpr ⟨zf_RX12_26, (List.forall_mem_cons.mpr ⟨zf_RX12_282, (List.forall_mem_nil _)⟩)⟩) ⟨(List.forall_mem_nil _), (List.forall_mem_nil _)⟩ (List.forall_mem_nil _) (List.forall_mem_nil _)
def zk_X12_of_92 : zCT := ((yX12_of, cX12_of, 2, (some .int)), (0, 0), ([(37, 1, 0), (0, 2, 0)], ([(0, 0), (0, 2147483647), (15, 15), (1, 1), (0, 2147483647), (0, 99), (0, 99)], [(0, (37, 1, 0)), (1, (0, 2, 0))], [], [((35, 1), 23, (0, 3, 0)), ((35, 1), 6, (7, 4, 0)), ((5, 4), 15, (0, 5, 0)), ((5, 4), 65, (0, 6, 0))], [])), [([(0, 0), (0, 2147483647), (15, 15), (1, 1), (0, 2147483647), (0, 99), (0, 99)], [], [(0, 6, 0)], [], [])], [])
theorem zr_X12_of_92 : zRC zkdm vwCl zk_X12_of_92 1 := ⟨by decide +kernel, (37, 1, 0), [(0, 2, 0)], _, TX12, 64, rfl, by decide, by decide +kernel, zkdm_35, rfl, rfl⟩
def zm_X12_of_92 : zMD := (zc_X12_of, [(26, 12, 6, none), (282, 12, 23, some .int)], ([], []), [], [], [], [10])
set_option maxRecDepth 100000 in
theorem zv_X12_of_92 : zmeth zkdm zk_X12_of_92 zm_X12_of_92 200000 1 = true := by decide +kernel
theorem zp_X12_of_92 (l : Launch) : zMet zkdm vwCl zTW zKPr l zk_X12_of_92 := z_met zkpr_ok zTW_good zk_X12_of_92 zm_X12_of_92 200000 1 (by decide +kernel) (by decide +kernel) (by decide +kernel) zv_X12_of_92 zd_X12_of (List.forall_mem_cons.mpr ⟨zf_RX12_26, (List.forall_mem_cons.mpr ⟨zf_RX12_282, (List.forall_mem_nil _)⟩)⟩) ⟨(List.forall_mem_nil _), (List.forall_mem_nil _)⟩ (List.forall_mem_nil _) (List.forall_mem_nil _)
def zk_X12_of_93 : zCT := ((yX12_of, cX12_of, 2, (some .int)), (0, 0), ([(37, 1, 0), (0, 2, 0)], ([(0, 0), (0, 2147483647), (7, 7), (1, 1), (0, 2147483647), (0, 99), (0, 99)], [(0, (37, 1, 0)), (1, (0, 2, 0))], [], [((35, 1), 23, (0, 3, 0)), ((35, 1), 6, (7, 4, 0)), ((5, 4), 7, (0, 5, 0)), ((5, 4), 57, (0, 6, 0))], [])), [([(0, 0), (0, 2147483647), (7, 7), (1, 1), (0, 2147483647), (0, 99), (0, 99)], [], [(0, 6, 0)], [], [])], [])
theorem zr_X12_of_93 : zRC zkdm vwCl zk_X12_of_93 1 := ⟨by decide +kernel, (37, 1, 0), [(0, 2, 0)], _, TX12, 64, rfl, by decide, by decide +kernel, zkdm_35, rfl, rfl⟩
def zm_X12_of_93 : zMD := (zc_X12_of, [(26, 12, 6, none), (282, 12, 23, some .int)], ([], []), [], [], [], [10])
set_option maxRecDepth 100000 in
theorem zv_X12_of_93 : zmeth zkdm zk_X12_of_93 zm_X12_of_93 200000 1 = true := by decide +kernel
theorem zp_X12_of_93 (l : Launch) : zMet zkdm vwCl zTW zKPr l zk_X12_of_93 := z_met zkpr_ok zTW_good zk_X12_of_93 zm_X12_of_93 200000 1 (by decide +kernel) (by decide +kernel) (by decide +kernel) zv_X12_of_93 zd_X12_of (List.forall_mem_cons.mpr ⟨zf_RX12_26, (List.forall_mem_cons.mpr ⟨zf_RX12_282, (List.forall_mem_nil _)⟩)⟩) ⟨(List.forall_mem_nil _), (List.forall_mem_nil _)⟩ (List.forall_mem_nil _) (List.forall_mem_nil _)
def zk_X12_lawOf_5 : zCT := ((yX12_lawOf, cX12_lawOf, 3, (some .int)), (1, 21), ([(37, 1, 0), (0, 2, 0), (0, 3, 0)], ([(0, 0), (0, 2147483647), (0, 5), (0, 0), (1, 1)], [(0, (37, 1, 0)), (1, (0, 2, 0)), (2, (0, 3, 0))], [], [((35, 1), 23, (0, 4, 0))], [])), [([(0, 0), (0, 2147483647), (0, 5), (0, 0), (1, 1), (0, 99)], [], [(0, 5, 0)], [], [])], [])
theorem zr_X12_lawOf_5 : zRC zkdm vwCl zk_X12_lawOf_5 2 := ⟨by decide +kernel, (37, 1, 0), [(0, 2, 0), (0, 3, 0)], _, TX12, 64, rfl, by decide, by decide +kernel, zkdm_35, rfl, rfl⟩
theorem ze_X12_lawOf_5_13 (l : Launch) : ∀ C' ∈ [zk_X12_of_85, zk_X12_of_86, zk_X12_of_87, zk_X12_of_88, zk_X12_of_89, zk_X12_of_90], zMet zkdm vwCl zTW zKPr l C' ∧ (zCV zkdm vwCl zTW RX12 cX12_lawOf 1 21 13 C' ∨ zCS zTW RX12 cX12_lawOf 1 21 13 C') := (List.forall_mem_cons.mpr ⟨⟨zp_X12_of_85 l, Or.inl (zcv_2 zw_X12_of zr_X12_of_85 285 zt_X12_lawOf_13 zl_RX12_285 (by decide +kernel) (by decide +kernel))⟩, (List.forall_mem_cons.mpr ⟨⟨zp_X12_of_86 l, Or.inl (zcv_2 zw_X12_of zr_X12_of_86 285 zt_X12_lawOf_13 zl_RX12_285 (by decide +kernel) (by decide +kernel))⟩, (List.forall_mem_cons.mpr ⟨⟨zp_X12_of_87 l, Or.inl (zcv_2 zw_X12_of zr_X12_of_87 285 zt_X12_lawOf_13 zl_RX12_285 (by decide +kernel) (by decide +kernel))⟩, (List.forall_mem_cons.mpr ⟨⟨zp_X12_of_88 l, Or.inl (zcv_2 zw_X12_of zr_X12_of_88 285 zt_X12_lawOf_13 zl_RX12_285 (by decide +kernel) (by decide +kernel))⟩, (List.forall_mem_cons.mpr ⟨⟨zp_X12_of_89 l, Or.inl (zcv_2 zw_X12_of zr_X12_of_89 285 zt_X12_lawOf_13 zl_RX12_285 (by decide +kernel) (by decide +kernel))⟩, (List.forall_mem_cons.mpr ⟨⟨zp_X12_of_90 l, Or.inl (zcv_2 zw_X12_of zr_X12_of_90 285 zt_X12_lawOf_13 zl_RX12_285 (by decide +kernel) (by decide +kernel))⟩, (List.forall_mem_nil _)⟩)⟩)⟩)⟩)⟩)⟩)
theorem ze_X12_lawOf_5_20 (l : Launch) : ∀ C' ∈ [zk_X12_of_91, zk_X12_of_92, zk_X12_of_93], zMet zkdm vwCl zTW zKPr l C' ∧ (zCV zkdm vwCl zTW RX12 cX12_lawOf 1 21 20 C' ∨ zCS zTW RX12 cX12_lawOf 1 21 20 C') := (List.forall_mem_cons.mpr ⟨⟨zp_X12_of_91 l, Or.inl (zcv_2 zw_X12_of zr_X12_of_91 285 zt_X12_lawOf_20 zl_RX12_285 (by decide +kernel) (by decide +kernel))⟩, (List.forall_mem_cons.mpr ⟨⟨zp_X12_of_92 l, Or.inl (zcv_2 zw_X12_of zr_X12_of_92 285 zt_X12_lawOf_20 zl_RX12_285 (by decide +kernel) (by decide +kernel))⟩, (List.forall_mem_cons.mpr ⟨⟨zp_X12_of_93 l, Or.inl (zcv_2 zw_X12_of zr_X12_of_93 285 zt_X12_lawOf_20 zl_RX12_285 (by decide +kernel) (by decide +kernel))⟩, (List.forall_mem_nil _)⟩)⟩)⟩)
def zm_X12_lawOf_5 : zMD := (zc_X12_lawOf, [], ([], []), [(13, [zk_X12_of_85, zk_X12_of_86, zk_X12_of_87, zk_X12_of_88, zk_X12_of_89, zk_X12_of_90]), (20, [zk_X12_of_91, zk_X12_of_92, zk_X12_of_93])], [], [], [9, 16])
set_option maxRecDepth 100000 in
theorem zv_X12_lawOf_5 : zmeth zkdm zk_X12_lawOf_5 zm_X12_lawOf_5 200000 1 = true := by decide +kernel
theorem zp_X12_lawOf_5 (l : Launch) : zMet zkdm vwCl zTW zKPr l zk_X12_lawOf_5 := z_met zkpr_ok zTW_good zk_X12_lawOf_5 zm_X12_lawOf_5 200000 1 (by decide +kernel) (by decide +kernel) (by decide +kernel) zv_X12_lawOf_5 zd_X12_lawOf (List.forall_mem_nil _) ⟨(List.forall_mem_nil _), (List.forall_mem_nil _)⟩ (List.forall_mem_cons.mpr ⟨ze_X12_lawOf_5_13 l, (List.forall_mem_cons.mpr ⟨ze_X12_lawOf_5_20 l, (List.forall_mem_nil _)⟩)⟩) (List.forall_mem_nil _)
def zk_X12_lack_1 : zCT := ((yX12_lack, cX12_lack, 6, (some .int)), (11, 254), ([(37, 1, 0), (0, 2, 0), (0, 3, 0), (0, 4, 0), (0, 5, 0), (0, 6, 0)], ([(0, 0), (0, 2147483647), (1, 1), ((-2147483648), 2147483647), ((-2147483648), 2147483647), ((-2147483648), 2147483647), ((-2147483648), 2147483647), (0, 2147483647), (2, 2), (0, 2), (0, 2), (0, 2147483647), (0, 8), (0, 9), (2, 8), (1, 9)], [(0, (37, 1, 0)), (1, (0, 2, 0)), (2, (0, 3, 0)), (3, (0, 4, 0)), (4, (0, 5, 0)), (5, (0, 6, 0))], [], [((35, 1), 5, (6, 7, 0)), ((4, 7), 0, (0, 8, 0)), ((4, 7), 1, (0, 9, 0)), ((4, 7), 2, (0, 10, 0)), ((35, 1), 6, (7, 11, 0)), ((5, 11), 0, (0, 12, 0)), ((5, 11), 4, (0, 13, 0)), ((5, 11), 50, (0, 14, 0)), ((5, 11), 54, (0, 15, 0))], [])), [([(0, 0), (0, 2147483647), (1, 1), ((-2147483648), 2147483647), ((-2147483648), 2147483647), ((-2147483648), 2147483647), ((-2147483648), 2147483647), (0, 2147483647), (2, 2), (0, 2), (0, 2), (0, 2147483647), (0, 8), (0, 9), (2, 8), (1, 9)], [], [(0, 0, (-1))], [], []), ([(0, 0), (0, 2147483647), (1, 1), (0, 1), (0, 30), (0, 5), (0, 5), (0, 2147483647), (2, 2), (1, 2), (0, 2), (0, 2147483647), (0, 8), (0, 9), (2, 8), (1, 9), (1, 1)], [], [(0, 16, 0)], [], []), ([(0, 0), (0, 2147483647), (1, 1), (0, 1), (0, 30), (0, 5), (0, 5), (0, 2147483647), (2, 2), (1, 2), (0, 2), (0, 2147483647), (0, 8), (0, 9), (2, 8), (1, 9), (0, 0)], [], [(0, 16, 0)], [], []), ([(0, 0), (0, 2147483647), (1, 1), (0, 1), (0, 30), (0, 5), (0, 5), (0, 2147483647), (2, 2), (1, 2), (0, 2), (0, 2147483647), (0, 8), (0, 9), (2, 8), (1, 9), (2, 15)], [], [(0, 16, 0)], [], [])], [(10, 0, 5), (11, 0, 5), (13, 0, 5), (14, 0, 5), (15, 0, 5), (16, 0, 5), (17, 0, 5), (18, 0, 5), (19, 0, 5), (20, 0, 5), (21, 0, 29), (22, 0, 29), (23, 0, 29), (24, 0, 29), (25, 0, 29), (35, 0, 0), (35, 23, 29), (35, 33, 35), (35, 49, 51)])
theorem zr_X12_lack_1 : zRC zkdm vwCl zk_X12_lack_1 5 := ⟨by decide +kernel, (37, 1, 0), [(0, 2, 0), (0, 3, 0), (0, 4, 0), (0, 5, 0), (0, 6, 0)], _, TX12, 64, rfl, by decide, by decide +kernel, zkdm_35, rfl, rfl⟩
theorem ze_X12_lack_1_9 (l : Launch) : ∀ C' ∈ [zk_X12_layState_1], zMet zkdm vwCl zTW zKPr l C' ∧ (zCV zkdm vwCl zTW RX12 cX12_lack 11 254 9 C' ∨ zCS zTW RX12 cX12_lack 11 254 9 C') := (List.forall_mem_cons.mpr ⟨⟨zp_X12_layState_1 l, Or.inl (zcv_2 zw_X12_layState zr_X12_layState_1 409 zt_X12_lack_9 zl_RX12_409 (by decide +kernel) (by decide +kernel))⟩, (List.forall_mem_nil _)⟩)
theorem ze_X12_lack_1_18 (l : Launch) : ∀ C' ∈ [zk_X12_isBoat_0], zMet zkdm vwCl zTW zKPr l C' ∧ (zCV zkdm vwCl zTW RX12 cX12_lack 11 254 18 C' ∨ zCS zTW RX12 cX12_lack 11 254 18 C') := (List.forall_mem_cons.mpr ⟨⟨zp_X12_isBoat_0 l, Or.inl (zcv_2 zw_X12_isBoat zr_X12_isBoat_0 320 zt_X12_lack_18 zl_RX12_320 (by decide +kernel) (by decide +kernel))⟩, (List.forall_mem_nil _)⟩)
theorem ze_X12_lack_1_27 (l : Launch) : ∀ C' ∈ [zk_X12_isThere_0], zMet zkdm vwCl zTW zKPr l C' ∧ (zCV zkdm vwCl zTW RX12 cX12_lack 11 254 27 C' ∨ zCS zTW RX12 cX12_lack 11 254 27 C') := (List.forall_mem_cons.mpr ⟨⟨zp_X12_isThere_0 l, Or.inl (zcv_2 zw_X12_isThere zr_X12_isThere_0 379 zt_X12_lack_27 zl_RX12_379 (by decide +kernel) (by decide +kernel))⟩, (List.forall_mem_nil _)⟩)
theorem ze_X12_lack_1_42 (l : Launch) : ∀ C' ∈ [zk_X12_lawOf_5], zMet zkdm vwCl zTW zKPr l C' ∧ (zCV zkdm vwCl zTW RX12 cX12_lack 11 254 42 C' ∨ zCS zTW RX12 cX12_lack 11 254 42 C') := (List.forall_mem_cons.mpr ⟨⟨zp_X12_lawOf_5 l, Or.inl (zcv_2 zw_X12_lawOf zr_X12_lawOf_5 363 zt_X12_lack_42 zl_RX12_363 (by decide +kernel) (by decide +kernel))⟩, (List.forall_mem_nil _)⟩)
theorem ze_X12_lack_1_48 (l : Launch) : ∀ C' ∈ [zk_X12_hearersOf_0], zMet zkdm vwCl zTW zKPr l C' ∧ (zCV zkdm vwCl zTW RX12 cX12_lack 11 254 48 C' ∨ zCS zTW RX12 cX12_lack 11 254 48 C') := (List.forall_mem_cons.mpr ⟨⟨zp_X12_hearersOf_0 l, Or.inl (zcv_2 zw_X12_hearersOf zr_X12_hearersOf_0 326 zt_X12_lack_48 zl_RX12_326 (by decide +kernel) (by decide +kernel))⟩, (List.forall_mem_nil _)⟩)
theorem ze_X12_lack_1_51 (l : Launch) : ∀ C' ∈ [zk_X12_lackOf_0], zMet zkdm vwCl zTW zKPr l C' ∧ (zCV zkdm vwCl zTW RX12 cX12_lack 11 254 51 C' ∨ zCS zTW RX12 cX12_lack 11 254 51 C') := (List.forall_mem_cons.mpr ⟨⟨zp_X12_lackOf_0 l, Or.inl (zcv_2 zw_X12_lackOf zr_X12_lackOf_0 375 zt_X12_lack_51 zl_RX12_375 (by decide +kernel) (by decide +kernel))⟩, (List.forall_mem_nil _)⟩)
def zm_X12_lack_1 : zMD := (zc_X12_lack, [(117, 12, 0, some .int)], ([], []), [(9, [zk_X12_layState_1]), (18, [zk_X12_isBoat_0]), (27, [zk_X12_isThere_0]), (42, [zk_X12_lawOf_5]), (48, [zk_X12_hearersOf_0]), (51, [zk_X12_lackOf_0])], [], [], [])
set_option maxRecDepth 100000 in
theorem zv_X12_lack_1 : zmeth zkdm zk_X12_lack_1 zm_X12_lack_1 200000 1 = true := by decide +kernel
theorem zp_X12_lack_1 (l : Launch) : zMet zkdm vwCl zTW zKPr l zk_X12_lack_1 := z_met zkpr_ok zTW_good zk_X12_lack_1 zm_X12_lack_1 200000 1 (by decide +kernel) (by decide +kernel) (by decide +kernel) zv_X12_lack_1 zd_X12_lack (List.forall_mem_cons.mpr ⟨zf_RX12_117, (List.forall_mem_nil _)⟩) ⟨(List.forall_mem_nil _), (List.forall_mem_nil _)⟩ (List.forall_mem_cons.mpr ⟨ze_X12_lack_1_9 l, (List.forall_mem_cons.mpr ⟨ze_X12_lack_1_18 l, (List.forall_mem_cons.mpr ⟨ze_X12_lack_1_27 l, (List.forall_mem_cons.mpr ⟨ze_X12_lack_1_42 l, (List.forall_mem_cons.mpr ⟨ze_X12_lack_1_48 l, (List.forall_mem_cons.mpr ⟨ze_X12_lack_1_51 l, (List.forall_mem_nil _)⟩)⟩)⟩)⟩)⟩)⟩) (List.forall_mem_nil _)
def zk_X12_lack_2 : zCT := ((yX12_lack, cX12_lack, 6, (some .int)), (5, 111), ([(37, 1, 0), (0, 2, 0), (0, 3, 0), (0, 4, 0), (0, 5, 0), (0, 6, 0)], ([(0, 0), (0, 2147483647), ((-2147483648), (-1)), ((-2147483648), 2147483647), ((-2147483648), 2147483647), ((-2147483648), 2147483647), ((-2147483648), 2147483647), (0, 2147483647), (0, 2), (0, 2), (0, 2), (0, 2147483647), (0, 8), (0, 9), (0, 8), (0, 9)], [(0, (37, 1, 0)), (1, (0, 2, 0)), (2, (0, 3, 0)), (3, (0, 4, 0)), (4, (0, 5, 0)), (5, (0, 6, 0))], [], [((35, 1), 5, (6, 7, 0)), ((4, 7), 0, (0, 8, 0)), ((4, 7), 1, (0, 9, 0)), ((4, 7), 2, (0, 10, 0)), ((35, 1), 6, (7, 11, 0)), ((5, 11), 0, (0, 12, 0)), ((5, 11), 4, (0, 13, 0)), ((5, 11), 50, (0, 14, 0)), ((5, 11), 54, (0, 15, 0))], [])), [([(0, 0), (0, 2147483647), ((-2147483648), (-1)), ((-2147483648), 2147483647), ((-2147483648), 2147483647), ((-2147483648), 2147483647), ((-2147483648), 2147483647), (0, 2147483647), (0, 2), (0, 2), (0, 2), (0, 2147483647), (0, 8), (0, 9), (0, 8), (0, 9)], [], [(0, 0, (-1))], [], [])], [(35, 0, 0), (35, 33, 33)])
theorem zr_X12_lack_2 : zRC zkdm vwCl zk_X12_lack_2 5 := ⟨by decide +kernel, (37, 1, 0), [(0, 2, 0), (0, 3, 0), (0, 4, 0), (0, 5, 0), (0, 6, 0)], _, TX12, 64, rfl, by decide, by decide +kernel, zkdm_35, rfl, rfl⟩
theorem ze_X12_lack_2_9 (l : Launch) : ∀ C' ∈ [zk_X12_layState_2], zMet zkdm vwCl zTW zKPr l C' ∧ (zCV zkdm vwCl zTW RX12 cX12_lack 5 111 9 C' ∨ zCS zTW RX12 cX12_lack 5 111 9 C') := (List.forall_mem_cons.mpr ⟨⟨zp_X12_layState_2 l, Or.inl (zcv_2 zw_X12_layState zr_X12_layState_2 409 zt_X12_lack_9 zl_RX12_409 (by decide +kernel) (by decide +kernel))⟩, (List.forall_mem_nil _)⟩)
def zm_X12_lack_2 : zMD := (zc_X12_lack, [(117, 12, 0, some .int)], ([], []), [(9, [zk_X12_layState_2])], [], [], [])
set_option maxRecDepth 100000 in
theorem zv_X12_lack_2 : zmeth zkdm zk_X12_lack_2 zm_X12_lack_2 200000 1 = true := by decide +kernel
theorem zp_X12_lack_2 (l : Launch) : zMet zkdm vwCl zTW zKPr l zk_X12_lack_2 := z_met zkpr_ok zTW_good zk_X12_lack_2 zm_X12_lack_2 200000 1 (by decide +kernel) (by decide +kernel) (by decide +kernel) zv_X12_lack_2 zd_X12_lack (List.forall_mem_cons.mpr ⟨zf_RX12_117, (List.forall_mem_nil _)⟩) ⟨(List.forall_mem_nil _), (List.forall_mem_nil _)⟩ (List.forall_mem_cons.mpr ⟨ze_X12_lack_2_9 l, (List.forall_mem_nil _)⟩) (List.forall_mem_nil _)
def zk_X12_lack_3 : zCT := ((yX12_lack, cX12_lack, 6, (some .int)), (5, 111), ([(37, 1, 0), (0, 2, 0), (0, 3, 0), (0, 4, 0), (0, 5, 0), (0, 6, 0)], ([(0, 0), (0, 2147483647), (2, 2147483647), ((-2147483648), 2147483647), ((-2147483648), 2147483647), ((-2147483648), 2147483647), ((-2147483648), 2147483647), (0, 2147483647), (0, 2), (0, 2), (0, 2), (0, 2147483647), (0, 8), (0, 9), (0, 8), (0, 9)], [(0, (37, 1, 0)), (1, (0, 2, 0)), (2, (0, 3, 0)), (3, (0, 4, 0)), (4, (0, 5, 0)), (5, (0, 6, 0))], [], [((35, 1), 5, (6, 7, 0)), ((4, 7), 0, (0, 8, 0)), ((4, 7), 1, (0, 9, 0)), ((4, 7), 2, (0, 10, 0)), ((35, 1), 6, (7, 11, 0)), ((5, 11), 0, (0, 12, 0)), ((5, 11), 4, (0, 13, 0)), ((5, 11), 50, (0, 14, 0)), ((5, 11), 54, (0, 15, 0))], [])), [([(0, 0), (0, 2147483647), (2, 2147483647), ((-2147483648), 2147483647), ((-2147483648), 2147483647), ((-2147483648), 2147483647), ((-2147483648), 2147483647), (0, 2147483647), (0, 2), (0, 2), (0, 2), (0, 2147483647), (0, 8), (0, 9), (0, 8), (0, 9)], [], [(0, 0, (-1))], [], [])], [(35, 0, 0), (35, 33, 33)])
theorem zr_X12_lack_3 : zRC zkdm vwCl zk_X12_lack_3 5 := ⟨by decide +kernel, (37, 1, 0), [(0, 2, 0), (0, 3, 0), (0, 4, 0), (0, 5, 0), (0, 6, 0)], _, TX12, 64, rfl, by decide, by decide +kernel, zkdm_35, rfl, rfl⟩
theorem ze_X12_lack_3_9 (l : Launch) : ∀ C' ∈ [zk_X12_layState_3], zMet zkdm vwCl zTW zKPr l C' ∧ (zCV zkdm vwCl zTW RX12 cX12_lack 5 111 9 C' ∨ zCS zTW RX12 cX12_lack 5 111 9 C') := (List.forall_mem_cons.mpr ⟨⟨zp_X12_layState_3 l, Or.inl (zcv_2 zw_X12_layState zr_X12_layState_3 409 zt_X12_lack_9 zl_RX12_409 (by decide +kernel) (by decide +kernel))⟩, (List.forall_mem_nil _)⟩)
def zm_X12_lack_3 : zMD := (zc_X12_lack, [(117, 12, 0, some .int)], ([], []), [(9, [zk_X12_layState_3])], [], [], [])
set_option maxRecDepth 100000 in
theorem zv_X12_lack_3 : zmeth zkdm zk_X12_lack_3 zm_X12_lack_3 200000 1 = true := by decide +kernel
theorem zp_X12_lack_3 (l : Launch) : zMet zkdm vwCl zTW zKPr l zk_X12_lack_3 := z_met zkpr_ok zTW_good zk_X12_lack_3 zm_X12_lack_3 200000 1 (by decide +kernel) (by decide +kernel) (by decide +kernel) zv_X12_lack_3 zd_X12_lack (List.forall_mem_cons.mpr ⟨zf_RX12_117, (List.forall_mem_nil _)⟩) ⟨(List.forall_mem_nil _), (List.forall_mem_nil _)⟩ (List.forall_mem_cons.mpr ⟨ze_X12_lack_3_9 l, (List.forall_mem_nil _)⟩) (List.forall_mem_nil _)
def zk_X12_lack_4 : zCT := ((yX12_lack, cX12_lack, 6, (some .int)), (5, 111), ([(37, 1, 0), (0, 2, 0), (0, 3, 0), (0, 4, 0), (0, 5, 0), (0, 6, 0)], ([(0, 0), (0, 2147483647), (0, 0), ((-2147483648), 2147483647), ((-2147483648), 2147483647), ((-2147483648), 2147483647), ((-2147483648), 2147483647), (0, 2147483647), (0, 0), (0, 2), (0, 2), (0, 2147483647), (0, 8), (0, 9), (0, 8), (0, 9)], [(0, (37, 1, 0)), (1, (0, 2, 0)), (2, (0, 3, 0)), (3, (0, 4, 0)), (4, (0, 5, 0)), (5, (0, 6, 0))], [], [((35, 1), 5, (6, 7, 0)), ((4, 7), 0, (0, 8, 0)), ((4, 7), 1, (0, 9, 0)), ((4, 7), 2, (0, 10, 0)), ((35, 1), 6, (7, 11, 0)), ((5, 11), 0, (0, 12, 0)), ((5, 11), 4, (0, 13, 0)), ((5, 11), 50, (0, 14, 0)), ((5, 11), 54, (0, 15, 0))], [])), [([(0, 0), (0, 2147483647), (0, 0), ((-2147483648), 2147483647), ((-2147483648), 2147483647), ((-2147483648), 2147483647), ((-2147483648), 2147483647), (0, 2147483647), (0, 0), (0, 2), (0, 2), (0, 2147483647), (0, 8), (0, 9), (0, 8), (0, 9)], [], [(0, 0, (-1))], [], [])], [(35, 0, 0), (35, 33, 33)])
theorem zr_X12_lack_4 : zRC zkdm vwCl zk_X12_lack_4 5 := ⟨by decide +kernel, (37, 1, 0), [(0, 2, 0), (0, 3, 0), (0, 4, 0), (0, 5, 0), (0, 6, 0)], _, TX12, 64, rfl, by decide, by decide +kernel, zkdm_35, rfl, rfl⟩
theorem ze_X12_lack_4_9 (l : Launch) : ∀ C' ∈ [zk_X12_layState_4], zMet zkdm vwCl zTW zKPr l C' ∧ (zCV zkdm vwCl zTW RX12 cX12_lack 5 111 9 C' ∨ zCS zTW RX12 cX12_lack 5 111 9 C') := (List.forall_mem_cons.mpr ⟨⟨zp_X12_layState_4 l, Or.inl (zcv_2 zw_X12_layState zr_X12_layState_4 409 zt_X12_lack_9 zl_RX12_409 (by decide +kernel) (by decide +kernel))⟩, (List.forall_mem_nil _)⟩)
def zm_X12_lack_4 : zMD := (zc_X12_lack, [(117, 12, 0, some .int)], ([], []), [(9, [zk_X12_layState_4])], [], [], [])
set_option maxRecDepth 100000 in
theorem zv_X12_lack_4 : zmeth zkdm zk_X12_lack_4 zm_X12_lack_4 200000 1 = true := by decide +kernel
theorem zp_X12_lack_4 (l : Launch) : zMet zkdm vwCl zTW zKPr l zk_X12_lack_4 := z_met zkpr_ok zTW_good zk_X12_lack_4 zm_X12_lack_4 200000 1 (by decide +kernel) (by decide +kernel) (by decide +kernel) zv_X12_lack_4 zd_X12_lack (List.forall_mem_cons.mpr ⟨zf_RX12_117, (List.forall_mem_nil _)⟩) ⟨(List.forall_mem_nil _), (List.forall_mem_nil _)⟩ (List.forall_mem_cons.mpr ⟨ze_X12_lack_4_9 l, (List.forall_mem_nil _)⟩) (List.forall_mem_nil _)
def zk_X12_lack_5 : zCT := ((yX12_lack, cX12_lack, 6, (some .int)), (5, 111), ([(37, 1, 0), (0, 2, 0), (0, 3, 0), (0, 4, 0), (0, 5, 0), (0, 6, 0)], ([(0, 0), (0, 2147483647), (1, 1), ((-2147483648), 2147483647), ((-2147483648), 2147483647), ((-2147483648), 2147483647), ((-2147483648), 2147483647), (0, 2147483647), (0, 1), (0, 2), (0, 2), (0, 2147483647), (0, 8), (0, 9), (0, 8), (0, 9)], [(0, (37, 1, 0)), (1, (0, 2, 0)), (2, (0, 3, 0)), (3, (0, 4, 0)), (4, (0, 5, 0)), (5, (0, 6, 0))], [], [((35, 1), 5, (6, 7, 0)), ((4, 7), 0, (0, 8, 0)), ((4, 7), 1, (0, 9, 0)), ((4, 7), 2, (0, 10, 0)), ((35, 1), 6, (7, 11, 0)), ((5, 11), 0, (0, 12, 0)), ((5, 11), 4, (0, 13, 0)), ((5, 11), 50, (0, 14, 0)), ((5, 11), 54, (0, 15, 0))], [])), [([(0, 0), (0, 2147483647), (1, 1), ((-2147483648), 2147483647), ((-2147483648), 2147483647), ((-2147483648), 2147483647), ((-2147483648), 2147483647), (0, 2147483647), (0, 1), (0, 2), (0, 2), (0, 2147483647), (0, 8), (0, 9), (0, 8), (0, 9)], [], [(0, 0, (-1))], [], [])], [(35, 0, 0), (35, 33, 33)])
theorem zr_X12_lack_5 : zRC zkdm vwCl zk_X12_lack_5 5 := ⟨by decide +kernel, (37, 1, 0), [(0, 2, 0), (0, 3, 0), (0, 4, 0), (0, 5, 0), (0, 6, 0)], _, TX12, 64, rfl, by decide, by decide +kernel, zkdm_35, rfl, rfl⟩
theorem ze_X12_lack_5_9 (l : Launch) : ∀ C' ∈ [zk_X12_layState_5], zMet zkdm vwCl zTW zKPr l C' ∧ (zCV zkdm vwCl zTW RX12 cX12_lack 5 111 9 C' ∨ zCS zTW RX12 cX12_lack 5 111 9 C') := (List.forall_mem_cons.mpr ⟨⟨zp_X12_layState_5 l, Or.inl (zcv_2 zw_X12_layState zr_X12_layState_5 409 zt_X12_lack_9 zl_RX12_409 (by decide +kernel) (by decide +kernel))⟩, (List.forall_mem_nil _)⟩)
def zm_X12_lack_5 : zMD := (zc_X12_lack, [(117, 12, 0, some .int)], ([], []), [(9, [zk_X12_layState_5])], [], [], [])
set_option maxRecDepth 100000 in
theorem zv_X12_lack_5 : zmeth zkdm zk_X12_lack_5 zm_X12_lack_5 200000 1 = true := by decide +kernel
theorem zp_X12_lack_5 (l : Launch) : zMet zkdm vwCl zTW zKPr l zk_X12_lack_5 := z_met zkpr_ok zTW_good zk_X12_lack_5 zm_X12_lack_5 200000 1 (by decide +kernel) (by decide +kernel) (by decide +kernel) zv_X12_lack_5 zd_X12_lack (List.forall_mem_cons.mpr ⟨zf_RX12_117, (List.forall_mem_nil _)⟩) ⟨(List.forall_mem_nil _), (List.forall_mem_nil _)⟩ (List.forall_mem_cons.mpr ⟨ze_X12_lack_5_9 l, (List.forall_mem_nil _)⟩) (List.forall_mem_nil _)
end
section
def zc_X12_luck : List (Nat × Jvm.ClassFile.Instr × Nat) := [(0, .aload_n 0, 1), (1, .getfield 304, 3), (4, .ifCond .ne 7, 3), (7, .iconst 0, 1), (8, .goto 9, 3), (11, .aload_n 0, 1), (12, .getfield 68, 3), (15, .iconst 0, 1), (16, .iaload, 1), (17, .istore_n 1, 1), (18, .iload_n 1, 1), (19, .istore_n 2, 1), (20, .iconst 0, 1), (21, .istore_n 3, 1), (22, .iload_n 3, 1), (23, .aload_n 0, 1), (24, .getfield 304, 3), (27, .if_icmp .ge 31, 3), (30, .iload_n 1, 1), (31, .aload_n 0, 1), (32, .getfield 68, 3), (35, .iload_n 3, 1), (36, .iaload, 1), (37, .invokestatic 454, 3), (40, .istore_n 1, 1), (41, .iload_n 2, 1), (42, .aload_n 0, 1), (43, .getfield 68, 3), (46, .iload_n 3, 1), (47, .iaload, 1), (48, .invokestatic 194, 3), (51, .istore_n 2, 1), (52, .iinc 3 1, 3), (55, .goto (-33), 3), (58, .iload_n 2, 1), (59, .iload_n 1, 1), (60, .isub, 1), (61, .ireturn, 1)]
theorem zd_X12_luck : ∀ q ∈ zc_X12_luck, decode cX12_luck q.1 = .ok (q.2.1, q.2.2) := by decide +kernel
set_option maxRecDepth 100000 in
theorem zq_X12_luck : lw_tbl[1906]? = some (.code yX12_luck cX12_luck 4 (some .int)) := rfl
theorem zw_X12_luck : zMV yX12_luck cX12_luck 4 (some .int) 0 := ⟨⟨zTin 113 (by decide +kernel) rfl, zTin 1906 zq_X12_luck rfl, ⟨by decide, by decide⟩, by decide +kernel⟩, zTin 1905 (by decide +kernel) rfl, zTin 96 (by decide +kernel) rfl⟩
def zk_X12_luck_0 : zCT := ((yX12_luck, cX12_luck, 4, (some .int)), (1, 21), ([(37, 1, 0)], ([(0, 0), (0, 2147483647), (0, 1), (2, 8)], [(0, (37, 1, 0))], [], [((35, 1), 23, (0, 2, 0)), ((35, 1), 24, (0, 3, 0))], [])), [([(0, 0), (0, 2147483647), (0, 1), (2, 8), ((-2147483648), 2147483647)], [], [(0, 4, 0)], [], [])], [])
theorem zr_X12_luck_0 : zRC zkdm vwCl zk_X12_luck_0 0 := ⟨by decide +kernel, (37, 1, 0), [], _, TX12, 64, rfl, by decide, by decide +kernel, zkdm_35, rfl, rfl⟩
theorem zt_X12_luck_37 : decode cX12_luck 37 = .ok (.invokestatic 454, 3) := by decide +kernel
theorem ze_X12_luck_0_37 (l : Launch) : ∀ C' ∈ [zk_X12_lesser_0], zMet zkdm vwCl zTW zKPr l C' ∧ (zCV zkdm vwCl zTW RX12 cX12_luck 1 21 37 C' ∨ zCS zTW RX12 cX12_luck 1 21 37 C') := (List.forall_mem_cons.mpr ⟨⟨zp_X12_lesser_0 l, Or.inr (zcs_of zw_X12_lesser 454 zt_X12_luck_37 zl_RX12_454 (by decide +kernel) (by decide +kernel) (by decide +kernel))⟩, (List.forall_mem_nil _)⟩)
theorem zt_X12_luck_48 : decode cX12_luck 48 = .ok (.invokestatic 194, 3) := by decide +kernel
theorem ze_X12_luck_0_48 (l : Launch) : ∀ C' ∈ [zk_X12_greater_5], zMet zkdm vwCl zTW zKPr l C' ∧ (zCV zkdm vwCl zTW RX12 cX12_luck 1 21 48 C' ∨ zCS zTW RX12 cX12_luck 1 21 48 C') := (List.forall_mem_cons.mpr ⟨⟨zp_X12_greater_5 l, Or.inr (zcs_of zw_X12_greater 194 zt_X12_luck_48 zl_RX12_194 (by decide +kernel) (by decide +kernel) (by decide +kernel))⟩, (List.forall_mem_nil _)⟩)
def zm_X12_luck_0 : zMD := (zc_X12_luck, [(68, 12, 42, none), (304, 12, 28, some .int)], ([], []), [(37, [zk_X12_lesser_0]), (48, [zk_X12_greater_5])], [], [(22, ([(0, 0), (0, 2147483647), (0, 1), (2, 8), ((-2147483648), 2147483647), ((-2147483648), 2147483647), (0, 6), (0, 6)], [(0, (37, 1, 0)), (1, (0, 4, 0)), (2, (0, 5, 0)), (3, (0, 6, 0))], [], [((35, 1), 28, (0, 7, 0)), ((35, 1), 23, (0, 2, 0)), ((35, 1), 24, (0, 3, 0))], []), (10970927021948934, [(6, (-1))]))], [])
set_option maxRecDepth 100000 in
theorem zv_X12_luck_0 : zmeth zkdm zk_X12_luck_0 zm_X12_luck_0 200000 10970927021948941 = true := by decide +kernel
theorem zp_X12_luck_0 (l : Launch) : zMet zkdm vwCl zTW zKPr l zk_X12_luck_0 := z_met zkpr_ok zTW_good zk_X12_luck_0 zm_X12_luck_0 200000 10970927021948941 (by decide +kernel) (by decide +kernel) (by decide +kernel) zv_X12_luck_0 zd_X12_luck (List.forall_mem_cons.mpr ⟨zf_RX12_68, (List.forall_mem_cons.mpr ⟨zf_RX12_304, (List.forall_mem_nil _)⟩)⟩) ⟨(List.forall_mem_nil _), (List.forall_mem_nil _)⟩ (List.forall_mem_cons.mpr ⟨ze_X12_luck_0_37 l, (List.forall_mem_cons.mpr ⟨ze_X12_luck_0_48 l, (List.forall_mem_nil _)⟩)⟩) (List.forall_mem_nil _)
def zk_X12_of_94 : zCT := ((yX12_of, cX12_of, 2, (some .int)), (0, 0), ([(37, 1, 0), (0, 2, 0)], ([(0, 0), (0, 2147483647), (33, 48), (0, 1)], [(0, (37, 1, 0)), (1, (0, 2, 0))], [], [((35, 1), 23, (0, 3, 0))], [])), [([(0, 0), (0, 2147483647), (33, 48), (0, 1), ((-1), 99)], [], [(0, 4, 0)], [], [])], [])
theorem zr_X12_of_94 : zRC zkdm vwCl zk_X12_of_94 1 := ⟨by decide +kernel, (37, 1, 0), [(0, 2, 0)], _, TX12, 64, rfl, by decide, by decide +kernel, zkdm_35, rfl, rfl⟩
def zm_X12_of_94 : zMD := (zc_X12_of, [(26, 12, 6, none), (282, 12, 23, some .int)], ([], []), [], [], [], [10])
set_option maxRecDepth 100000 in
theorem zv_X12_of_94 : zmeth zkdm zk_X12_of_94 zm_X12_of_94 200000 1 = true := by decide +kernel
theorem zp_X12_of_94 (l : Launch) : zMet zkdm vwCl zTW zKPr l zk_X12_of_94 := z_met zkpr_ok zTW_good zk_X12_of_94 zm_X12_of_94 200000 1 (by decide +kernel) (by decide +kernel) (by decide +kernel) zv_X12_of_94 zd_X12_of (List.forall_mem_cons.mpr ⟨zf_RX12_26, (List.forall_mem_cons.mpr ⟨zf_RX12_282, (List.forall_mem_nil _)⟩)⟩) ⟨(List.forall_mem_nil _), (List.forall_mem_nil _)⟩ (List.forall_mem_nil _) (List.forall_mem_nil _)
def zc_X12_richestCoast : List (Nat × Jvm.ClassFile.Instr × Nat) := [(0, .iconst 0, 1), (1, .istore_n 1, 1), (2, .iconst (-1), 1), (3, .istore_n 2, 1), (4, .iconst 0, 1), (5, .istore_n 3, 1), (6, .iload_n 3, 1), (7, .iconst 3, 1), (8, .if_icmp .ge 82, 3), (11, .iconst 0, 1), (12, .istore 4, 2), (14, .iconst 0, 1), (15, .istore 5, 2), (17, .iload 5, 2), (19, .aload_n 0, 1), (20, .getfield 304, 3), (23, .if_icmp .ge 42, 3), (26, .iload 4, 2), (28, .aload_n 0, 1), (29, .bipush 31, 2), (31, .iconst 3, 1), (32, .iload 5, 2), (34, .imul, 1), (35, .iadd, 1), (36, .iconst 2, 1), (37, .iadd, 1), (38, .invokevirtual 285, 3), (41, .iload_n 3, 1), (42, .if_icmp .ne 13, 3), (45, .aload_n 0, 1), (46, .getfield 68, 3), (49, .iload 5, 2), (51, .iaload, 1), (52, .goto 4, 3), (55, .iconst 0, 1), (56, .iadd, 1), (57, .istore 4, 2), (59, .iinc 5 1, 3), (62, .goto (-45), 3), (65, .iload 4, 2), (67, .iload_n 2, 1), (68, .if_icmp .le 7, 3), (71, .iload_n 3, 1), (72, .goto 4, 3), (75, .iload_n 1, 1), (76, .istore_n 1, 1), (77, .iload_n 2, 1), (78, .iload 4, 2), (80, .invokestatic 194, 3), (83, .istore_n 2, 1), (84, .iinc 3 1, 3), (87, .goto (-81), 3), (90, .iload_n 1, 1), (91, .ireturn, 1)]
theorem zd_X12_richestCoast : ∀ q ∈ zc_X12_richestCoast, decode cX12_richestCoast q.1 = .ok (q.2.1, q.2.2) := by decide +kernel
set_option maxRecDepth 100000 in
theorem zq_X12_richestCoast : lw_tbl[1910]? = some (.code yX12_richestCoast cX12_richestCoast 6 (some .int)) := rfl
theorem zw_X12_richestCoast : zMV yX12_richestCoast cX12_richestCoast 6 (some .int) 0 := ⟨⟨zTin 113 (by decide +kernel) rfl, zTin 1910 zq_X12_richestCoast rfl, ⟨by decide, by decide⟩, by decide +kernel⟩, zTin 1909 (by decide +kernel) rfl, zTin 97 (by decide +kernel) rfl⟩
def zk_X12_richestCoast_0 : zCT := ((yX12_richestCoast, cX12_richestCoast, 6, (some .int)), (1, 21), ([(37, 1, 0)], ([(0, 0), (0, 2147483647), (0, 1), (2, 8)], [(0, (37, 1, 0))], [], [((35, 1), 23, (0, 2, 0)), ((35, 1), 24, (0, 3, 0))], [])), [([(0, 0), (0, 2147483647), (0, 1), (2, 8), (0, 2)], [], [(0, 4, 0)], [], [])], [])
theorem zr_X12_richestCoast_0 : zRC zkdm vwCl zk_X12_richestCoast_0 0 := ⟨by decide +kernel, (37, 1, 0), [], _, TX12, 64, rfl, by decide, by decide +kernel, zkdm_35, rfl, rfl⟩
theorem zt_X12_richestCoast_38 : decode cX12_richestCoast 38 = .ok (.invokevirtual 285, 3) := by decide +kernel
theorem ze_X12_richestCoast_0_38 (l : Launch) : ∀ C' ∈ [zk_X12_of_94], zMet zkdm vwCl zTW zKPr l C' ∧ (zCV zkdm vwCl zTW RX12 cX12_richestCoast 1 21 38 C' ∨ zCS zTW RX12 cX12_richestCoast 1 21 38 C') := (List.forall_mem_cons.mpr ⟨⟨zp_X12_of_94 l, Or.inl (zcv_2 zw_X12_of zr_X12_of_94 285 zt_X12_richestCoast_38 zl_RX12_285 (by decide +kernel) (by decide +kernel))⟩, (List.forall_mem_nil _)⟩)
theorem zt_X12_richestCoast_80 : decode cX12_richestCoast 80 = .ok (.invokestatic 194, 3) := by decide +kernel
theorem ze_X12_richestCoast_0_80 (l : Launch) : ∀ C' ∈ [zk_X12_greater_3, zk_X12_greater_4], zMet zkdm vwCl zTW zKPr l C' ∧ (zCV zkdm vwCl zTW RX12 cX12_richestCoast 1 21 80 C' ∨ zCS zTW RX12 cX12_richestCoast 1 21 80 C') := (List.forall_mem_cons.mpr ⟨⟨zp_X12_greater_3 l, Or.inr (zcs_of zw_X12_greater 194 zt_X12_richestCoast_80 zl_RX12_194 (by decide +kernel) (by decide +kernel) (by decide +kernel))⟩, (List.forall_mem_cons.mpr ⟨⟨zp_X12_greater_4 l, Or.inr (zcs_of zw_X12_greater 194 zt_X12_richestCoast_80 zl_RX12_194 (by decide +kernel) (by decide +kernel) (by decide +kernel))⟩, (List.forall_mem_nil _)⟩)⟩)
def zm_X12_richestCoast_0 : zMD := (zc_X12_richestCoast, [(68, 12, 42, none), (304, 12, 28, some .int)], ([], []), [(38, [zk_X12_of_94]), (80, [zk_X12_greater_3, zk_X12_greater_4])], [], [(6, ([(0, 0), (0, 2147483647), (0, 1), (2, 8), (0, 2), ((-1), 2147483647), (0, 3)], [(0, (37, 1, 0)), (1, (0, 4, 0)), (2, (0, 5, 0)), (3, (0, 6, 0))], [], [((35, 1), 23, (0, 2, 0)), ((35, 1), 24, (0, 3, 0))], []), (13284304589874454069503926218958462517247, [(6, (-1208925819614629174706176))])), (17, ([(0, 0), (0, 2147483647), (0, 1), (2, 8), (0, 2), ((-1), 2147483647), (0, 2), ((-2147483648), 2147483647), (0, 6)], [(0, (37, 1, 0)), (1, (0, 4, 0)), (2, (0, 5, 0)), (3, (0, 6, 0)), (4, (0, 7, 0)), (5, (0, 8, 0))], [], [((35, 1), 23, (0, 2, 0)), ((35, 1), 24, (0, 3, 0))], []), (13284304589874452860578117580753867898886, [(6, (-1208925819614629174706176)), (8, (-1))]))], [])
set_option maxRecDepth 100000 in
theorem zv_X12_richestCoast_0 : zmeth zkdm zk_X12_richestCoast_0 zm_X12_richestCoast_0 200000 13284304589874457696281385062845986635776 = true := by decide +kernel
theorem zp_X12_richestCoast_0 (l : Launch) : zMet zkdm vwCl zTW zKPr l zk_X12_richestCoast_0 := z_met zkpr_ok zTW_good zk_X12_richestCoast_0 zm_X12_richestCoast_0 200000 13284304589874457696281385062845986635776 (by decide +kernel) (by decide +kernel) (by decide +kernel) zv_X12_richestCoast_0 zd_X12_richestCoast (List.forall_mem_cons.mpr ⟨zf_RX12_68, (List.forall_mem_cons.mpr ⟨zf_RX12_304, (List.forall_mem_nil _)⟩)⟩) ⟨(List.forall_mem_nil _), (List.forall_mem_nil _)⟩ (List.forall_mem_cons.mpr ⟨ze_X12_richestCoast_0_38 l, (List.forall_mem_cons.mpr ⟨ze_X12_richestCoast_0_80 l, (List.forall_mem_nil _)⟩)⟩) (List.forall_mem_nil _)
def zc_X12_richest : List (Nat × Jvm.ClassFile.Instr × Nat) := [(0, .iconst (-1), 1), (1, .istore_n 1, 1), (2, .iconst 0, 1), (3, .istore_n 2, 1), (4, .iload_n 2, 1), (5, .aload_n 0, 1), (6, .getfield 304, 3), (9, .if_icmp .ge 35, 3), (12, .iload_n 1, 1), (13, .iconst (-1), 1), (14, .if_icmp .eq 18, 3), (17, .aload_n 0, 1), (18, .getfield 68, 3), (21, .iload_n 2, 1), (22, .iaload, 1), (23, .aload_n 0, 1), (24, .getfield 68, 3), (27, .iload_n 1, 1), (28, .iaload, 1), (29, .if_icmp .le 7, 3), (32, .iload_n 2, 1), (33, .goto 4, 3), (36, .iload_n 1, 1), (37, .istore_n 1, 1), (38, .iinc 2 1, 3), (41, .goto (-37), 3), (44, .iload_n 1, 1), (45, .ireturn, 1)]
theorem zd_X12_richest : ∀ q ∈ zc_X12_richest, decode cX12_richest q.1 = .ok (q.2.1, q.2.2) := by decide +kernel
set_option maxRecDepth 100000 in
theorem zq_X12_richest : lw_tbl[1914]? = some (.code yX12_richest cX12_richest 3 (some .int)) := rfl
theorem zw_X12_richest : zMV yX12_richest cX12_richest 3 (some .int) 0 := ⟨⟨zTin 113 (by decide +kernel) rfl, zTin 1914 zq_X12_richest rfl, ⟨by decide, by decide⟩, by decide +kernel⟩, zTin 1913 (by decide +kernel) rfl, zTin 98 (by decide +kernel) rfl⟩
def zk_X12_richest_0 : zCT := ((yX12_richest, cX12_richest, 3, (some .int)), (0, 0), ([(37, 1, 0)], ([(0, 0), (0, 2147483647), (0, 1), (2, 8)], [(0, (37, 1, 0))], [], [((35, 1), 23, (0, 2, 0)), ((35, 1), 24, (0, 3, 0))], [])), [([(0, 0), (0, 2147483647), (0, 1), (2, 8), ((-1), 5)], [], [(0, 4, 0)], [], [])], [])
theorem zr_X12_richest_0 : zRC zkdm vwCl zk_X12_richest_0 0 := ⟨by decide +kernel, (37, 1, 0), [], _, TX12, 64, rfl, by decide, by decide +kernel, zkdm_35, rfl, rfl⟩
def zm_X12_richest_0 : zMD := (zc_X12_richest, [(68, 12, 42, none), (304, 12, 28, some .int)], ([], []), [], [], [(4, ([(0, 0), (0, 2147483647), (0, 1), (2, 8), ((-1), 5), (0, 6)], [(0, (37, 1, 0)), (1, (0, 4, 0)), (2, (0, 5, 0))], [], [((35, 1), 23, (0, 2, 0)), ((35, 1), 24, (0, 3, 0))], []), (10990718231248902, [(5, (-1))]))], [])
set_option maxRecDepth 100000 in
theorem zv_X12_richest_0 : zmeth zkdm zk_X12_richest_0 zm_X12_richest_0 200000 10990718231248909 = true := by decide +kernel
theorem zp_X12_richest_0 (l : Launch) : zMet zkdm vwCl zTW zKPr l zk_X12_richest_0 := z_met zkpr_ok zTW_good zk_X12_richest_0 zm_X12_richest_0 200000 10990718231248909 (by decide +kernel) (by decide +kernel) (by decide +kernel) zv_X12_richest_0 zd_X12_richest (List.forall_mem_cons.mpr ⟨zf_RX12_68, (List.forall_mem_cons.mpr ⟨zf_RX12_304, (List.forall_mem_nil _)⟩)⟩) ⟨(List.forall_mem_nil _), (List.forall_mem_nil _)⟩ (List.forall_mem_nil _) (List.forall_mem_nil _)
def zc_X12_sum : List (Nat × Jvm.ClassFile.Instr × Nat) := [(0, .aload_n 0, 1), (1, .iconst 0, 1), (2, .putfield 117, 3), (5, .aload_n 0, 1), (6, .iload_n 1, 1), (7, .iload_n 2, 1), (8, .invokevirtual 406, 3), (11, .ifCond .ne 6, 3), (14, .bipush (-2), 2), (16, .ireturn, 1), (17, .iload_n 3, 1), (18, .tableswitch 52 0 3 #[30, 35, 42, 47], 30), (48, .aload_n 0, 1), (49, .invokevirtual 475, 3), (52, .ireturn, 1), (53, .aload_n 0, 1), (54, .bipush 63, 2), (56, .invokevirtual 433, 3), (59, .ireturn, 1), (60, .aload_n 0, 1), (61, .invokevirtual 478, 3), (64, .ireturn, 1), (65, .aload_n 0, 1), (66, .invokevirtual 481, 3), (69, .ireturn, 1), (70, .bipush (-2), 2), (72, .ireturn, 1)]
theorem zd_X12_sum : ∀ q ∈ zc_X12_sum, decode cX12_sum q.1 = .ok (q.2.1, q.2.2) := by decide +kernel
set_option maxRecDepth 100000 in
theorem zq_X12_sum : lw_tbl[1902]? = some (.code yX12_sum cX12_sum 4 (some .int)) := rfl
theorem zw_X12_sum : zMV yX12_sum cX12_sum 4 (some .int) 3 := ⟨⟨zTin 113 (by decide +kernel) rfl, zTin 1902 zq_X12_sum rfl, ⟨by decide, by decide⟩, by decide +kernel⟩, zTin 1900 (by decide +kernel) rfl, zTin 1901 (by decide +kernel) rfl⟩
def zk_X12_sum_0 : zCT := ((yX12_sum, cX12_sum, 4, (some .int)), (10, 231), ([(37, 1, 0), (0, 2, 0), (0, 3, 0), (0, 4, 0)], ([(0, 0), (0, 2147483647), (0, 0), ((-2147483648), 2147483647), ((-2147483648), 2147483647), (0, 2147483647), (1, 2), (0, 2), (0, 2), (0, 2147483647), (2, 8), (1, 9), (0, 8), (0, 9)], [(0, (37, 1, 0)), (1, (0, 2, 0)), (2, (0, 3, 0)), (3, (0, 4, 0))], [], [((35, 1), 5, (6, 5, 0)), ((4, 5), 0, (0, 6, 0)), ((4, 5), 1, (0, 7, 0)), ((4, 5), 2, (0, 8, 0)), ((35, 1), 6, (7, 9, 0)), ((5, 9), 0, (0, 10, 0)), ((5, 9), 4, (0, 11, 0)), ((5, 9), 50, (0, 12, 0)), ((5, 9), 54, (0, 13, 0))], [])), [([(0, 0), (0, 2147483647), (0, 0), ((-2147483648), 2147483647), ((-2147483648), 2147483647), (0, 2147483647), (1, 2), (0, 2), (0, 2), (0, 2147483647), (2, 8), (1, 9), (0, 8), (0, 9)], [], [(0, 0, (-2))], [], []), ([(0, 0), (0, 2147483647), (0, 0), (0, 1), (0, 3), (0, 2147483647), (1, 2), (1, 2), (0, 2), (0, 2147483647), (2, 8), (1, 9), (0, 8), (0, 9), ((-2147483648), 2147483647)], [], [(0, 14, 0)], [], [])], [(10, 0, 5), (11, 0, 5), (13, 0, 5), (14, 0, 5), (15, 0, 5), (16, 0, 5), (17, 0, 5), (18, 0, 5), (19, 0, 5), (20, 0, 5), (21, 0, 29), (22, 0, 29), (23, 0, 29), (24, 0, 29), (25, 0, 29), (35, 0, 0), (35, 23, 29), (35, 33, 35), (35, 49, 51)])
theorem zr_X12_sum_0 : zRC zkdm vwCl zk_X12_sum_0 3 := ⟨by decide +kernel, (37, 1, 0), [(0, 2, 0), (0, 3, 0), (0, 4, 0)], _, TX12, 64, rfl, by decide, by decide +kernel, zkdm_35, rfl, rfl⟩
theorem zt_X12_sum_8 : decode cX12_sum 8 = .ok (.invokevirtual 406, 3) := by decide +kernel
theorem ze_X12_sum_0_8 (l : Launch) : ∀ C' ∈ [zk_X12_layDay_0], zMet zkdm vwCl zTW zKPr l C' ∧ (zCV zkdm vwCl zTW RX12 cX12_sum 10 231 8 C' ∨ zCS zTW RX12 cX12_sum 10 231 8 C') := (List.forall_mem_cons.mpr ⟨⟨zp_X12_layDay_0 l, Or.inl (zcv_2 zw_X12_layDay zr_X12_layDay_0 406 zt_X12_sum_8 zl_RX12_406 (by decide +kernel) (by decide +kernel))⟩, (List.forall_mem_nil _)⟩)
theorem zl_RX12_475 : Cond.methodLink RX12 475 yX12_luck ∈ zTW := zTin 1903 (by decide +kernel) rfl
theorem zt_X12_sum_49 : decode cX12_sum 49 = .ok (.invokevirtual 475, 3) := by decide +kernel
theorem ze_X12_sum_0_49 (l : Launch) : ∀ C' ∈ [zk_X12_luck_0], zMet zkdm vwCl zTW zKPr l C' ∧ (zCV zkdm vwCl zTW RX12 cX12_sum 10 231 49 C' ∨ zCS zTW RX12 cX12_sum 10 231 49 C') := (List.forall_mem_cons.mpr ⟨⟨zp_X12_luck_0 l, Or.inl (zcv_2 zw_X12_luck zr_X12_luck_0 475 zt_X12_sum_49 zl_RX12_475 (by decide +kernel) (by decide +kernel))⟩, (List.forall_mem_nil _)⟩)
theorem zt_X12_sum_56 : decode cX12_sum 56 = .ok (.invokevirtual 433, 3) := by decide +kernel
theorem ze_X12_sum_0_56 (l : Launch) : ∀ C' ∈ [zk_X12_fishOf_0], zMet zkdm vwCl zTW zKPr l C' ∧ (zCV zkdm vwCl zTW RX12 cX12_sum 10 231 56 C' ∨ zCS zTW RX12 cX12_sum 10 231 56 C') := (List.forall_mem_cons.mpr ⟨⟨zp_X12_fishOf_0 l, Or.inl (zcv_2 zw_X12_fishOf zr_X12_fishOf_0 433 zt_X12_sum_56 zl_RX12_433 (by decide +kernel) (by decide +kernel))⟩, (List.forall_mem_nil _)⟩)
theorem zl_RX12_478 : Cond.methodLink RX12 478 yX12_richestCoast ∈ zTW := zTin 1907 (by decide +kernel) rfl
theorem zt_X12_sum_61 : decode cX12_sum 61 = .ok (.invokevirtual 478, 3) := by decide +kernel
theorem ze_X12_sum_0_61 (l : Launch) : ∀ C' ∈ [zk_X12_richestCoast_0], zMet zkdm vwCl zTW zKPr l C' ∧ (zCV zkdm vwCl zTW RX12 cX12_sum 10 231 61 C' ∨ zCS zTW RX12 cX12_sum 10 231 61 C') := (List.forall_mem_cons.mpr ⟨⟨zp_X12_richestCoast_0 l, Or.inl (zcv_2 zw_X12_richestCoast zr_X12_richestCoast_0 478 zt_X12_sum_61 zl_RX12_478 (by decide +kernel) (by decide +kernel))⟩, (List.forall_mem_nil _)⟩)
theorem zl_RX12_481 : Cond.methodLink RX12 481 yX12_richest ∈ zTW := zTin 1911 (by decide +kernel) rfl
theorem zt_X12_sum_66 : decode cX12_sum 66 = .ok (.invokevirtual 481, 3) := by decide +kernel
theorem ze_X12_sum_0_66 (l : Launch) : ∀ C' ∈ [zk_X12_richest_0], zMet zkdm vwCl zTW zKPr l C' ∧ (zCV zkdm vwCl zTW RX12 cX12_sum 10 231 66 C' ∨ zCS zTW RX12 cX12_sum 10 231 66 C') := (List.forall_mem_cons.mpr ⟨⟨zp_X12_richest_0 l, Or.inl (zcv_2 zw_X12_richest zr_X12_richest_0 481 zt_X12_sum_66 zl_RX12_481 (by decide +kernel) (by decide +kernel))⟩, (List.forall_mem_nil _)⟩)
def zm_X12_sum_0 : zMD := (zc_X12_sum, [(117, 12, 0, some .int)], ([], []), [(8, [zk_X12_layDay_0]), (49, [zk_X12_luck_0]), (56, [zk_X12_fishOf_0]), (61, [zk_X12_richestCoast_0]), (66, [zk_X12_richest_0])], [], [], [])
set_option maxRecDepth 100000 in
theorem zv_X12_sum_0 : zmeth zkdm zk_X12_sum_0 zm_X12_sum_0 200000 1 = true := by decide +kernel
theorem zp_X12_sum_0 (l : Launch) : zMet zkdm vwCl zTW zKPr l zk_X12_sum_0 := z_met zkpr_ok zTW_good zk_X12_sum_0 zm_X12_sum_0 200000 1 (by decide +kernel) (by decide +kernel) (by decide +kernel) zv_X12_sum_0 zd_X12_sum (List.forall_mem_cons.mpr ⟨zf_RX12_117, (List.forall_mem_nil _)⟩) ⟨(List.forall_mem_nil _), (List.forall_mem_nil _)⟩ (List.forall_mem_cons.mpr ⟨ze_X12_sum_0_8 l, (List.forall_mem_cons.mpr ⟨ze_X12_sum_0_49 l, (List.forall_mem_cons.mpr ⟨ze_X12_sum_0_56 l, (List.forall_mem_cons.mpr ⟨ze_X12_sum_0_61 l, (List.forall_mem_cons.mpr ⟨ze_X12_sum_0_66 l, (List.forall_mem_nil _)⟩)⟩)⟩)⟩)⟩) (List.forall_mem_nil _)
def zk_X12_sum_1 : zCT := ((yX12_sum, cX12_sum, 4, (some .int)), (10, 231), ([(37, 1, 0), (0, 2, 0), (0, 3, 0), (0, 4, 0)], ([(0, 0), (0, 2147483647), (1, 1), ((-2147483648), 2147483647), ((-2147483648), 2147483647), (0, 2147483647), (2, 2), (0, 2), (0, 2), (0, 2147483647), (0, 8), (0, 9), (2, 8), (1, 9)], [(0, (37, 1, 0)), (1, (0, 2, 0)), (2, (0, 3, 0)), (3, (0, 4, 0))], [], [((35, 1), 5, (6, 5, 0)), ((4, 5), 0, (0, 6, 0)), ((4, 5), 1, (0, 7, 0)), ((4, 5), 2, (0, 8, 0)), ((35, 1), 6, (7, 9, 0)), ((5, 9), 0, (0, 10, 0)), ((5, 9), 4, (0, 11, 0)), ((5, 9), 50, (0, 12, 0)), ((5, 9), 54, (0, 13, 0))], [])), [([(0, 0), (0, 2147483647), (1, 1), ((-2147483648), 2147483647), ((-2147483648), 2147483647), (0, 2147483647), (2, 2), (0, 2), (0, 2), (0, 2147483647), (0, 8), (0, 9), (2, 8), (1, 9)], [], [(0, 0, (-2))], [], []), ([(0, 0), (0, 2147483647), (1, 1), (0, 1), (0, 3), (0, 2147483647), (2, 2), (1, 2), (0, 2), (0, 2147483647), (0, 8), (0, 9), (2, 8), (1, 9), ((-2147483648), 2147483647)], [], [(0, 14, 0)], [], [])], [(10, 0, 5), (11, 0, 5), (13, 0, 5), (14, 0, 5), (15, 0, 5), (16, 0, 5), (17, 0, 5), (18, 0, 5), (19, 0, 5), (20, 0, 5), (21, 0, 29), (22, 0, 29), (23, 0, 29), (24, 0, 29), (25, 0, 29), (35, 0, 0), (35, 23, 29), (35, 33, 35), (35, 49, 51)])
theorem zr_X12_sum_1 : zRC zkdm vwCl zk_X12_sum_1 3 := ⟨by decide +kernel, (37, 1, 0), [(0, 2, 0), (0, 3, 0), (0, 4, 0)], _, TX12, 64, rfl, by decide, by decide +kernel, zkdm_35, rfl, rfl⟩
theorem ze_X12_sum_1_8 (l : Launch) : ∀ C' ∈ [zk_X12_layDay_1], zMet zkdm vwCl zTW zKPr l C' ∧ (zCV zkdm vwCl zTW RX12 cX12_sum 10 231 8 C' ∨ zCS zTW RX12 cX12_sum 10 231 8 C') := (List.forall_mem_cons.mpr ⟨⟨zp_X12_layDay_1 l, Or.inl (zcv_2 zw_X12_layDay zr_X12_layDay_1 406 zt_X12_sum_8 zl_RX12_406 (by decide +kernel) (by decide +kernel))⟩, (List.forall_mem_nil _)⟩)
theorem ze_X12_sum_1_49 (l : Launch) : ∀ C' ∈ [zk_X12_luck_0], zMet zkdm vwCl zTW zKPr l C' ∧ (zCV zkdm vwCl zTW RX12 cX12_sum 10 231 49 C' ∨ zCS zTW RX12 cX12_sum 10 231 49 C') := (List.forall_mem_cons.mpr ⟨⟨zp_X12_luck_0 l, Or.inl (zcv_2 zw_X12_luck zr_X12_luck_0 475 zt_X12_sum_49 zl_RX12_475 (by decide +kernel) (by decide +kernel))⟩, (List.forall_mem_nil _)⟩)
theorem ze_X12_sum_1_56 (l : Launch) : ∀ C' ∈ [zk_X12_fishOf_0], zMet zkdm vwCl zTW zKPr l C' ∧ (zCV zkdm vwCl zTW RX12 cX12_sum 10 231 56 C' ∨ zCS zTW RX12 cX12_sum 10 231 56 C') := (List.forall_mem_cons.mpr ⟨⟨zp_X12_fishOf_0 l, Or.inl (zcv_2 zw_X12_fishOf zr_X12_fishOf_0 433 zt_X12_sum_56 zl_RX12_433 (by decide +kernel) (by decide +kernel))⟩, (List.forall_mem_nil _)⟩)
theorem ze_X12_sum_1_61 (l : Launch) : ∀ C' ∈ [zk_X12_richestCoast_0], zMet zkdm vwCl zTW zKPr l C' ∧ (zCV zkdm vwCl zTW RX12 cX12_sum 10 231 61 C' ∨ zCS zTW RX12 cX12_sum 10 231 61 C') := (List.forall_mem_cons.mpr ⟨⟨zp_X12_richestCoast_0 l, Or.inl (zcv_2 zw_X12_richestCoast zr_X12_richestCoast_0 478 zt_X12_sum_61 zl_RX12_478 (by decide +kernel) (by decide +kernel))⟩, (List.forall_mem_nil _)⟩)
theorem ze_X12_sum_1_66 (l : Launch) : ∀ C' ∈ [zk_X12_richest_0], zMet zkdm vwCl zTW zKPr l C' ∧ (zCV zkdm vwCl zTW RX12 cX12_sum 10 231 66 C' ∨ zCS zTW RX12 cX12_sum 10 231 66 C') := (List.forall_mem_cons.mpr ⟨⟨zp_X12_richest_0 l, Or.inl (zcv_2 zw_X12_richest zr_X12_richest_0 481 zt_X12_sum_66 zl_RX12_481 (by decide +kernel) (by decide +kernel))⟩, (List.forall_mem_nil _)⟩)
def zm_X12_sum_1 : zMD := (zc_X12_sum, [(117, 12, 0, some .int)], ([], []), [(8, [zk_X12_layDay_1]), (49, [zk_X12_luck_0]), (56, [zk_X12_fishOf_0]), (61, [zk_X12_richestCoast_0]), (66, [zk_X12_richest_0])], [], [], [])
set_option maxRecDepth 100000 in
theorem zv_X12_sum_1 : zmeth zkdm zk_X12_sum_1 zm_X12_sum_1 200000 1 = true := by decide +kernel
theorem zp_X12_sum_1 (l : Launch) : zMet zkdm vwCl zTW zKPr l zk_X12_sum_1 := z_met zkpr_ok zTW_good zk_X12_sum_1 zm_X12_sum_1 200000 1 (by decide +kernel) (by decide +kernel) (by decide +kernel) zv_X12_sum_1 zd_X12_sum (List.forall_mem_cons.mpr ⟨zf_RX12_117, (List.forall_mem_nil _)⟩) ⟨(List.forall_mem_nil _), (List.forall_mem_nil _)⟩ (List.forall_mem_cons.mpr ⟨ze_X12_sum_1_8 l, (List.forall_mem_cons.mpr ⟨ze_X12_sum_1_49 l, (List.forall_mem_cons.mpr ⟨ze_X12_sum_1_56 l, (List.forall_mem_cons.mpr ⟨ze_X12_sum_1_61 l, (List.forall_mem_cons.mpr ⟨ze_X12_sum_1_66 l, (List.forall_mem_nil _)⟩)⟩)⟩)⟩)⟩) (List.forall_mem_nil _)
def zk_X12_sum_2 : zCT := ((yX12_sum, cX12_sum, 4, (some .int)), (4, 88), ([(37, 1, 0), (0, 2, 0), (0, 3, 0), (0, 4, 0)], ([(0, 0), (0, 2147483647), ((-2147483648), (-1)), ((-2147483648), 2147483647), ((-2147483648), 2147483647), (0, 2147483647), (0, 2), (0, 2), (0, 2), (0, 2147483647), (0, 8), (0, 9), (0, 8), (0, 9)], [(0, (37, 1, 0)), (1, (0, 2, 0)), (2, (0, 3, 0)), (3, (0, 4, 0))], [], [((35, 1), 5, (6, 5, 0)), ((4, 5), 0, (0, 6, 0)), ((4, 5), 1, (0, 7, 0)), ((4, 5), 2, (0, 8, 0)), ((35, 1), 6, (7, 9, 0)), ((5, 9), 0, (0, 10, 0)), ((5, 9), 4, (0, 11, 0)), ((5, 9), 50, (0, 12, 0)), ((5, 9), 54, (0, 13, 0))], [])), [([(0, 0), (0, 2147483647), ((-2147483648), (-1)), ((-2147483648), 2147483647), ((-2147483648), 2147483647), (0, 2147483647), (0, 2), (0, 2), (0, 2), (0, 2147483647), (0, 8), (0, 9), (0, 8), (0, 9)], [], [(0, 0, (-2))], [], [])], [(35, 0, 0), (35, 33, 33)])
theorem zr_X12_sum_2 : zRC zkdm vwCl zk_X12_sum_2 3 := ⟨by decide +kernel, (37, 1, 0), [(0, 2, 0), (0, 3, 0), (0, 4, 0)], _, TX12, 64, rfl, by decide, by decide +kernel, zkdm_35, rfl, rfl⟩
theorem ze_X12_sum_2_8 (l : Launch) : ∀ C' ∈ [zk_X12_layDay_2], zMet zkdm vwCl zTW zKPr l C' ∧ (zCV zkdm vwCl zTW RX12 cX12_sum 4 88 8 C' ∨ zCS zTW RX12 cX12_sum 4 88 8 C') := (List.forall_mem_cons.mpr ⟨⟨zp_X12_layDay_2 l, Or.inl (zcv_2 zw_X12_layDay zr_X12_layDay_2 406 zt_X12_sum_8 zl_RX12_406 (by decide +kernel) (by decide +kernel))⟩, (List.forall_mem_nil _)⟩)
def zm_X12_sum_2 : zMD := (zc_X12_sum, [(117, 12, 0, some .int)], ([], []), [(8, [zk_X12_layDay_2])], [], [], [])
set_option maxRecDepth 100000 in
theorem zv_X12_sum_2 : zmeth zkdm zk_X12_sum_2 zm_X12_sum_2 200000 1 = true := by decide +kernel
theorem zp_X12_sum_2 (l : Launch) : zMet zkdm vwCl zTW zKPr l zk_X12_sum_2 := z_met zkpr_ok zTW_good zk_X12_sum_2 zm_X12_sum_2 200000 1 (by decide +kernel) (by decide +kernel) (by decide +kernel) zv_X12_sum_2 zd_X12_sum (List.forall_mem_cons.mpr ⟨zf_RX12_117, (List.forall_mem_nil _)⟩) ⟨(List.forall_mem_nil _), (List.forall_mem_nil _)⟩ (List.forall_mem_cons.mpr ⟨ze_X12_sum_2_8 l, (List.forall_mem_nil _)⟩) (List.forall_mem_nil _)
def zk_X12_sum_3 : zCT := ((yX12_sum, cX12_sum, 4, (some .int)), (4, 88), ([(37, 1, 0), (0, 2, 0), (0, 3, 0), (0, 4, 0)], ([(0, 0), (0, 2147483647), (2, 2147483647), ((-2147483648), 2147483647), ((-2147483648), 2147483647), (0, 2147483647), (0, 2), (0, 2), (0, 2), (0, 2147483647), (0, 8), (0, 9), (0, 8), (0, 9)], [(0, (37, 1, 0)), (1, (0, 2, 0)), (2, (0, 3, 0)), (3, (0, 4, 0))], [], [((35, 1), 5, (6, 5, 0)), ((4, 5), 0, (0, 6, 0)), ((4, 5), 1, (0, 7, 0)), ((4, 5), 2, (0, 8, 0)), ((35, 1), 6, (7, 9, 0)), ((5, 9), 0, (0, 10, 0)), ((5, 9), 4, (0, 11, 0)), ((5, 9), 50, (0, 12, 0)), ((5, 9), 54, (0, 13, 0))], [])), [([(0, 0), (0, 2147483647), (2, 2147483647), ((-2147483648), 2147483647), ((-2147483648), 2147483647), (0, 2147483647), (0, 2), (0, 2), (0, 2), (0, 2147483647), (0, 8), (0, 9), (0, 8), (0, 9)], [], [(0, 0, (-2))], [], [])], [(35, 0, 0), (35, 33, 33)])
theorem zr_X12_sum_3 : zRC zkdm vwCl zk_X12_sum_3 3 := ⟨by decide +kernel, (37, 1, 0), [(0, 2, 0), (0, 3, 0), (0, 4, 0)], _, TX12, 64, rfl, by decide, by decide +kernel, zkdm_35, rfl, rfl⟩
theorem ze_X12_sum_3_8 (l : Launch) : ∀ C' ∈ [zk_X12_layDay_3], zMet zkdm vwCl zTW zKPr l C' ∧ (zCV zkdm vwCl zTW RX12 cX12_sum 4 88 8 C' ∨ zCS zTW RX12 cX12_sum 4 88 8 C') := (List.forall_mem_cons.mpr ⟨⟨zp_X12_layDay_3 l, Or.inl (zcv_2 zw_X12_layDay zr_X12_layDay_3 406 zt_X12_sum_8 zl_RX12_406 (by decide +kernel) (by decide +kernel))⟩, (List.forall_mem_nil _)⟩)
def zm_X12_sum_3 : zMD := (zc_X12_sum, [(117, 12, 0, some .int)], ([], []), [(8, [zk_X12_layDay_3])], [], [], [])
set_option maxRecDepth 100000 in
theorem zv_X12_sum_3 : zmeth zkdm zk_X12_sum_3 zm_X12_sum_3 200000 1 = true := by decide +kernel
theorem zp_X12_sum_3 (l : Launch) : zMet zkdm vwCl zTW zKPr l zk_X12_sum_3 := z_met zkpr_ok zTW_good zk_X12_sum_3 zm_X12_sum_3 200000 1 (by decide +kernel) (by decide +kernel) (by decide +kernel) zv_X12_sum_3 zd_X12_sum (List.forall_mem_cons.mpr ⟨zf_RX12_117, (List.forall_mem_nil _)⟩) ⟨(List.forall_mem_nil _), (List.forall_mem_nil _)⟩ (List.forall_mem_cons.mpr ⟨ze_X12_sum_3_8 l, (List.forall_mem_nil _)⟩) (List.forall_mem_nil _)
def zk_X12_sum_4 : zCT := ((yX12_sum, cX12_sum, 4, (some .int)), (4, 88), ([(37, 1, 0), (0, 2, 0), (0, 3, 0), (0, 4, 0)], ([(0, 0), (0, 2147483647), (0, 0), ((-2147483648), 2147483647), ((-2147483648), 2147483647), (0, 2147483647), (0, 0), (0, 2), (0, 2), (0, 2147483647), (0, 8), (0, 9), (0, 8), (0, 9)], [(0, (37, 1, 0)), (1, (0, 2, 0)), (2, (0, 3, 0)), (3, (0, 4, 0))], [], [((35, 1), 5, (6, 5, 0)), ((4, 5), 0, (0, 6, 0)), ((4, 5), 1, (0, 7, 0)), ((4, 5), 2, (0, 8, 0)), ((35, 1), 6, (7, 9, 0)), ((5, 9), 0, (0, 10, 0)), ((5, 9), 4, (0, 11, 0)), ((5, 9), 50, (0, 12, 0)), ((5, 9), 54, (0, 13, 0))], [])), [([(0, 0), (0, 2147483647), (0, 0), ((-2147483648), 2147483647), ((-2147483648), 2147483647), (0, 2147483647), (0, 0), (0, 2), (0, 2), (0, 2147483647), (0, 8), (0, 9), (0, 8), (0, 9)], [], [(0, 0, (-2))], [], [])], [(35, 0, 0), (35, 33, 33)])
theorem zr_X12_sum_4 : zRC zkdm vwCl zk_X12_sum_4 3 := ⟨by decide +kernel, (37, 1, 0), [(0, 2, 0), (0, 3, 0), (0, 4, 0)], _, TX12, 64, rfl, by decide, by decide +kernel, zkdm_35, rfl, rfl⟩
theorem ze_X12_sum_4_8 (l : Launch) : ∀ C' ∈ [zk_X12_layDay_4], zMet zkdm vwCl zTW zKPr l C' ∧ (zCV zkdm vwCl zTW RX12 cX12_sum 4 88 8 C' ∨ zCS zTW RX12 cX12_sum 4 88 8 C') := (List.forall_mem_cons.mpr ⟨⟨zp_X12_layDay_4 l, Or.inl (zcv_2 zw_X12_layDay zr_X12_layDay_4 406 zt_X12_sum_8 zl_RX12_406 (by decide +kernel) (by decide +kernel))⟩, (List.forall_mem_nil _)⟩)
def zm_X12_sum_4 : zMD := (zc_X12_sum, [(117, 12, 0, some .int)], ([], []), [(8, [zk_X12_layDay_4])], [], [], [])
set_option maxRecDepth 100000 in
theorem zv_X12_sum_4 : zmeth zkdm zk_X12_sum_4 zm_X12_sum_4 200000 1 = true := by decide +kernel
theorem zp_X12_sum_4 (l : Launch) : zMet zkdm vwCl zTW zKPr l zk_X12_sum_4 := z_met zkpr_ok zTW_good zk_X12_sum_4 zm_X12_sum_4 200000 1 (by decide +kernel) (by decide +kernel) (by decide +kernel) zv_X12_sum_4 zd_X12_sum (List.forall_mem_cons.mpr ⟨zf_RX12_117, (List.forall_mem_nil _)⟩) ⟨(List.forall_mem_nil _), (List.forall_mem_nil _)⟩ (List.forall_mem_cons.mpr ⟨ze_X12_sum_4_8 l, (List.forall_mem_nil _)⟩) (List.forall_mem_nil _)
def zk_X12_sum_5 : zCT := ((yX12_sum, cX12_sum, 4, (some .int)), (4, 88), ([(37, 1, 0), (0, 2, 0), (0, 3, 0), (0, 4, 0)], ([(0, 0), (0, 2147483647), (1, 1), ((-2147483648), 2147483647), ((-2147483648), 2147483647), (0, 2147483647), (0, 1), (0, 2), (0, 2), (0, 2147483647), (0, 8), (0, 9), (0, 8), (0, 9)], [(0, (37, 1, 0)), (1, (0, 2, 0)), (2, (0, 3, 0)), (3, (0, 4, 0))], [], [((35, 1), 5, (6, 5, 0)), ((4, 5), 0, (0, 6, 0)), ((4, 5), 1, (0, 7, 0)), ((4, 5), 2, (0, 8, 0)), ((35, 1), 6, (7, 9, 0)), ((5, 9), 0, (0, 10, 0)), ((5, 9), 4, (0, 11, 0)), ((5, 9), 50, (0, 12, 0)), ((5, 9), 54, (0, 13, 0))], [])), [([(0, 0), (0, 2147483647), (1, 1), ((-2147483648), 2147483647), ((-2147483648), 2147483647), (0, 2147483647), (0, 1), (0, 2), (0, 2), (0, 2147483647), (0, 8), (0, 9), (0, 8), (0, 9)], [], [(0, 0, (-2))], [], [])], [(35, 0, 0), (35, 33, 33)])
theorem zr_X12_sum_5 : zRC zkdm vwCl zk_X12_sum_5 3 := ⟨by decide +kernel, (37, 1, 0), [(0, 2, 0), (0, 3, 0), (0, 4, 0)], _, TX12, 64, rfl, by decide, by decide +kernel, zkdm_35, rfl, rfl⟩
theorem ze_X12_sum_5_8 (l : Launch) : ∀ C' ∈ [zk_X12_layDay_5], zMet zkdm vwCl zTW zKPr l C' ∧ (zCV zkdm vwCl zTW RX12 cX12_sum 4 88 8 C' ∨ zCS zTW RX12 cX12_sum 4 88 8 C') := (List.forall_mem_cons.mpr ⟨⟨zp_X12_layDay_5 l, Or.inl (zcv_2 zw_X12_layDay zr_X12_layDay_5 406 zt_X12_sum_8 zl_RX12_406 (by decide +kernel) (by decide +kernel))⟩, (List.forall_mem_nil _)⟩)
def zm_X12_sum_5 : zMD := (zc_X12_sum, [(117, 12, 0, some .int)], ([], []), [(8, [zk_X12_layDay_5])], [], [], [])
set_option maxRecDepth 100000 in
theorem zv_X12_sum_5 : zmeth zkdm zk_X12_sum_5 zm_X12_sum_5 200000 1 = true := by decide +kernel
theorem zp_X12_sum_5 (l : Launch) : zMet zkdm vwCl zTW zKPr l zk_X12_sum_5 := z_met zkpr_ok zTW_good zk_X12_sum_5 zm_X12_sum_5 200000 1 (by decide +kernel) (by decide +kernel) (by decide +kernel) zv_X12_sum_5 zd_X12_sum (List.forall_mem_cons.mpr ⟨zf_RX12_117, (List.forall_mem_nil _)⟩) ⟨(List.forall_mem_nil _), (List.forall_mem_nil _)⟩ (List.forall_mem_cons.mpr ⟨ze_X12_sum_5_8 l, (List.forall_mem_nil _)⟩) (List.forall_mem_nil _)
end
section
variable {η : zRn}
/-! beside and moved, to the value -/
theorem zu_X12_beside_0 : decode cX12_beside 0 = .ok (.iload_n 1, 1) := by decide +kernel
theorem zu_X12_beside_1 : decode cX12_beside 1 = .ok (.aload_n 0, 1) := by decide +kernel
theorem zu_X12_beside_2 : decode cX12_beside 2 = .ok (.getfield 289, 3) := by decide +kernel
theorem zu_X12_beside_5 : decode cX12_beside 5 = .ok (.irem, 1) := by decide +kernel
theorem zu_X12_beside_6 : decode cX12_beside 6 = .ok (.iload_n 2, 1) := by decide +kernel
theorem zu_X12_beside_7 : decode cX12_beside 7 = .ok (.iconst 1, 1) := by decide +kernel
theorem zu_X12_beside_8 : decode cX12_beside 8 = .ok (.if_icmp .ne 7, 3) := by decide +kernel
theorem zu_X12_beside_11 : decode cX12_beside 11 = .ok (.iconst 1, 1) := by decide +kernel
theorem zu_X12_beside_12 : decode cX12_beside 12 = .ok (.goto 13, 3) := by decide +kernel
theorem zu_X12_beside_15 : decode cX12_beside 15 = .ok (.iload_n 2, 1) := by decide +kernel
theorem zu_X12_beside_16 : decode cX12_beside 16 = .ok (.iconst 3, 1) := by decide +kernel
theorem zu_X12_beside_17 : decode cX12_beside 17 = .ok (.if_icmp .ne 7, 3) := by decide +kernel
theorem zu_X12_beside_20 : decode cX12_beside 20 = .ok (.iconst (-1), 1) := by decide +kernel
theorem zu_X12_beside_21 : decode cX12_beside 21 = .ok (.goto 4, 3) := by decide +kernel
theorem zu_X12_beside_24 : decode cX12_beside 24 = .ok (.iconst 0, 1) := by decide +kernel
theorem zu_X12_beside_25 : decode cX12_beside 25 = .ok (.iadd, 1) := by decide +kernel
theorem zu_X12_beside_26 : decode cX12_beside 26 = .ok (.istore_n 3, 1) := by decide +kernel
theorem zu_X12_beside_27 : decode cX12_beside 27 = .ok (.iload_n 1, 1) := by decide +kernel
theorem zu_X12_beside_28 : decode cX12_beside 28 = .ok (.aload_n 0, 1) := by decide +kernel
theorem zu_X12_beside_29 : decode cX12_beside 29 = .ok (.getfield 289, 3) := by decide +kernel
theorem zu_X12_beside_32 : decode cX12_beside 32 = .ok (.idiv, 1) := by decide +kernel
theorem zu_X12_beside_33 : decode cX12_beside 33 = .ok (.iload_n 2, 1) := by decide +kernel
theorem zu_X12_beside_34 : decode cX12_beside 34 = .ok (.iconst 2, 1) := by decide +kernel
theorem zu_X12_beside_35 : decode cX12_beside 35 = .ok (.if_icmp .ne 7, 3) := by decide +kernel
theorem zu_X12_beside_38 : decode cX12_beside 38 = .ok (.iconst 1, 1) := by decide +kernel
theorem zu_X12_beside_39 : decode cX12_beside 39 = .ok (.goto 12, 3) := by decide +kernel
theorem zu_X12_beside_42 : decode cX12_beside 42 = .ok (.iload_n 2, 1) := by decide +kernel
theorem zu_X12_beside_43 : decode cX12_beside 43 = .ok (.ifCond .ne 7, 3) := by decide +kernel
theorem zu_X12_beside_46 : decode cX12_beside 46 = .ok (.iconst (-1), 1) := by decide +kernel
theorem zu_X12_beside_47 : decode cX12_beside 47 = .ok (.goto 4, 3) := by decide +kernel
theorem zu_X12_beside_50 : decode cX12_beside 50 = .ok (.iconst 0, 1) := by decide +kernel
theorem zu_X12_beside_51 : decode cX12_beside 51 = .ok (.iadd, 1) := by decide +kernel
theorem zu_X12_beside_52 : decode cX12_beside 52 = .ok (.istore 4, 2) := by decide +kernel
theorem zu_X12_beside_54 : decode cX12_beside 54 = .ok (.iload_n 3, 1) := by decide +kernel
theorem zu_X12_beside_55 : decode cX12_beside 55 = .ok (.iconst 0, 1) := by decide +kernel
theorem zu_X12_beside_56 : decode cX12_beside 56 = .ok (.aload_n 0, 1) := by decide +kernel
theorem zu_X12_beside_57 : decode cX12_beside 57 = .ok (.getfield 289, 3) := by decide +kernel
theorem zu_X12_beside_60 : decode cX12_beside 60 = .ok (.iconst 1, 1) := by decide +kernel
theorem zu_X12_beside_61 : decode cX12_beside 61 = .ok (.isub, 1) := by decide +kernel
theorem zu_X12_beside_62 : decode cX12_beside 62 = .ok (.invokestatic 129, 3) := by decide +kernel
theorem zu_X12_beside_65 : decode cX12_beside 65 = .ok (.ifCond .eq 30, 3) := by decide +kernel
theorem zu_X12_beside_68 : decode cX12_beside 68 = .ok (.iload 4, 2) := by decide +kernel
theorem zu_X12_beside_70 : decode cX12_beside 70 = .ok (.iconst 0, 1) := by decide +kernel
theorem zu_X12_beside_71 : decode cX12_beside 71 = .ok (.aload_n 0, 1) := by decide +kernel
theorem zu_X12_beside_72 : decode cX12_beside 72 = .ok (.getfield 292, 3) := by decide +kernel
theorem zu_X12_beside_75 : decode cX12_beside 75 = .ok (.iconst 1, 1) := by decide +kernel
theorem zu_X12_beside_76 : decode cX12_beside 76 = .ok (.isub, 1) := by decide +kernel
theorem zu_X12_beside_77 : decode cX12_beside 77 = .ok (.invokestatic 129, 3) := by decide +kernel
theorem zu_X12_beside_80 : decode cX12_beside 80 = .ok (.ifCond .eq 15, 3) := by decide +kernel
theorem zu_X12_beside_83 : decode cX12_beside 83 = .ok (.iload 4, 2) := by decide +kernel
theorem zu_X12_beside_85 : decode cX12_beside 85 = .ok (.aload_n 0, 1) := by decide +kernel
theorem zu_X12_beside_86 : decode cX12_beside 86 = .ok (.getfield 289, 3) := by decide +kernel
theorem zu_X12_beside_89 : decode cX12_beside 89 = .ok (.imul, 1) := by decide +kernel
theorem zu_X12_beside_90 : decode cX12_beside 90 = .ok (.iload_n 3, 1) := by decide +kernel
theorem zu_X12_beside_91 : decode cX12_beside 91 = .ok (.iadd, 1) := by decide +kernel
theorem zu_X12_beside_92 : decode cX12_beside 92 = .ok (.goto 4, 3) := by decide +kernel
theorem zu_X12_beside_95 : decode cX12_beside 95 = .ok (.iconst (-1), 1) := by decide +kernel
theorem zu_X12_beside_96 : decode cX12_beside 96 = .ok (.ireturn, 1) := by decide +kernel
theorem zu_X12_moved_0 : decode cX12_moved 0 = .ok (.iload_n 2, 1) := by decide +kernel
theorem zu_X12_moved_1 : decode cX12_moved 1 = .ok (.iconst 4, 1) := by decide +kernel
theorem zu_X12_moved_2 : decode cX12_moved 2 = .ok (.if_icmp .ne 7, 3) := by decide +kernel
theorem zu_X12_moved_5 : decode cX12_moved 5 = .ok (.iload_n 1, 1) := by decide +kernel
theorem zu_X12_moved_6 : decode cX12_moved 6 = .ok (.goto 9, 3) := by decide +kernel
theorem zu_X12_moved_9 : decode cX12_moved 9 = .ok (.aload_n 0, 1) := by decide +kernel
theorem zu_X12_moved_10 : decode cX12_moved 10 = .ok (.iload_n 1, 1) := by decide +kernel
theorem zu_X12_moved_11 : decode cX12_moved 11 = .ok (.iload_n 2, 1) := by decide +kernel
theorem zu_X12_moved_12 : decode cX12_moved 12 = .ok (.invokevirtual 382, 3) := by decide +kernel
theorem zu_X12_moved_15 : decode cX12_moved 15 = .ok (.ireturn, 1) := by decide +kernel
set_option maxRecDepth 100000 in
theorem zqh_X12_beside : lw_tbl[1722]? = some (.code yX12_beside cX12_beside 5 (some .int)) := rfl
theorem zwh_X12_beside : zMV yX12_beside cX12_beside 5 (some .int) 2 := ⟨⟨zTin 113 (by decide +kernel) rfl, zTin 1722 zqh_X12_beside rfl, ⟨by decide, by decide⟩, by decide +kernel⟩, zTin 1721 (by decide +kernel) rfl, zTin 67 (by decide +kernel) rfl⟩
set_option maxRecDepth 100000 in
theorem zqh_X12_moved : lw_tbl[1815]? = some (.code yX12_moved cX12_moved 3 (some .int)) := rfl
theorem zwh_X12_moved : zMV yX12_moved cX12_moved 3 (some .int) 2 := ⟨⟨zTin 113 (by decide +kernel) rfl, zTin 1815 zqh_X12_moved rfl, ⟨by decide, by decide⟩, by decide +kernel⟩, zTin 1814 (by decide +kernel) rfl, zTin 84 (by decide +kernel) rfl⟩
theorem zyt_382 : Cond.methodLink RX12 382 yX12_beside ∈ zTW := zTin 1719 (by decide +kernel) rfl
theorem zty_wide : zty zKM 24 = (0, 0, 8) := by decide +kernel
theorem zty_high : zty zKM 25 = (0, 0, 8) := by decide +kernel
theorem zfh_289 : zFok RX12 zTW vwCl (289, 12, 24, (some .int)) := ⟨RX12, TX12, 64, rfl, zx_12, by decide, zTin 1323 (by decide +kernel) rfl, fun ty h => ⟨rfl, tyX12, tyX12_ok, nmX12, by cases h; rfl⟩⟩
theorem zfh_292 : zFok RX12 zTW vwCl (292, 12, 25, (some .int)) := ⟨RX12, TX12, 64, rfl, zx_12, by decide, zTin 1324 (by decide +kernel) rfl, fun ty h => ⟨rfl, tyX12, tyX12_ok, nmX12, by cases h; rfl⟩⟩
theorem z_f4 : ∀ d : Fin 4, d = 0 ∨ d = 1 ∨ d = 2 ∨ d = 3 := by decide
theorem z_dma : ∀ c : Fin 64, ∀ w : Fin 8, Int32.ofInt (c.val : Int) / Int32.ofInt ((w.val : Int) + 1) = Int32.ofInt ((c.val : Int) / ((w.val : Int) + 1)) ∧ Int32.ofInt (c.val : Int) - Int32.ofInt (c.val : Int) / Int32.ofInt ((w.val : Int) + 1) * Int32.ofInt ((w.val : Int) + 1) = Int32.ofInt ((c.val : Int) % ((w.val : Int) + 1)) := by decide +kernel
theorem z_mla : ∀ x : Fin 65, ∀ y : Fin 65, Int32.ofInt (x.val : Int) * Int32.ofInt (y.val : Int) = Int32.ofInt ((x.val : Int) * (y.val : Int)) := by decide +kernel
/-- the cell beside, by the wide and the high -/
def zbs4 (w hh c d : Int) : Int := if (0 ≤ c % w + (if d = 1 then 1 else if d = 3 then -1 else 0) ∧ c % w + (if d = 1 then 1 else if d = 3 then -1 else 0) ≤ w - 1) ∧ (0 ≤ c / w + (if d = 2 then 1 else if d = 0 then -1 else 0) ∧ c / w + (if d = 2 then 1 else if d = 0 then -1 else 0) ≤ hh - 1) then (c / w + (if d = 2 then 1 else if d = 0 then -1 else 0)) * w + (c % w + (if d = 1 then 1 else if d = 3 then -1 else 0)) else -1
def zmv (w hh c d : Int) : Int := if d = 4 then c else zbs4 w hh c d
theorem z_bs4 {w hh c d : Int} (hw : 1 ≤ w ∧ w ≤ 8) (hh8 : hh ≤ 8) : zbs4 w hh c d = -1 ∨ (0 ≤ zbs4 w hh c d ∧ zbs4 w hh c d < w * hh ∧ zbs4 w hh c d ≤ 63) := by
  unfold zbs4
  generalize c % w + (if d = 1 then 1 else if d = 3 then -1 else 0) = x
  generalize c / w + (if d = 2 then 1 else if d = 0 then -1 else 0) = y
  by_cases hc : (0 ≤ x ∧ x ≤ w - 1) ∧ (0 ≤ y ∧ y ≤ hh - 1)
  · rw [if_pos hc]
    have h1 : 0 ≤ y * w := Int.mul_nonneg (by omega) (by omega)
    have h2 : (y + 1) * w ≤ hh * w := Int.mul_le_mul_of_nonneg_right (by omega) (by omega)
    have h3 : hh * w ≤ 8 * w := Int.mul_le_mul_of_nonneg_right hh8 (by omega)
    rw [Int.add_mul] at h2
    have h4 : w * hh = hh * w := Int.mul_comm _ _
    exact Or.inr ⟨by omega, by omega, by omega⟩
  · rw [if_neg hc]
    exact Or.inl rfl
theorem z_dm {c w : Int} (hc : 0 ≤ c ∧ c ≤ 63) (hw : 1 ≤ w ∧ w ≤ 8) : Int32.ofInt c / Int32.ofInt w = Int32.ofInt (c / w) ∧ Int32.ofInt c - Int32.ofInt c / Int32.ofInt w * Int32.ofInt w = Int32.ofInt (c % w) := by
  have h := z_dma ⟨c.toNat, by omega⟩ ⟨(w - 1).toNat, by omega⟩
  simp only at h
  rw [show ((c.toNat : Nat) : Int) = c by omega, show (((w - 1).toNat : Nat) : Int) + 1 = w by omega] at h
  exact h
theorem z_mli {x y : Int} (h1 : 0 ≤ x ∧ x ≤ 64) (h2 : 0 ≤ y ∧ y ≤ 64) : Int32.ofInt x * Int32.ofInt y = Int32.ofInt (x * y) := by
  have h := z_mla ⟨x.toNat, by omega⟩ ⟨y.toNat, by omega⟩
  simp only at h
  rw [show ((x.toNat : Nat) : Int) = x by omega, show ((y.toNat : Nat) : Int) = y by omega] at h
  exact h
set_option maxHeartbeats 4000000 in
theorem zbs_tail {p : Program} {l : Launch} {e : Env} {R : Room} {s : State} {m : MethodId} {args : Array Value} {below : List Frame} {meth : Method} {c : Code} {D : va_G} {cy : Nat → ClassId} {L : List Nat} {Θ : Nat → Option Nat} (X : hCx D vwCl cy L p s m args c cX12_beside 5 (tyW cy) zTW RX12) (hKW : KW D cy s) {a : Nat} {h : Nat → Nat → Int} (ha : Θ a = some 35) (hH : zH η zkdm D vwCl cy L Θ h s.heap) (hf : 1 ≤ R.frames) (hlo : 22 ≤ R.locals) (hr : meth.sig.returnType = some .int) (hlocks : meth.locks = false) {w cc0 : Int} {dv : Int32} (hwd : h a 24 = w) (hw : 1 ≤ w ∧ w ≤ 8) (hb2 : 0 ≤ h a 25 ∧ h a 25 ≤ 8) (x y : Int) (hx0 : -1 ≤ x ∧ x ≤ 100) (hy0 : -1 ≤ y ∧ y ≤ 100) (ls : Array Slot) (hl : lv_has ls 5 [(4, .int (Int32.ofInt y)), (3, .int (Int32.ofInt x)), (0, .ref (η.1 a)), (1, .int (Int32.ofInt cc0)), (2, .int dv)]) (z : Int) (ez : z = if (0 ≤ x ∧ x ≤ w - 1) ∧ (0 ≤ y ∧ y ≤ h a 25 - 1) then y * w + x else -1) :
    W p l e R s m args below meth c s.heap [] 0 0 (MQ below (vp_Si (fun r => r = Int32.ofInt z)) args s 0 0 (fun _ => False)) (F0 m 54 ls []) := by
  have hx := X.1
  have hb := X.2.1
  refine lv_iload_n hx hb zu_X12_beside_54 rfl (lv_at hl 1 rfl) ?_
  refine lv_iconst (v := Int32.ofInt 0) hx hb zu_X12_beside_55 (by decide) ?_
  refine lv_aload_n hx hb zu_X12_beside_56 rfl (lv_at hl 2 rfl) ?_
  refine hw_get X zfh_289 ha zkm ⟨rfl, rfl⟩ (by decide) hH zu_X12_beside_57 ?_
  rw [zty_wide, z_d0, hwd]
  refine lv_iconst (v := Int32.ofInt 1) hx hb zu_X12_beside_60 (by decide) ?_
  refine lv_isub hx hb zu_X12_beside_61 ?_
  rw [z_sbi (by omega) (by omega) (by omega)]
  refine hw_in X hl.1 hf hlo (Nat.le_of_ble_eq_true rfl) zyt_129 zu_X12_beside_62 ?_
  have none_ : ¬ ((0 ≤ x ∧ x ≤ w - 1) ∧ (0 ≤ y ∧ y ≤ h a 25 - 1)) → W p l e R s m args below meth c s.heap [] 0 0 (MQ below (vp_Si (fun r => r = Int32.ofInt z)) args s 0 0 (fun _ => False)) (F0 m 95 ls []) := by
    intro hq
    rw [if_neg hq] at ez
    refine lv_iconst (v := -1) hx hb zu_X12_beside_95 (by decide) ?_
    exact W.iret (v := -1) hx hb hr (fun t ht hW => ⟨-1, rfl, by rw [ez]; rfl, ht⟩) (fun _ h => absurd h List.not_mem_nil) zu_X12_beside_96
  by_cases h1 : 0 ≤ x ∧ x ≤ w - 1
  · rw [if_pos ((z_in32 (by omega) (by omega) (by omega)).mpr h1)]
    refine lv_if_eq (tgt := 95) hx hb zu_X12_beside_65 (by decide) (fun q => absurd q (by decide)) (fun _ => ?_)
    refine lv_iload hx hb zu_X12_beside_68 (lv_at hl 0 rfl) ?_
    refine lv_iconst (v := Int32.ofInt 0) hx hb zu_X12_beside_70 (by decide) ?_
    refine lv_aload_n hx hb zu_X12_beside_71 rfl (lv_at hl 2 rfl) ?_
    refine hw_get X zfh_292 ha zkm ⟨rfl, rfl⟩ (by decide) hH zu_X12_beside_72 ?_
    rw [zty_high, z_d0]
    refine lv_iconst (v := Int32.ofInt 1) hx hb zu_X12_beside_75 (by decide) ?_
    refine lv_isub hx hb zu_X12_beside_76 ?_
    rw [z_sbi (by omega) (by omega) (by omega)]
    refine hw_in X hl.1 hf hlo (Nat.le_of_ble_eq_true rfl) zyt_129 zu_X12_beside_77 ?_
    by_cases h2 : 0 ≤ y ∧ y ≤ h a 25 - 1
    · rw [if_pos ((z_in32 (by omega) (by omega) (by omega)).mpr h2)]
      refine lv_if_eq (tgt := 95) hx hb zu_X12_beside_80 (by decide) (fun q => absurd q (by decide)) (fun _ => ?_)
      refine lv_iload hx hb zu_X12_beside_83 (lv_at hl 0 rfl) ?_
      refine lv_aload_n hx hb zu_X12_beside_85 rfl (lv_at hl 2 rfl) ?_
      refine hw_get X zfh_289 ha zkm ⟨rfl, rfl⟩ (by decide) hH zu_X12_beside_86 ?_
      rw [zty_wide, z_d0, hwd]
      refine lv_imul hx hb zu_X12_beside_89 ?_
      rw [z_mli (by omega) (by omega)]
      refine lv_iload_n hx hb zu_X12_beside_90 rfl (lv_at hl 1 rfl) ?_
      refine lv_iadd hx hb zu_X12_beside_91 ?_
      have hm1 : 0 ≤ y * w := Int.mul_nonneg (by omega) (by omega)
      have hm2 : y * w ≤ 7 * w := Int.mul_le_mul_of_nonneg_right (by omega) (by omega)
      rw [z_adi (by omega) (by omega) (by omega)]
      refine lv_goto (tgt := 96) hx hb zu_X12_beside_92 (by decide) ?_
      rw [if_pos ⟨h1, h2⟩] at ez
      exact W.iret hx hb hr (fun t ht hW => ⟨_, rfl, by rw [ez], ht⟩) (fun _ h => absurd h List.not_mem_nil) zu_X12_beside_96
    · rw [if_neg (fun q => h2 ((z_in32 (by omega) (by omega) (by omega)).mp q))]
      refine lv_if_eq (tgt := 95) hx hb zu_X12_beside_80 (by decide) (fun _ => none_ (fun q => h2 q.2)) (fun q => absurd rfl q)
  · rw [if_neg (fun q => h1 ((z_in32 (by omega) (by omega) (by omega)).mp q))]
    refine lv_if_eq (tgt := 95) hx hb zu_X12_beside_65 (by decide) (fun _ => none_ (fun q => h1 q.1)) (fun q => absurd rfl q)
set_option maxHeartbeats 16000000 in
theorem zS_beside (l : Launch) (η : zRn) (D : va_G) (cy : Nat → ClassId) (L : List Nat) (Θ : Nat → Option Nat) (h : Nat → Nat → Int) (a : Nat) (ha : Θ a = some 35) (hnd : L.Nodup) (w cc0 : Int) (d : Fin 4) (hwd : h a 24 = w) (hw : 1 ≤ w ∧ w ≤ 8) (hc : 0 ≤ cc0 ∧ cc0 ≤ 63) : Met l yX12_beside (Cond.code yX12_beside cX12_beside 5 (some .int) :: zTW) ({ frames := 1, cells := 0, slots := 0, locals := 22 } : Room) (va_Pc [.ref (η.1 a), .int (Int32.ofInt cc0), .int (Int32.ofInt (d.val : Int))] (fun U : State => zH η zkdm D vwCl cy L Θ h U.heap ∧ KW D cy U)) (vp_Si (fun r => r = Int32.ofInt (zbs4 w (h a 25) cc0 (d.val : Int)))) 0 0 (fun _ => False) := by
  refine Met.ofW (cc := cX12_beside) (maxL := 5) (ret := (some .int)) (by decide +kernel) rfl ?_
  intro p e s m args below meth c s₁ B hml hv
  obtain ⟨rfl, hH, hKW⟩ := hv
  have hx := B.exec
  have hb := B.bytes
  have hr := B.returns
  have hts0 := atoms_spec (ws := Cond.code yX12_beside cX12_beside 5 (some .int) :: zTW) B.pre
  have hts : ∀ w ∈ zTW, w.before _ s = true := fun w hw => hts0 w (List.mem_cons_of_mem _ hw)
  have hown : s.vm.findClass RX12 = some m.cls := findClass_of_methodNamed B.named
  have hlocks := B.notSynchronized
  have hl := lv_entry ([.ref (η.1 a), .int (Int32.ofInt cc0), .int (Int32.ofInt (d.val : Int))]) (n := 5) (Nat.le_of_ble_eq_true rfl)
  rw [lg_entry_eq]
  generalize (lg_sl ([.ref (η.1 a), .int (Int32.ofInt cc0), .int (Int32.ofInt (d.val : Int))]) ++ List.replicate (5 - (lg_sl ([.ref (η.1 a), .int (Int32.ofInt cc0), .int (Int32.ofInt (d.val : Int))])).length) Slot.unset).toArray = ls at hl ⊢
  have hl : lv_has ls 5 [(0, .ref (η.1 a)), (1, .int (Int32.ofInt cc0)), (2, .int (Int32.ofInt (d.val : Int)))] := hl
  have hT := (zkpr_ok.1 η D cy L Θ s hKW).2
  have X : hCx D vwCl cy L p s m _ c cX12_beside 5 (tyW cy) zTW RX12 := ⟨hx, hb, hml, hts, hown, hKW.1, hT, hnd⟩
  have hb2 : 0 ≤ h a 25 ∧ h a 25 ≤ 8 := by
    have h1 := zH_in hH ha zkm (j := 25) (by decide)
    rw [zty_high] at h1
    exact h1.2
  have hw0 : ¬ Int32.ofInt w = 0 := by
    intro q
    have := congrArg Int32.toInt q
    rw [z_toi (by omega) (by omega)] at this
    have e0 : (0 : Int32).toInt = 0 := rfl
    omega
  have hdv : 0 ≤ cc0 / w ∧ cc0 / w ≤ 63 := by
    refine ⟨Int.ediv_nonneg hc.1 (by omega), ?_⟩
    have := Int.ediv_le_self w hc.1
    omega
  have hmv : 0 ≤ cc0 % w ∧ cc0 % w < w := ⟨Int.emod_nonneg _ (by omega), Int.emod_lt_of_pos _ (by omega)⟩
  have hf : 1 ≤ (headSpec (Cond.code yX12_beside cX12_beside 5 (some .int) :: zTW) ({ frames := 1, cells := 0, slots := 0, locals := 22 } : Room)).room.frames := Nat.le_refl 1
  have hlo : 22 ≤ (headSpec (Cond.code yX12_beside cX12_beside 5 (some .int) :: zTW) ({ frames := 1, cells := 0, slots := 0, locals := 22 } : Room)).room.locals := Nat.le_refl 22
  rcases z_f4 d with rfl | rfl | rfl | rfl
  · skip
    refine lv_iload_n hx hb zu_X12_beside_0 rfl (lv_at hl 1 rfl) ?_
    refine lv_aload_n hx hb zu_X12_beside_1 rfl (lv_at hl 0 rfl) ?_
    refine hw_get X zfh_289 ha zkm ⟨rfl, rfl⟩ (by decide) hH zu_X12_beside_2 ?_
    rw [zty_wide, z_d0, hwd]
    refine lv_irem hx hb zu_X12_beside_5 hw0 ?_
    rw [(z_dm hc hw).2]
    refine lv_iload_n hx hb zu_X12_beside_6 rfl (lv_at hl 2 rfl) ?_
    refine lv_iconst (v := 1) hx hb zu_X12_beside_7 (by decide) ?_
    refine lv_icmp_ne (tgt := 15) hx hb zu_X12_beside_8 (by decide) (fun _ => ?_) (fun q => absurd q (by decide))
    refine lv_iload_n hx hb zu_X12_beside_15 rfl (lv_at hl 2 rfl) ?_
    refine lv_iconst (v := 3) hx hb zu_X12_beside_16 (by decide) ?_
    refine lv_icmp_ne (tgt := 24) hx hb zu_X12_beside_17 (by decide) (fun _ => ?_) (fun q => absurd q (by decide))
    refine lv_iconst (v := Int32.ofInt 0) hx hb zu_X12_beside_24 (by decide) ?_
    refine lv_iadd hx hb zu_X12_beside_25 ?_
    rw [z_adi (by omega) (by omega) (by omega)]
    refine lv_istore_n (lv' := [(3, .int (Int32.ofInt (cc0 % w + 0))), (0, .ref (η.1 a)), (1, .int (Int32.ofInt cc0)), (2, .int 0)]) hx hb zu_X12_beside_26 rfl hl (by decide) rfl (fun ls hl => ?_)
    refine lv_iload_n hx hb zu_X12_beside_27 rfl (lv_at hl 2 rfl) ?_
    refine lv_aload_n hx hb zu_X12_beside_28 rfl (lv_at hl 1 rfl) ?_
    refine hw_get X zfh_289 ha zkm ⟨rfl, rfl⟩ (by decide) hH zu_X12_beside_29 ?_
    rw [zty_wide, z_d0, hwd]
    refine lv_idiv hx hb zu_X12_beside_32 hw0 ?_
    rw [(z_dm hc hw).1]
    refine lv_iload_n hx hb zu_X12_beside_33 rfl (lv_at hl 3 rfl) ?_
    refine lv_iconst (v := 2) hx hb zu_X12_beside_34 (by decide) ?_
    refine lv_icmp_ne (tgt := 42) hx hb zu_X12_beside_35 (by decide) (fun _ => ?_) (fun q => absurd q (by decide))
    refine lv_iload_n hx hb zu_X12_beside_42 rfl (lv_at hl 3 rfl) ?_
    refine lv_if_ne (tgt := 50) hx hb zu_X12_beside_43 (by decide) (fun q => absurd rfl q) (fun _ => ?_)
    refine lv_iconst (v := Int32.ofInt (-1)) hx hb zu_X12_beside_46 (by decide) ?_
    refine lv_goto (tgt := 51) hx hb zu_X12_beside_47 (by decide) ?_
    refine lv_iadd hx hb zu_X12_beside_51 ?_
    rw [z_adi (by omega) (by omega) (by omega)]
    refine lv_istore (lv' := [(4, .int (Int32.ofInt (cc0 / w + (-1)))), (3, .int (Int32.ofInt (cc0 % w + 0))), (0, .ref (η.1 a)), (1, .int (Int32.ofInt cc0)), (2, .int 0)]) hx hb zu_X12_beside_52 hl (by decide) rfl (fun ls hl => ?_)
    have ed : zbs4 w (h a 25) cc0 0 = if (0 ≤ cc0 % w + 0 ∧ cc0 % w + 0 ≤ w - 1) ∧ (0 ≤ cc0 / w + (-1) ∧ cc0 / w + (-1) ≤ h a 25 - 1) then (cc0 / w + (-1)) * w + (cc0 % w + 0) else -1 := rfl
    refine zbs_tail X hKW ha hH hf hlo hr hlocks hwd hw hb2 (cc0 % w + 0) (cc0 / w + (-1)) (by omega) (by omega) ls hl (zbs4 w (h a 25) cc0 0) ed
  · skip
    refine lv_iload_n hx hb zu_X12_beside_0 rfl (lv_at hl 1 rfl) ?_
    refine lv_aload_n hx hb zu_X12_beside_1 rfl (lv_at hl 0 rfl) ?_
    refine hw_get X zfh_289 ha zkm ⟨rfl, rfl⟩ (by decide) hH zu_X12_beside_2 ?_
    rw [zty_wide, z_d0, hwd]
    refine lv_irem hx hb zu_X12_beside_5 hw0 ?_
    rw [(z_dm hc hw).2]
    refine lv_iload_n hx hb zu_X12_beside_6 rfl (lv_at hl 2 rfl) ?_
    refine lv_iconst (v := 1) hx hb zu_X12_beside_7 (by decide) ?_
    refine lv_icmp_ne (tgt := 15) hx hb zu_X12_beside_8 (by decide) (fun q => absurd rfl q) (fun _ => ?_)
    refine lv_iconst (v := Int32.ofInt 1) hx hb zu_X12_beside_11 (by decide) ?_
    refine lv_goto (tgt := 25) hx hb zu_X12_beside_12 (by decide) ?_
    refine lv_iadd hx hb zu_X12_beside_25 ?_
    rw [z_adi (by omega) (by omega) (by omega)]
    refine lv_istore_n (lv' := [(3, .int (Int32.ofInt (cc0 % w + 1))), (0, .ref (η.1 a)), (1, .int (Int32.ofInt cc0)), (2, .int 1)]) hx hb zu_X12_beside_26 rfl hl (by decide) rfl (fun ls hl => ?_)
    refine lv_iload_n hx hb zu_X12_beside_27 rfl (lv_at hl 2 rfl) ?_
    refine lv_aload_n hx hb zu_X12_beside_28 rfl (lv_at hl 1 rfl) ?_
    refine hw_get X zfh_289 ha zkm ⟨rfl, rfl⟩ (by decide) hH zu_X12_beside_29 ?_
    rw [zty_wide, z_d0, hwd]
    refine lv_idiv hx hb zu_X12_beside_32 hw0 ?_
    rw [(z_dm hc hw).1]
    refine lv_iload_n hx hb zu_X12_beside_33 rfl (lv_at hl 3 rfl) ?_
    refine lv_iconst (v := 2) hx hb zu_X12_beside_34 (by decide) ?_
    refine lv_icmp_ne (tgt := 42) hx hb zu_X12_beside_35 (by decide) (fun _ => ?_) (fun q => absurd q (by decide))
    refine lv_iload_n hx hb zu_X12_beside_42 rfl (lv_at hl 3 rfl) ?_
    refine lv_if_ne (tgt := 50) hx hb zu_X12_beside_43 (by decide) (fun _ => ?_) (fun q => absurd q (by decide))
    refine lv_iconst (v := Int32.ofInt 0) hx hb zu_X12_beside_50 (by decide) ?_
    refine lv_iadd hx hb zu_X12_beside_51 ?_
    rw [z_adi (by omega) (by omega) (by omega)]
    refine lv_istore (lv' := [(4, .int (Int32.ofInt (cc0 / w + 0))), (3, .int (Int32.ofInt (cc0 % w + 1))), (0, .ref (η.1 a)), (1, .int (Int32.ofInt cc0)), (2, .int 1)]) hx hb zu_X12_beside_52 hl (by decide) rfl (fun ls hl => ?_)
    have ed : zbs4 w (h a 25) cc0 1 = if (0 ≤ cc0 % w + 1 ∧ cc0 % w + 1 ≤ w - 1) ∧ (0 ≤ cc0 / w + 0 ∧ cc0 / w + 0 ≤ h a 25 - 1) then (cc0 / w + 0) * w + (cc0 % w + 1) else -1 := rfl
    refine zbs_tail X hKW ha hH hf hlo hr hlocks hwd hw hb2 (cc0 % w + 1) (cc0 / w + 0) (by omega) (by omega) ls hl (zbs4 w (h a 25) cc0 1) ed
  · skip
    refine lv_iload_n hx hb zu_X12_beside_0 rfl (lv_at hl 1 rfl) ?_
    refine lv_aload_n hx hb zu_X12_beside_1 rfl (lv_at hl 0 rfl) ?_
    refine hw_get X zfh_289 ha zkm ⟨rfl, rfl⟩ (by decide) hH zu_X12_beside_2 ?_
    rw [zty_wide, z_d0, hwd]
    refine lv_irem hx hb zu_X12_beside_5 hw0 ?_
    rw [(z_dm hc hw).2]
    refine lv_iload_n hx hb zu_X12_beside_6 rfl (lv_at hl 2 rfl) ?_
    refine lv_iconst (v := 1) hx hb zu_X12_beside_7 (by decide) ?_
    refine lv_icmp_ne (tgt := 15) hx hb zu_X12_beside_8 (by decide) (fun _ => ?_) (fun q => absurd q (by decide))
    refine lv_iload_n hx hb zu_X12_beside_15 rfl (lv_at hl 2 rfl) ?_
    refine lv_iconst (v := 3) hx hb zu_X12_beside_16 (by decide) ?_
    refine lv_icmp_ne (tgt := 24) hx hb zu_X12_beside_17 (by decide) (fun _ => ?_) (fun q => absurd q (by decide))
    refine lv_iconst (v := Int32.ofInt 0) hx hb zu_X12_beside_24 (by decide) ?_
    refine lv_iadd hx hb zu_X12_beside_25 ?_
    rw [z_adi (by omega) (by omega) (by omega)]
    refine lv_istore_n (lv' := [(3, .int (Int32.ofInt (cc0 % w + 0))), (0, .ref (η.1 a)), (1, .int (Int32.ofInt cc0)), (2, .int 2)]) hx hb zu_X12_beside_26 rfl hl (by decide) rfl (fun ls hl => ?_)
    refine lv_iload_n hx hb zu_X12_beside_27 rfl (lv_at hl 2 rfl) ?_
    refine lv_aload_n hx hb zu_X12_beside_28 rfl (lv_at hl 1 rfl) ?_
    refine hw_get X zfh_289 ha zkm ⟨rfl, rfl⟩ (by decide) hH zu_X12_beside_29 ?_
    rw [zty_wide, z_d0, hwd]
    refine lv_idiv hx hb zu_X12_beside_32 hw0 ?_
    rw [(z_dm hc hw).1]
    refine lv_iload_n hx hb zu_X12_beside_33 rfl (lv_at hl 3 rfl) ?_
    refine lv_iconst (v := 2) hx hb zu_X12_beside_34 (by decide) ?_
    refine lv_icmp_ne (tgt := 42) hx hb zu_X12_beside_35 (by decide) (fun q => absurd rfl q) (fun _ => ?_)
    refine lv_iconst (v := Int32.ofInt 1) hx hb zu_X12_beside_38 (by decide) ?_
    refine lv_goto (tgt := 51) hx hb zu_X12_beside_39 (by decide) ?_
    refine lv_iadd hx hb zu_X12_beside_51 ?_
    rw [z_adi (by omega) (by omega) (by omega)]
    refine lv_istore (lv' := [(4, .int (Int32.ofInt (cc0 / w + 1))), (3, .int (Int32.ofInt (cc0 % w + 0))), (0, .ref (η.1 a)), (1, .int (Int32.ofInt cc0)), (2, .int 2)]) hx hb zu_X12_beside_52 hl (by decide) rfl (fun ls hl => ?_)
    have ed : zbs4 w (h a 25) cc0 2 = if (0 ≤ cc0 % w + 0 ∧ cc0 % w + 0 ≤ w - 1) ∧ (0 ≤ cc0 / w + 1 ∧ cc0 / w + 1 ≤ h a 25 - 1) then (cc0 / w + 1) * w + (cc0 % w + 0) else -1 := rfl
    refine zbs_tail X hKW ha hH hf hlo hr hlocks hwd hw hb2 (cc0 % w + 0) (cc0 / w + 1) (by omega) (by omega) ls hl (zbs4 w (h a 25) cc0 2) ed
  · skip
    refine lv_iload_n hx hb zu_X12_beside_0 rfl (lv_at hl 1 rfl) ?_
    refine lv_aload_n hx hb zu_X12_beside_1 rfl (lv_at hl 0 rfl) ?_
    refine hw_get X zfh_289 ha zkm ⟨rfl, rfl⟩ (by decide) hH zu_X12_beside_2 ?_
    rw [zty_wide, z_d0, hwd]
    refine lv_irem hx hb zu_X12_beside_5 hw0 ?_
    rw [(z_dm hc hw).2]
    refine lv_iload_n hx hb zu_X12_beside_6 rfl (lv_at hl 2 rfl) ?_
    refine lv_iconst (v := 1) hx hb zu_X12_beside_7 (by decide) ?_
    refine lv_icmp_ne (tgt := 15) hx hb zu_X12_beside_8 (by decide) (fun _ => ?_) (fun q => absurd q (by decide))
    refine lv_iload_n hx hb zu_X12_beside_15 rfl (lv_at hl 2 rfl) ?_
    refine lv_iconst (v := 3) hx hb zu_X12_beside_16 (by decide) ?_
    refine lv_icmp_ne (tgt := 24) hx hb zu_X12_beside_17 (by decide) (fun q => absurd rfl q) (fun _ => ?_)
    refine lv_iconst (v := Int32.ofInt (-1)) hx hb zu_X12_beside_20 (by decide) ?_
    refine lv_goto (tgt := 25) hx hb zu_X12_beside_21 (by decide) ?_
    refine lv_iadd hx hb zu_X12_beside_25 ?_
    rw [z_adi (by omega) (by omega) (by omega)]
    refine lv_istore_n (lv' := [(3, .int (Int32.ofInt (cc0 % w + (-1)))), (0, .ref (η.1 a)), (1, .int (Int32.ofInt cc0)), (2, .int 3)]) hx hb zu_X12_beside_26 rfl hl (by decide) rfl (fun ls hl => ?_)
    refine lv_iload_n hx hb zu_X12_beside_27 rfl (lv_at hl 2 rfl) ?_
    refine lv_aload_n hx hb zu_X12_beside_28 rfl (lv_at hl 1 rfl) ?_
    refine hw_get X zfh_289 ha zkm ⟨rfl, rfl⟩ (by decide) hH zu_X12_beside_29 ?_
    rw [zty_wide, z_d0, hwd]
    refine lv_idiv hx hb zu_X12_beside_32 hw0 ?_
    rw [(z_dm hc hw).1]
    refine lv_iload_n hx hb zu_X12_beside_33 rfl (lv_at hl 3 rfl) ?_
    refine lv_iconst (v := 2) hx hb zu_X12_beside_34 (by decide) ?_
    refine lv_icmp_ne (tgt := 42) hx hb zu_X12_beside_35 (by decide) (fun _ => ?_) (fun q => absurd q (by decide))
    refine lv_iload_n hx hb zu_X12_beside_42 rfl (lv_at hl 3 rfl) ?_
    refine lv_if_ne (tgt := 50) hx hb zu_X12_beside_43 (by decide) (fun _ => ?_) (fun q => absurd q (by decide))
    refine lv_iconst (v := Int32.ofInt 0) hx hb zu_X12_beside_50 (by decide) ?_
    refine lv_iadd hx hb zu_X12_beside_51 ?_
    rw [z_adi (by omega) (by omega) (by omega)]
    refine lv_istore (lv' := [(4, .int (Int32.ofInt (cc0 / w + 0))), (3, .int (Int32.ofInt (cc0 % w + (-1)))), (0, .ref (η.1 a)), (1, .int (Int32.ofInt cc0)), (2, .int 3)]) hx hb zu_X12_beside_52 hl (by decide) rfl (fun ls hl => ?_)
    have ed : zbs4 w (h a 25) cc0 3 = if (0 ≤ cc0 % w + (-1) ∧ cc0 % w + (-1) ≤ w - 1) ∧ (0 ≤ cc0 / w + 0 ∧ cc0 / w + 0 ≤ h a 25 - 1) then (cc0 / w + 0) * w + (cc0 % w + (-1)) else -1 := rfl
    refine zbs_tail X hKW ha hH hf hlo hr hlocks hwd hw hb2 (cc0 % w + (-1)) (cc0 / w + 0) (by omega) (by omega) ls hl (zbs4 w (h a 25) cc0 3) ed
end
