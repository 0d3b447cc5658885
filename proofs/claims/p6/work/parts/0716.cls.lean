def zc_X11_twice : List (Nat × Jvm.ClassFile.Instr × Nat) := [(0, .aload_n 0, 1), (1, .iload_n 1, 1), (2, .iload_n 2, 1), (3, .invokevirtual 185, 3), (6, .ifCond .eq 13, 3), (9, .aload_n 0, 1), (10, .getfield 30, 3), (13, .getfield 258, 3), (16, .goto 4, 3), (19, .iconst (-1), 1), (20, .ireturn, 1)]
theorem zd_X11_twice : ∀ q ∈ zc_X11_twice, decode cX11_twice q.1 = .ok (q.2.1, q.2.2) := by decide +kernel
set_option maxRecDepth 100000 in
theorem zq_X11_twice : lw_tbl[1068]? = some (.code yX11_twice cX11_twice 3 (some .int)) := rfl
theorem zw_X11_twice : zMV yX11_twice cX11_twice 3 (some .int) 2 := ⟨⟨zTin 101 (by decide +kernel) rfl, zTin 1068 zq_X11_twice rfl, ⟨by decide, by decide⟩, by decide +kernel⟩, zTin 1066 (by decide +kernel) rfl, zTin 1067 (by decide +kernel) rfl⟩
theorem zf_RX11_258 : zFok RX11 zTW vwCl (258, 5, 7, (some .int)) := ⟨RX5, TX5, 16, rfl, zx_5, by decide, zTin 445 (by decide +kernel) rfl, fun ty h => ⟨rfl, tyX5, tyX5_ok, nmX5, by cases h; rfl⟩⟩
def zk_X11_twice_0 : zCT := ((yX11_twice, cX11_twice, 3, (some .int)), (7, 170), ([(65, 1, 0), (0, 2, 0), (0, 3, 0)], ([(0, 0), (0, 2147483647), ((-2147483648), 2147483647), ((-2147483648), 2147483647)], [(0, (65, 1, 0)), (1, (0, 2, 0)), (2, (0, 3, 0))], [], [], [])), [([(0, 0), (0, 2147483647), ((-2147483648), 2147483647), ((-2147483648), 2147483647)], [], [(0, 0, (-1))], [], []), ([(0, 0), (0, 2147483647), (0, 1), (0, 1), ((-2147483648), 2147483647)], [], [(0, 4, 0)], [], [])], [(35, 0, 5), (36, 0, 5), (37, 0, 5), (38, 0, 5), (39, 0, 5), (40, 0, 5), (41, 6, 7), (42, 0, 5), (43, 0, 5), (44, 0, 5), (46, 0, 1), (46, 6, 14)])
theorem zr_X11_twice_0 : zRC zkds vwCl zk_X11_twice_0 2 := ⟨by decide +kernel, (65, 1, 0), [(0, 2, 0), (0, 3, 0)], _, TX11, 7, rfl, by decide, by decide +kernel, zkd_63, rfl, rfl⟩
theorem zt_X11_twice_3 : decode cX11_twice 3 = .ok (.invokevirtual 185, 3) := by decide +kernel
theorem ze_X11_twice_0_3 (l : Launch) : ∀ C' ∈ [zk_X11_runToStop_0], zMet zkds vwCl zTW zKP l C' ∧ (zCV zkds vwCl zTW RX11 cX11_twice 7 170 3 C' ∨ zCS zTW RX11 cX11_twice 7 170 3 C') := (List.forall_mem_cons.mpr ⟨⟨zp_X11_runToStop_0 l, Or.inl (zcv_2 zw_X11_runToStop zr_X11_runToStop_0 185 zt_X11_twice_3 zl_RX11_185 (by decide +kernel) (by decide +kernel))⟩, (List.forall_mem_nil _)⟩)
def zm_X11_twice_0 : zMD := (zc_X11_twice, [(30, 11, 3, none), (258, 5, 7, some .int)], ([], []), [(3, [zk_X11_runToStop_0])], [], [], [])
set_option maxRecDepth 100000 in
theorem zv_X11_twice_0 : zmeth zkds zk_X11_twice_0 zm_X11_twice_0 200000 1 = true := by decide +kernel
theorem zp_X11_twice_0 (l : Launch) : zMet zkds vwCl zTW zKP l zk_X11_twice_0 := z_met zkp_ok zTW_good zk_X11_twice_0 zm_X11_twice_0 200000 1 (by decide +kernel) (by decide +kernel) (by decide +kernel) zv_X11_twice_0 zd_X11_twice (List.forall_mem_cons.mpr ⟨zf_RX11_30, (List.forall_mem_cons.mpr ⟨zf_RX11_258, (List.forall_mem_nil _)⟩)⟩) ⟨(List.forall_mem_nil _), (List.forall_mem_nil _)⟩ (List.forall_mem_cons.mpr ⟨ze_X11_twice_0_3 l, (List.forall_mem_nil _)⟩) (List.forall_mem_nil _)
set_option maxRecDepth 100000 in
theorem zq_X11_again : lw_tbl[1292]? = some (.code yX11_again cX11_again 2 (some .boolean)) := rfl
theorem zw_X11_again : zMV yX11_again cX11_again 2 (some .boolean) 1 := ⟨⟨zTin 101 (by decide +kernel) rfl, zTin 1292 zq_X11_again rfl, ⟨by decide, by decide⟩, by decide +kernel⟩, zTin 1290 (by decide +kernel) rfl, zTin 1291 (by decide +kernel) rfl⟩
theorem zf_RX11_16 : zFok RX11 zTW vwCl (16, 11, 1, none) := ⟨RX11, TX11, 7, rfl, zx_11, by decide, zTin 575 (by decide +kernel) rfl, fun _ h => by cases h⟩
