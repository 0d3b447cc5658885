set_option maxHeartbeats 4000000 in
theorem lwc_8 {p : Program} {l : Launch} {e : Env} {s : State} {m : MethodId} {below : List Frame} {meth : Method} {c : Code} {b N : Nat} {xs : Nat → Int32} {Q : State → Prop} {H : Heap} {locs : List Loc} {cells slots : Nat} {ls : Array Slot} {qa qr i : Nat} {D : va_G} {cy : Nat → ClassId} {tb adK adV : Nat → Nat} {fv : Option Nat} (X : lwX l p s m meth c b N xs D cy tb adK adV fv) (hi : i + 6 ≤ N) (hI : lwI lwF s D cy adK qa qr H) (hS : va_S (fun q => s.heap.size ≤ q) s.heap H locs) (hcs : cells ≤ 600000 ∧ slots ≤ 7302250) (hl : lwL ls qa qr i b)
    (K : ∀ (H1 : Heap) (locs1 : List Loc), lwI lwF s D cy adK qa qr H1 → va_S (fun q => s.heap.size ≤ q) s.heap H1 locs1 → W p l e room_1 s m #[Value.ref b] below meth c H1 locs1 (cells) (slots) Q (F0 m 1550 ls [])) : W p l e room_1 s m #[Value.ref b] below meth c H locs cells slots Q (F0 m 480 ls []) := by
  obtain ⟨hx, hb, -, -, -, -, -, -, -, -⟩ := id X.1
  refine lv_aload_n hx hb dL_480 rfl (lv_at hl 2 rfl) ?_
  refine lw_arg X.1 X.2.1 hS hl 1 hi (by decide) (by decide +kernel) dL_481 dL_482 dL_483 dL_484 dL_485 ?_
  refine lw_arg X.1 X.2.1 hS hl 2 hi (by decide) (by decide +kernel) dL_486 dL_487 dL_488 dL_489 dL_490 ?_
  refine lw_arg X.1 X.2.1 hS hl 3 hi (by decide) (by decide +kernel) dL_491 dL_492 dL_493 dL_494 dL_495 ?_
  refine lwCp (As := [(xs (i + 1)).toInt, (xs (i + 2)).toInt, (xs (i + 3)).toInt]) (ivs := [(-2147483648, 2147483647), (-2147483648, 2147483647), (-2147483648, 2147483647)]) X (zp_X11_hears_0 l) (zcv_2 zw_X11_hears zr_X11_hears_0 49 dL_496 zlL_49 (by decide +kernel) (by decide +kernel)) rfl rfl ⟨rfl, rfl⟩ (by decide) (zg_c (z_lo _) (z_hi _) (zg_c (z_lo _) (z_hi _) (zg_c (z_lo _) (z_hi _) zg_n))) (by decide +kernel) ⟨by decide +kernel, fun _ => ⟨by decide +kernel, by decide +kernel⟩⟩ hI hS hcs hl (rest := []) (by decide) (by simp only [List.map_cons, List.map_nil, List.reverse_cons, List.reverse_nil, List.nil_append, List.cons_append, z_ofi]) (fun x8 H8 locs8 hI8 hS8 => ?_)
  refine lv_pop hx hb dL_499 rfl ?_
  refine lv_aload_n hx hb dL_500 rfl (lv_at hl 1 rfl) ?_
  refine lw_arg X.1 X.2.1 hS8 hl 1 hi (by decide) (by decide +kernel) dL_501 dL_502 dL_503 dL_504 dL_505 ?_
  refine lw_arg X.1 X.2.1 hS8 hl 2 hi (by decide) (by decide +kernel) dL_506 dL_507 dL_508 dL_509 dL_510 ?_
  refine lw_arg X.1 X.2.1 hS8 hl 3 hi (by decide) (by decide +kernel) dL_511 dL_512 dL_513 dL_514 dL_515 ?_
  refine lwRs (sea := (xs (i + 1)).toInt) (Rs := [(xs (i + 2)).toInt, (xs (i + 3)).toInt]) (rv := [(-2147483648, 2147483647), (-2147483648, 2147483647)]) X ⟨zp_X12_hears_0 l, zp_X12_hears_1 l, zp_X12_hears_2 l, zp_X12_hears_3 l, zp_X12_hears_4 l, zp_X12_hears_5 l⟩ ⟨(zcv_2 zw_X12_hears zr_X12_hears_0 52 dL_516 zlL_52 (by decide +kernel) (by decide +kernel)), (zcv_2 zw_X12_hears zr_X12_hears_1 52 dL_516 zlL_52 (by decide +kernel) (by decide +kernel)), (zcv_2 zw_X12_hears zr_X12_hears_2 52 dL_516 zlL_52 (by decide +kernel) (by decide +kernel)), (zcv_2 zw_X12_hears zr_X12_hears_3 52 dL_516 zlL_52 (by decide +kernel) (by decide +kernel)), (zcv_2 zw_X12_hears zr_X12_hears_4 52 dL_516 zlL_52 (by decide +kernel) (by decide +kernel)), (zcv_2 zw_X12_hears zr_X12_hears_5 52 dL_516 zlL_52 (by decide +kernel) (by decide +kernel))⟩ ⟨rfl, rfl, rfl, rfl, by decide +kernel, by decide +kernel⟩ ⟨rfl, rfl, rfl, rfl, by decide +kernel, by decide +kernel⟩ ⟨rfl, rfl, rfl, rfl, by decide +kernel, by decide +kernel⟩ ⟨rfl, rfl, rfl, rfl, by decide +kernel, by decide +kernel⟩ ⟨rfl, rfl, rfl, rfl, by decide +kernel, by decide +kernel⟩ ⟨rfl, rfl, rfl, rfl, by decide +kernel, by decide +kernel⟩ (by decide) ⟨z_lo _, z_hi _⟩ (zg_c (z_lo _) (z_hi _) (zg_c (z_lo _) (z_hi _) zg_n)) hI8 hS8 hcs hl (rest := []) (by decide) (by simp only [List.map_cons, List.map_nil, List.reverse_cons, List.reverse_nil, List.nil_append, List.cons_append, z_ofi]) (fun x9 H9 locs9 hI9 hS9 => ?_)
  refine lv_pop hx hb dL_519 rfl ?_
  refine lv_goto (tgt := 1550) hx hb dL_520 (by decide) ?_
  exact K H9 locs9 hI9 hS9
set_option maxHeartbeats 4000000 in
theorem lwc_11 {p : Program} {l : Launch} {e : Env} {s : State} {m : MethodId} {below : List Frame} {meth : Method} {c : Code} {b N : Nat} {xs : Nat → Int32} {Q : State → Prop} {H : Heap} {locs : List Loc} {cells slots : Nat} {ls : Array Slot} {qa qr i : Nat} {D : va_G} {cy : Nat → ClassId} {tb adK adV : Nat → Nat} {fv : Option Nat} (X : lwX l p s m meth c b N xs D cy tb adK adV fv) (hi : i + 6 ≤ N) (hI : lwI lwF s D cy adK qa qr H) (hS : va_S (fun q => s.heap.size ≤ q) s.heap H locs) (hcs : cells ≤ 600000 ∧ slots ≤ 7302250) (hl : lwL ls qa qr i b)
    (K : ∀ (H1 : Heap) (locs1 : List Loc), lwI lwF s D cy adK qa qr H1 → va_S (fun q => s.heap.size ≤ q) s.heap H1 locs1 → W p l e room_1 s m #[Value.ref b] below meth c H1 locs1 (cells) (slots) Q (F0 m 1550 ls [])) : W p l e room_1 s m #[Value.ref b] below meth c H locs cells slots Q (F0 m 589 ls []) := by
  obtain ⟨hx, hb, -, -, -, -, -, -, -, -⟩ := id X.1
  refine lv_aload_n hx hb dL_589 rfl (lv_at hl 2 rfl) ?_
  refine lw_arg X.1 X.2.1 hS hl 1 hi (by decide) (by decide +kernel) dL_590 dL_591 dL_592 dL_593 dL_594 ?_
  refine lw_arg X.1 X.2.1 hS hl 2 hi (by decide) (by decide +kernel) dL_595 dL_596 dL_597 dL_598 dL_599 ?_
  refine lwCp (As := [(xs (i + 1)).toInt, (xs (i + 2)).toInt]) (ivs := [(-2147483648, 2147483647), (-2147483648, 2147483647)]) X (zp_X11_stop_0 l) (zcv_2 zw_X11_stop zr_X11_stop_0 61 dL_600 zlL_61 (by decide +kernel) (by decide +kernel)) rfl rfl ⟨rfl, rfl⟩ (by decide) (zg_c (z_lo _) (z_hi _) (zg_c (z_lo _) (z_hi _) zg_n)) (by decide +kernel) ⟨by decide +kernel, fun _ => ⟨by decide +kernel, by decide +kernel⟩⟩ hI hS hcs hl (rest := []) (by decide) (by simp only [List.map_cons, List.map_nil, List.reverse_cons, List.reverse_nil, List.nil_append, List.cons_append, z_ofi]) (fun x8 H8 locs8 hI8 hS8 => ?_)
  refine lv_pop hx hb dL_603 rfl ?_
  refine lv_aload_n hx hb dL_604 rfl (lv_at hl 1 rfl) ?_
  refine lw_arg X.1 X.2.1 hS8 hl 1 hi (by decide) (by decide +kernel) dL_605 dL_606 dL_607 dL_608 dL_609 ?_
  refine lw_arg X.1 X.2.1 hS8 hl 2 hi (by decide) (by decide +kernel) dL_610 dL_611 dL_612 dL_613 dL_614 ?_
  refine lwRs (sea := (xs (i + 1)).toInt) (Rs := [(xs (i + 2)).toInt]) (rv := [(-2147483648, 2147483647)]) X ⟨zp_X12_stop_0 l, zp_X12_stop_1 l, zp_X12_stop_2 l, zp_X12_stop_3 l, zp_X12_stop_4 l, zp_X12_stop_5 l⟩ ⟨(zcv_2 zw_X12_stop zr_X12_stop_0 64 dL_615 zlL_64 (by decide +kernel) (by decide +kernel)), (zcv_2 zw_X12_stop zr_X12_stop_1 64 dL_615 zlL_64 (by decide +kernel) (by decide +kernel)), (zcv_2 zw_X12_stop zr_X12_stop_2 64 dL_615 zlL_64 (by decide +kernel) (by decide +kernel)), (zcv_2 zw_X12_stop zr_X12_stop_3 64 dL_615 zlL_64 (by decide +kernel) (by decide +kernel)), (zcv_2 zw_X12_stop zr_X12_stop_4 64 dL_615 zlL_64 (by decide +kernel) (by decide +kernel)), (zcv_2 zw_X12_stop zr_X12_stop_5 64 dL_615 zlL_64 (by decide +kernel) (by decide +kernel))⟩ ⟨rfl, rfl, rfl, rfl, by decide +kernel, by decide +kernel⟩ ⟨rfl, rfl, rfl, rfl, by decide +kernel, by decide +kernel⟩ ⟨rfl, rfl, rfl, rfl, by decide +kernel, by decide +kernel⟩ ⟨rfl, rfl, rfl, rfl, by decide +kernel, by decide +kernel⟩ ⟨rfl, rfl, rfl, rfl, by decide +kernel, by decide +kernel⟩ ⟨rfl, rfl, rfl, rfl, by decide +kernel, by decide +kernel⟩ (by decide) ⟨z_lo _, z_hi _⟩ (zg_c (z_lo _) (z_hi _) zg_n) hI8 hS8 hcs hl (rest := []) (by decide) (by simp only [List.map_cons, List.map_nil, List.reverse_cons, List.reverse_nil, List.nil_append, List.cons_append, z_ofi]) (fun x9 H9 locs9 hI9 hS9 => ?_)
  refine lv_pop hx hb dL_618 rfl ?_
  refine lv_goto (tgt := 1550) hx hb dL_619 (by decide) ?_
  exact K H9 locs9 hI9 hS9
set_option maxHeartbeats 4000000 in
theorem lwc_12 {p : Program} {l : Launch} {e : Env} {s : State} {m : MethodId} {below : List Frame} {meth : Method} {c : Code} {b N : Nat} {xs : Nat → Int32} {Q : State → Prop} {H : Heap} {locs : List Loc} {cells slots : Nat} {ls : Array Slot} {qa qr i : Nat} {D : va_G} {cy : Nat → ClassId} {tb adK adV : Nat → Nat} {fv : Option Nat} (X : lwX l p s m meth c b N xs D cy tb adK adV fv) (hi : i + 6 ≤ N) (hI : lwI lwF s D cy adK qa qr H) (hS : va_S (fun q => s.heap.size ≤ q) s.heap H locs) (hcs : cells ≤ 600000 ∧ slots ≤ 7302250) (hl : lwL ls qa qr i b)
    (K : ∀ (H1 : Heap) (locs1 : List Loc), lwI lwF s D cy adK qa qr H1 → va_S (fun q => s.heap.size ≤ q) s.heap H1 locs1 → W p l e room_1 s m #[Value.ref b] below meth c H1 locs1 (cells) (slots) Q (F0 m 1550 ls [])) : W p l e room_1 s m #[Value.ref b] below meth c H locs cells slots Q (F0 m 622 ls []) := by
  obtain ⟨hx, hb, -, -, -, -, -, -, -, -⟩ := id X.1
  refine lv_aload_n hx hb dL_622 rfl (lv_at hl 2 rfl) ?_
  refine lw_arg X.1 X.2.1 hS hl 1 hi (by decide) (by decide +kernel) dL_623 dL_624 dL_625 dL_626 dL_627 ?_
  refine lw_arg X.1 X.2.1 hS hl 2 hi (by decide) (by decide +kernel) dL_628 dL_629 dL_630 dL_631 dL_632 ?_
  refine lw_arg X.1 X.2.1 hS hl 3 hi (by decide) (by decide +kernel) dL_633 dL_634 dL_635 dL_636 dL_637 ?_
  refine lw_arg X.1 X.2.1 hS hl 4 hi (by decide) (by decide +kernel) dL_638 dL_639 dL_640 dL_641 dL_642 ?_
  refine lw_arg X.1 X.2.1 hS hl 5 hi (by decide) (by decide +kernel) dL_643 dL_644 dL_645 dL_646 dL_647 ?_
  refine lwCp (As := [(xs (i + 1)).toInt, (xs (i + 2)).toInt, (xs (i + 3)).toInt, (xs (i + 4)).toInt, (xs (i + 5)).toInt]) (ivs := [(-2147483648, 2147483647), (-2147483648, 2147483647), (-2147483648, 2147483647), (-2147483648, 2147483647), (-2147483648, 2147483647)]) X (zp_X11_state_0 l) (zcv_2 zw_X11_state zr_X11_state_0 65 dL_648 zlL_65 (by decide +kernel) (by decide +kernel)) rfl rfl ⟨rfl, rfl⟩ (by decide) (zg_c (z_lo _) (z_hi _) (zg_c (z_lo _) (z_hi _) (zg_c (z_lo _) (z_hi _) (zg_c (z_lo _) (z_hi _) (zg_c (z_lo _) (z_hi _) zg_n))))) (by decide +kernel) ⟨by decide +kernel, fun _ => ⟨by decide +kernel, by decide +kernel⟩⟩ hI hS hcs hl (rest := []) (by decide) (by simp only [List.map_cons, List.map_nil, List.reverse_cons, List.reverse_nil, List.nil_append, List.cons_append, z_ofi]) (fun x8 H8 locs8 hI8 hS8 => ?_)
  refine lv_pop hx hb dL_651 rfl ?_
  refine lv_aload_n hx hb dL_652 rfl (lv_at hl 1 rfl) ?_
  refine lw_arg X.1 X.2.1 hS8 hl 1 hi (by decide) (by decide +kernel) dL_653 dL_654 dL_655 dL_656 dL_657 ?_
  refine lw_arg X.1 X.2.1 hS8 hl 2 hi (by decide) (by decide +kernel) dL_658 dL_659 dL_660 dL_661 dL_662 ?_
  refine lw_arg X.1 X.2.1 hS8 hl 3 hi (by decide) (by decide +kernel) dL_663 dL_664 dL_665 dL_666 dL_667 ?_
  refine lw_arg X.1 X.2.1 hS8 hl 4 hi (by decide) (by decide +kernel) dL_668 dL_669 dL_670 dL_671 dL_672 ?_
  refine lw_arg X.1 X.2.1 hS8 hl 5 hi (by decide) (by decide +kernel) dL_673 dL_674 dL_675 dL_676 dL_677 ?_
  refine lwRs (sea := (xs (i + 1)).toInt) (Rs := [(xs (i + 2)).toInt, (xs (i + 3)).toInt, (xs (i + 4)).toInt, (xs (i + 5)).toInt]) (rv := [(-2147483648, 2147483647), (-2147483648, 2147483647), (-2147483648, 2147483647), (-2147483648, 2147483647)]) X ⟨zp_X12_state_0 l, zp_X12_state_1 l, zp_X12_state_2 l, zp_X12_state_3 l, zp_X12_state_4 l, zp_X12_state_5 l⟩ ⟨(zcv_2 zw_X12_state zr_X12_state_0 68 dL_678 zlL_68 (by decide +kernel) (by decide +kernel)), (zcv_2 zw_X12_state zr_X12_state_1 68 dL_678 zlL_68 (by decide +kernel) (by decide +kernel)), (zcv_2 zw_X12_state zr_X12_state_2 68 dL_678 zlL_68 (by decide +kernel) (by decide +kernel)), (zcv_2 zw_X12_state zr_X12_state_3 68 dL_678 zlL_68 (by decide +kernel) (by decide +kernel)), (zcv_2 zw_X12_state zr_X12_state_4 68 dL_678 zlL_68 (by decide +kernel) (by decide +kernel)), (zcv_2 zw_X12_state zr_X12_state_5 68 dL_678 zlL_68 (by decide +kernel) (by decide +kernel))⟩ ⟨rfl, rfl, rfl, rfl, by decide +kernel, by decide +kernel⟩ ⟨rfl, rfl, rfl, rfl, by decide +kernel, by decide +kernel⟩ ⟨rfl, rfl, rfl, rfl, by decide +kernel, by decide +kernel⟩ ⟨rfl, rfl, rfl, rfl, by decide +kernel, by decide +kernel⟩ ⟨rfl, rfl, rfl, rfl, by decide +kernel, by decide +kernel⟩ ⟨rfl, rfl, rfl, rfl, by decide +kernel, by decide +kernel⟩ (by decide) ⟨z_lo _, z_hi _⟩ (zg_c (z_lo _) (z_hi _) (zg_c (z_lo _) (z_hi _) (zg_c (z_lo _) (z_hi _) (zg_c (z_lo _) (z_hi _) zg_n)))) hI8 hS8 hcs hl (rest := []) (by decide) (by simp only [List.map_cons, List.map_nil, List.reverse_cons, List.reverse_nil, List.nil_append, List.cons_append, z_ofi]) (fun x9 H9 locs9 hI9 hS9 => ?_)
  refine lv_pop hx hb dL_681 rfl ?_
  refine lv_goto (tgt := 1550) hx hb dL_682 (by decide) ?_
  exact K H9 locs9 hI9 hS9
set_option maxHeartbeats 4000000 in
theorem lwc_13 {p : Program} {l : Launch} {e : Env} {s : State} {m : MethodId} {below : List Frame} {meth : Method} {c : Code} {b N : Nat} {xs : Nat → Int32} {Q : State → Prop} {H : Heap} {locs : List Loc} {cells slots : Nat} {ls : Array Slot} {qa qr i : Nat} {D : va_G} {cy : Nat → ClassId} {tb adK adV : Nat → Nat} {fv : Option Nat} (X : lwX l p s m meth c b N xs D cy tb adK adV fv) (hi : i + 6 ≤ N) (hI : lwI lwF s D cy adK qa qr H) (hS : va_S (fun q => s.heap.size ≤ q) s.heap H locs) (hcs : cells ≤ 600000 ∧ slots ≤ 7302250) (hl : lwL ls qa qr i b)
    (K : ∀ (H1 : Heap) (locs1 : List Loc), lwI lwF s D cy adK qa qr H1 → va_S (fun q => s.heap.size ≤ q) s.heap H1 locs1 → W p l e room_1 s m #[Value.ref b] below meth c H1 locs1 (cells) (slots) Q (F0 m 1550 ls [])) : W p l e room_1 s m #[Value.ref b] below meth c H locs cells slots Q (F0 m 685 ls []) := by
  obtain ⟨hx, hb, -, -, -, -, -, -, -, -⟩ := id X.1
  refine lv_aload_n hx hb dL_685 rfl (lv_at hl 2 rfl) ?_
  refine lw_arg X.1 X.2.1 hS hl 1 hi (by decide) (by decide +kernel) dL_686 dL_687 dL_688 dL_689 dL_690 ?_
  refine lw_arg X.1 X.2.1 hS hl 2 hi (by decide) (by decide +kernel) dL_691 dL_692 dL_693 dL_694 dL_695 ?_
  refine lw_arg X.1 X.2.1 hS hl 3 hi (by decide) (by decide +kernel) dL_696 dL_697 dL_698 dL_699 dL_700 ?_
  refine lw_arg X.1 X.2.1 hS hl 4 hi (by decide) (by decide +kernel) dL_701 dL_702 dL_703 dL_704 dL_705 ?_
  refine lw_arg X.1 X.2.1 hS hl 5 hi (by decide) (by decide +kernel) dL_706 dL_707 dL_708 dL_709 dL_710 ?_
  refine lwCp (As := [(xs (i + 1)).toInt, (xs (i + 2)).toInt, (xs (i + 3)).toInt, (xs (i + 4)).toInt, (xs (i + 5)).toInt]) (ivs := [(-2147483648, 2147483647), (-2147483648, 2147483647), (-2147483648, 2147483647), (-2147483648, 2147483647), (-2147483648, 2147483647)]) X (zp_X11_has_0 l) (zcv_2 zw_X11_has zr_X11_has_0 69 dL_711 zlL_69 (by decide +kernel) (by decide +kernel)) rfl rfl ⟨rfl, rfl⟩ (by decide) (zg_c (z_lo _) (z_hi _) (zg_c (z_lo _) (z_hi _) (zg_c (z_lo _) (z_hi _) (zg_c (z_lo _) (z_hi _) (zg_c (z_lo _) (z_hi _) zg_n))))) (by decide +kernel) ⟨by decide +kernel, fun _ => ⟨by decide +kernel, by decide +kernel⟩⟩ hI hS hcs hl (rest := []) (by decide) (by simp only [List.map_cons, List.map_nil, List.reverse_cons, List.reverse_nil, List.nil_append, List.cons_append, z_ofi]) (fun x8 H8 locs8 hI8 hS8 => ?_)
  refine lv_pop hx hb dL_714 rfl ?_
  refine lv_aload_n hx hb dL_715 rfl (lv_at hl 1 rfl) ?_
  refine lw_arg X.1 X.2.1 hS8 hl 1 hi (by decide) (by decide +kernel) dL_716 dL_717 dL_718 dL_719 dL_720 ?_
  refine lw_arg X.1 X.2.1 hS8 hl 2 hi (by decide) (by decide +kernel) dL_721 dL_722 dL_723 dL_724 dL_725 ?_
  refine lw_arg X.1 X.2.1 hS8 hl 3 hi (by decide) (by decide +kernel) dL_726 dL_727 dL_728 dL_729 dL_730 ?_
  refine lw_arg X.1 X.2.1 hS8 hl 4 hi (by decide) (by decide +kernel) dL_731 dL_732 dL_733 dL_734 dL_735 ?_
  refine lw_arg X.1 X.2.1 hS8 hl 5 hi (by decide) (by decide +kernel) dL_736 dL_737 dL_738 dL_739 dL_740 ?_
  refine lwRs (sea := (xs (i + 1)).toInt) (Rs := [(xs (i + 2)).toInt, (xs (i + 3)).toInt, (xs (i + 4)).toInt, (xs (i + 5)).toInt]) (rv := [(-2147483648, 2147483647), (-2147483648, 2147483647), (-2147483648, 2147483647), (-2147483648, 2147483647)]) X ⟨zp_X12_has_0 l, zp_X12_has_1 l, zp_X12_has_2 l, zp_X12_has_3 l, zp_X12_has_4 l, zp_X12_has_5 l⟩ ⟨(zcv_2 zw_X12_has zr_X12_has_0 72 dL_741 zlL_72 (by decide +kernel) (by decide +kernel)), (zcv_2 zw_X12_has zr_X12_has_1 72 dL_741 zlL_72 (by decide +kernel) (by decide +kernel)), (zcv_2 zw_X12_has zr_X12_has_2 72 dL_741 zlL_72 (by decide +kernel) (by decide +kernel)), (zcv_2 zw_X12_has zr_X12_has_3 72 dL_741 zlL_72 (by decide +kernel) (by decide +kernel)), (zcv_2 zw_X12_has zr_X12_has_4 72 dL_741 zlL_72 (by decide +kernel) (by decide +kernel)), (zcv_2 zw_X12_has zr_X12_has_5 72 dL_741 zlL_72 (by decide +kernel) (by decide +kernel))⟩ ⟨rfl, rfl, rfl, rfl, by decide +kernel, by decide +kernel⟩ ⟨rfl, rfl, rfl, rfl, by decide +kernel, by decide +kernel⟩ ⟨rfl, rfl, rfl, rfl, by decide +kernel, by decide +kernel⟩ ⟨rfl, rfl, rfl, rfl, by decide +kernel, by decide +kernel⟩ ⟨rfl, rfl, rfl, rfl, by decide +kernel, by decide +kernel⟩ ⟨rfl, rfl, rfl, rfl, by decide +kernel, by decide +kernel⟩ (by decide) ⟨z_lo _, z_hi _⟩ (zg_c (z_lo _) (z_hi _) (zg_c (z_lo _) (z_hi _) (zg_c (z_lo _) (z_hi _) (zg_c (z_lo _) (z_hi _) zg_n)))) hI8 hS8 hcs hl (rest := []) (by decide) (by simp only [List.map_cons, List.map_nil, List.reverse_cons, List.reverse_nil, List.nil_append, List.cons_append, z_ofi]) (fun x9 H9 locs9 hI9 hS9 => ?_)
  refine lv_pop hx hb dL_744 rfl ?_
  refine lv_goto (tgt := 1550) hx hb dL_745 (by decide) ?_
  exact K H9 locs9 hI9 hS9
set_option maxHeartbeats 4000000 in
theorem lwc_14 {p : Program} {l : Launch} {e : Env} {s : State} {m : MethodId} {below : List Frame} {meth : Method} {c : Code} {b N : Nat} {xs : Nat → Int32} {Q : State → Prop} {H : Heap} {locs : List Loc} {cells slots : Nat} {ls : Array Slot} {qa qr i : Nat} {D : va_G} {cy : Nat → ClassId} {tb adK adV : Nat → Nat} {fv : Option Nat} (X : lwX l p s m meth c b N xs D cy tb adK adV fv) (hi : i + 6 ≤ N) (hI : lwI lwF s D cy adK qa qr H) (hS : va_S (fun q => s.heap.size ≤ q) s.heap H locs) (hcs : cells ≤ 600000 ∧ slots ≤ 7302250) (hl : lwL ls qa qr i b)
    (K : ∀ (H1 : Heap) (locs1 : List Loc), lwI lwF s D cy adK qa qr H1 → va_S (fun q => s.heap.size ≤ q) s.heap H1 locs1 → W p l e room_1 s m #[Value.ref b] below meth c H1 locs1 (cells) (slots) Q (F0 m 1550 ls [])) : W p l e room_1 s m #[Value.ref b] below meth c H locs cells slots Q (F0 m 748 ls []) := by
  obtain ⟨hx, hb, -, -, -, -, -, -, -, -⟩ := id X.1
  refine lv_aload_n hx hb dL_748 rfl (lv_at hl 2 rfl) ?_
  have cla : ∀ w : Int32, (0 ≤ w.toInt ∧ w.toInt ≤ 1) → W p l e room_1 s m #[Value.ref b] below meth c H locs cells slots Q (F0 m 777 ls [.int w, .int (xs (i + 3)), .int (xs (i + 2)), .int (xs (i + 1)), .ref qa]) := by
    intro w hw
    refine lwCp (As := [(xs (i + 1)).toInt, (xs (i + 2)).toInt, (xs (i + 3)).toInt, w.toInt]) (ivs := [(-2147483648, 2147483647), (-2147483648, 2147483647), (-2147483648, 2147483647), (0, 1)]) X (zp_X11_claimed_0 l) (zcv_2 zw_X11_claimed zr_X11_claimed_0 73 dL_777 zlL_73 (by decide +kernel) (by decide +kernel)) rfl rfl ⟨rfl, rfl⟩ (by decide) (zg_c (z_lo _) (z_hi _) (zg_c (z_lo _) (z_hi _) (zg_c (z_lo _) (z_hi _) (zg_c hw.1 hw.2 zg_n)))) (by decide +kernel) ⟨by decide +kernel, fun _ => ⟨by decide +kernel, by decide +kernel⟩⟩ hI hS hcs hl (rest := []) (by decide) (by simp only [List.map_cons, List.map_nil, List.reverse_cons, List.reverse_nil, List.nil_append, List.cons_append, z_ofi]) (fun x8 H8 locs8 hI8 hS8 => ?_)
    refine lv_pop hx hb dL_780 rfl ?_
    refine lv_aload_n hx hb dL_781 rfl (lv_at hl 1 rfl) ?_
    have clr : ∀ w : Int32, (0 ≤ w.toInt ∧ w.toInt ≤ 1) → W p l e room_1 s m #[Value.ref b] below meth c H8 locs8 cells slots Q (F0 m 810 ls [.int w, .int (xs (i + 3)), .int (xs (i + 2)), .int (xs (i + 1)), .ref qr]) := by
      intro w hw
      refine lwRs (sea := (xs (i + 1)).toInt) (Rs := [(xs (i + 2)).toInt, (xs (i + 3)).toInt, w.toInt]) (rv := [(-2147483648, 2147483647), (-2147483648, 2147483647), (0, 1)]) X ⟨zp_X12_claimed_0 l, zp_X12_claimed_1 l, zp_X12_claimed_2 l, zp_X12_claimed_3 l, zp_X12_claimed_4 l, zp_X12_claimed_5 l⟩ ⟨(zcv_2 zw_X12_claimed zr_X12_claimed_0 77 dL_810 zlL_77 (by decide +kernel) (by decide +kernel)), (zcv_2 zw_X12_claimed zr_X12_claimed_1 77 dL_810 zlL_77 (by decide +kernel) (by decide +kernel)), (zcv_2 zw_X12_claimed zr_X12_claimed_2 77 dL_810 zlL_77 (by decide +kernel) (by decide +kernel)), (zcv_2 zw_X12_claimed zr_X12_claimed_3 77 dL_810 zlL_77 (by decide +kernel) (by decide +kernel)), (zcv_2 zw_X12_claimed zr_X12_claimed_4 77 dL_810 zlL_77 (by decide +kernel) (by decide +kernel)), (zcv_2 zw_X12_claimed zr_X12_claimed_5 77 dL_810 zlL_77 (by decide +kernel) (by decide +kernel))⟩ ⟨rfl, rfl, rfl, rfl, by decide +kernel, by decide +kernel⟩ ⟨rfl, rfl, rfl, rfl, by decide +kernel, by decide +kernel⟩ ⟨rfl, rfl, rfl, rfl, by decide +kernel, by decide +kernel⟩ ⟨rfl, rfl, rfl, rfl, by decide +kernel, by decide +kernel⟩ ⟨rfl, rfl, rfl, rfl, by decide +kernel, by decide +kernel⟩ ⟨rfl, rfl, rfl, rfl, by decide +kernel, by decide +kernel⟩ (by decide) ⟨z_lo _, z_hi _⟩ (zg_c (z_lo _) (z_hi _) (zg_c (z_lo _) (z_hi _) (zg_c hw.1 hw.2 zg_n))) hI8 hS8 hcs hl (rest := []) (by decide) (by simp only [List.map_cons, List.map_nil, List.reverse_cons, List.reverse_nil, List.nil_append, List.cons_append, z_ofi]) (fun x9 H9 locs9 hI9 hS9 => ?_)
      refine lv_pop hx hb dL_813 rfl ?_
      refine lv_goto (tgt := 1550) hx hb dL_814 (by decide) ?_
      exact K H9 locs9 hI9 hS9
    refine lw_arg X.1 X.2.1 hS8 hl 1 hi (by decide) (by decide +kernel) dL_782 dL_783 dL_784 dL_785 dL_786 ?_
    refine lw_arg X.1 X.2.1 hS8 hl 2 hi (by decide) (by decide +kernel) dL_787 dL_788 dL_789 dL_790 dL_791 ?_
    refine lw_arg X.1 X.2.1 hS8 hl 3 hi (by decide) (by decide +kernel) dL_792 dL_793 dL_794 dL_795 dL_796 ?_
    refine lw_arg X.1 X.2.1 hS8 hl 4 hi (by decide) (by decide +kernel) dL_797 dL_798 dL_799 dL_800 dL_801 ?_
    refine lv_if_eq (tgt := 809) hx hb dL_802 (by decide) (fun _ => ?_) (fun _ => ?_)
    · refine lv_iconst (v := 0) hx hb dL_809 (by decide +kernel) ?_
      exact clr 0 (by decide)
    · refine lv_iconst (v := 1) hx hb dL_805 (by decide +kernel) ?_
      refine lv_goto (tgt := 810) hx hb dL_806 (by decide) ?_
      exact clr 1 (by decide)
  refine lw_arg X.1 X.2.1 hS hl 1 hi (by decide) (by decide +kernel) dL_749 dL_750 dL_751 dL_752 dL_753 ?_
  refine lw_arg X.1 X.2.1 hS hl 2 hi (by decide) (by decide +kernel) dL_754 dL_755 dL_756 dL_757 dL_758 ?_
  refine lw_arg X.1 X.2.1 hS hl 3 hi (by decide) (by decide +kernel) dL_759 dL_760 dL_761 dL_762 dL_763 ?_
  refine lw_arg X.1 X.2.1 hS hl 4 hi (by decide) (by decide +kernel) dL_764 dL_765 dL_766 dL_767 dL_768 ?_
  refine lv_if_eq (tgt := 776) hx hb dL_769 (by decide) (fun _ => ?_) (fun _ => ?_)
  · refine lv_iconst (v := 0) hx hb dL_776 (by decide +kernel) ?_
    exact cla 0 (by decide)
  · refine lv_iconst (v := 1) hx hb dL_772 (by decide +kernel) ?_
    refine lv_goto (tgt := 777) hx hb dL_773 (by decide) ?_
    exact cla 1 (by decide)
set_option maxHeartbeats 4000000 in
theorem lwc_15 {p : Program} {l : Launch} {e : Env} {s : State} {m : MethodId} {below : List Frame} {meth : Method} {c : Code} {b N : Nat} {xs : Nat → Int32} {Q : State → Prop} {H : Heap} {locs : List Loc} {cells slots : Nat} {ls : Array Slot} {qa qr i : Nat} {D : va_G} {cy : Nat → ClassId} {tb adK adV : Nat → Nat} {fv : Option Nat} (X : lwX l p s m meth c b N xs D cy tb adK adV fv) (hi : i + 6 ≤ N) (hI : lwI lwF s D cy adK qa qr H) (hS : va_S (fun q => s.heap.size ≤ q) s.heap H locs) (hcs : cells ≤ 600000 ∧ slots ≤ 7302250) (hl : lwL ls qa qr i b)
    (K : ∀ (H1 : Heap) (locs1 : List Loc), lwI lwF s D cy adK qa qr H1 → va_S (fun q => s.heap.size ≤ q) s.heap H1 locs1 → W p l e room_1 s m #[Value.ref b] below meth c H1 locs1 (cells) (slots) Q (F0 m 1550 ls [])) : W p l e room_1 s m #[Value.ref b] below meth c H locs cells slots Q (F0 m 817 ls []) := by
  obtain ⟨hx, hb, -, -, -, -, -, -, -, -⟩ := id X.1
  refine lv_aload_n hx hb dL_817 rfl (lv_at hl 2 rfl) ?_
  refine lw_arg X.1 X.2.1 hS hl 1 hi (by decide) (by decide +kernel) dL_818 dL_819 dL_820 dL_821 dL_822 ?_
  refine lw_arg X.1 X.2.1 hS hl 2 hi (by decide) (by decide +kernel) dL_823 dL_824 dL_825 dL_826 dL_827 ?_
  refine lw_arg X.1 X.2.1 hS hl 3 hi (by decide) (by decide +kernel) dL_828 dL_829 dL_830 dL_831 dL_832 ?_
  refine lw_arg X.1 X.2.1 hS hl 4 hi (by decide) (by decide +kernel) dL_833 dL_834 dL_835 dL_836 dL_837 ?_
  refine lwCp (As := [(xs (i + 1)).toInt, (xs (i + 2)).toInt, (xs (i + 3)).toInt, (xs (i + 4)).toInt]) (ivs := [(-2147483648, 2147483647), (-2147483648, 2147483647), (-2147483648, 2147483647), (-2147483648, 2147483647)]) X (zp_X11_shares_0 l) (zcv_2 zw_X11_shares zr_X11_shares_0 78 dL_838 zlL_78 (by decide +kernel) (by decide +kernel)) rfl rfl ⟨rfl, rfl⟩ (by decide) (zg_c (z_lo _) (z_hi _) (zg_c (z_lo _) (z_hi _) (zg_c (z_lo _) (z_hi _) (zg_c (z_lo _) (z_hi _) zg_n)))) (by decide +kernel) ⟨by decide +kernel, fun _ => ⟨by decide +kernel, by decide +kernel⟩⟩ hI hS hcs hl (rest := []) (by decide) (by simp only [List.map_cons, List.map_nil, List.reverse_cons, List.reverse_nil, List.nil_append, List.cons_append, z_ofi]) (fun x8 H8 locs8 hI8 hS8 => ?_)
  refine lv_pop hx hb dL_841 rfl ?_
  refine lv_aload_n hx hb dL_842 rfl (lv_at hl 1 rfl) ?_
  refine lw_arg X.1 X.2.1 hS8 hl 1 hi (by decide) (by decide +kernel) dL_843 dL_844 dL_845 dL_846 dL_847 ?_
  refine lw_arg X.1 X.2.1 hS8 hl 2 hi (by decide) (by decide +kernel) dL_848 dL_849 dL_850 dL_851 dL_852 ?_
  refine lw_arg X.1 X.2.1 hS8 hl 3 hi (by decide) (by decide +kernel) dL_853 dL_854 dL_855 dL_856 dL_857 ?_
  refine lw_arg X.1 X.2.1 hS8 hl 4 hi (by decide) (by decide +kernel) dL_858 dL_859 dL_860 dL_861 dL_862 ?_
  refine lwRs (sea := (xs (i + 1)).toInt) (Rs := [(xs (i + 2)).toInt, (xs (i + 3)).toInt, (xs (i + 4)).toInt]) (rv := [(-2147483648, 2147483647), (-2147483648, 2147483647), (-2147483648, 2147483647)]) X ⟨zp_X12_shares_0 l, zp_X12_shares_1 l, zp_X12_shares_2 l, zp_X12_shares_3 l, zp_X12_shares_4 l, zp_X12_shares_5 l⟩ ⟨(zcv_2 zw_X12_shares zr_X12_shares_0 82 dL_863 zlL_82 (by decide +kernel) (by decide +kernel)), (zcv_2 zw_X12_shares zr_X12_shares_1 82 dL_863 zlL_82 (by decide +kernel) (by decide +kernel)), (zcv_2 zw_X12_shares zr_X12_shares_2 82 dL_863 zlL_82 (by decide +kernel) (by decide +kernel)), (zcv_2 zw_X12_shares zr_X12_shares_3 82 dL_863 zlL_82 (by decide +kernel) (by decide +kernel)), (zcv_2 zw_X12_shares zr_X12_shares_4 82 dL_863 zlL_82 (by decide +kernel) (by decide +kernel)), (zcv_2 zw_X12_shares zr_X12_shares_5 82 dL_863 zlL_82 (by decide +kernel) (by decide +kernel))⟩ ⟨rfl, rfl, rfl, rfl, by decide +kernel, by decide +kernel⟩ ⟨rfl, rfl, rfl, rfl, by decide +kernel, by decide +kernel⟩ ⟨rfl, rfl, rfl, rfl, by decide +kernel, by decide +kernel⟩ ⟨rfl, rfl, rfl, rfl, by decide +kernel, by decide +kernel⟩ ⟨rfl, rfl, rfl, rfl, by decide +kernel, by decide +kernel⟩ ⟨rfl, rfl, rfl, rfl, by decide +kernel, by decide +kernel⟩ (by decide) ⟨z_lo _, z_hi _⟩ (zg_c (z_lo _) (z_hi _) (zg_c (z_lo _) (z_hi _) (zg_c (z_lo _) (z_hi _) zg_n))) hI8 hS8 hcs hl (rest := []) (by decide) (by simp only [List.map_cons, List.map_nil, List.reverse_cons, List.reverse_nil, List.nil_append, List.cons_append, z_ofi]) (fun x9 H9 locs9 hI9 hS9 => ?_)
  refine lv_pop hx hb dL_866 rfl ?_
  refine lv_goto (tgt := 1550) hx hb dL_867 (by decide) ?_
  exact K H9 locs9 hI9 hS9
set_option maxHeartbeats 4000000 in
theorem lwc_16 {p : Program} {l : Launch} {e : Env} {s : State} {m : MethodId} {below : List Frame} {meth : Method} {c : Code} {b N : Nat} {xs : Nat → Int32} {Q : State → Prop} {H : Heap} {locs : List Loc} {cells slots : Nat} {ls : Array Slot} {qa qr i : Nat} {D : va_G} {cy : Nat → ClassId} {tb adK adV : Nat → Nat} {fv : Option Nat} (X : lwX l p s m meth c b N xs D cy tb adK adV fv) (hi : i + 6 ≤ N) (hI : lwI lwF s D cy adK qa qr H) (hS : va_S (fun q => s.heap.size ≤ q) s.heap H locs) (hcs : cells ≤ 600000 ∧ slots ≤ 7302250) (hl : lwL ls qa qr i b)
    (K : ∀ (H1 : Heap) (locs1 : List Loc), lwI lwF s D cy adK qa qr H1 → va_S (fun q => s.heap.size ≤ q) s.heap H1 locs1 → W p l e room_1 s m #[Value.ref b] below meth c H1 locs1 (cells) (slots) Q (F0 m 1550 ls [])) : W p l e room_1 s m #[Value.ref b] below meth c H locs cells slots Q (F0 m 870 ls []) := by
  obtain ⟨hx, hb, -, -, -, -, -, -, -, -⟩ := id X.1
  refine lv_aload_n hx hb dL_870 rfl (lv_at hl 2 rfl) ?_
  refine lw_arg X.1 X.2.1 hS hl 1 hi (by decide) (by decide +kernel) dL_871 dL_872 dL_873 dL_874 dL_875 ?_
  refine lw_arg X.1 X.2.1 hS hl 2 hi (by decide) (by decide +kernel) dL_876 dL_877 dL_878 dL_879 dL_880 ?_
  refine lwCp (As := [(xs (i + 1)).toInt, (xs (i + 2)).toInt]) (ivs := [(-2147483648, 2147483647), (-2147483648, 2147483647)]) X (zp_X11_twice_0 l) (zcv_2 zw_X11_twice zr_X11_twice_0 83 dL_881 zlL_83 (by decide +kernel) (by decide +kernel)) rfl rfl ⟨rfl, rfl⟩ (by decide) (zg_c (z_lo _) (z_hi _) (zg_c (z_lo _) (z_hi _) zg_n)) (by decide +kernel) ⟨by decide +kernel, fun _ => ⟨by decide +kernel, by decide +kernel⟩⟩ hI hS hcs hl (rest := []) (by decide) (by simp only [List.map_cons, List.map_nil, List.reverse_cons, List.reverse_nil, List.nil_append, List.cons_append, z_ofi]) (fun x8 H8 locs8 hI8 hS8 => ?_)
  refine lv_pop hx hb dL_884 rfl ?_
  refine lv_aload_n hx hb dL_885 rfl (lv_at hl 1 rfl) ?_
  refine lw_arg X.1 X.2.1 hS8 hl 1 hi (by decide) (by decide +kernel) dL_886 dL_887 dL_888 dL_889 dL_890 ?_
  refine lw_arg X.1 X.2.1 hS8 hl 2 hi (by decide) (by decide +kernel) dL_891 dL_892 dL_893 dL_894 dL_895 ?_
  refine lwRs (sea := (xs (i + 1)).toInt) (Rs := [(xs (i + 2)).toInt]) (rv := [(-2147483648, 2147483647)]) X ⟨zp_X12_twice_0 l, zp_X12_twice_1 l, zp_X12_twice_2 l, zp_X12_twice_3 l, zp_X12_twice_4 l, zp_X12_twice_5 l⟩ ⟨(zcv_2 zw_X12_twice zr_X12_twice_0 86 dL_896 zlL_86 (by decide +kernel) (by decide +kernel)), (zcv_2 zw_X12_twice zr_X12_twice_1 86 dL_896 zlL_86 (by decide +kernel) (by decide +kernel)), (zcv_2 zw_X12_twice zr_X12_twice_2 86 dL_896 zlL_86 (by decide +kernel) (by decide +kernel)), (zcv_2 zw_X12_twice zr_X12_twice_3 86 dL_896 zlL_86 (by decide +kernel) (by decide +kernel)), (zcv_2 zw_X12_twice zr_X12_twice_4 86 dL_896 zlL_86 (by decide +kernel) (by decide +kernel)), (zcv_2 zw_X12_twice zr_X12_twice_5 86 dL_896 zlL_86 (by decide +kernel) (by decide +kernel))⟩ ⟨rfl, rfl, rfl, rfl, by decide +kernel, by decide +kernel⟩ ⟨rfl, rfl, rfl, rfl, by decide +kernel, by decide +kernel⟩ ⟨rfl, rfl, rfl, rfl, by decide +kernel, by decide +kernel⟩ ⟨rfl, rfl, rfl, rfl, by decide +kernel, by decide +kernel⟩ ⟨rfl, rfl, rfl, rfl, by decide +kernel, by decide +kernel⟩ ⟨rfl, rfl, rfl, rfl, by decide +kernel, by decide +kernel⟩ (by decide) ⟨z_lo _, z_hi _⟩ (zg_c (z_lo _) (z_hi _) zg_n) hI8 hS8 hcs hl (rest := []) (by decide) (by simp only [List.map_cons, List.map_nil, List.reverse_cons, List.reverse_nil, List.nil_append, List.cons_append, z_ofi]) (fun x9 H9 locs9 hI9 hS9 => ?_)
  refine lv_pop hx hb dL_899 rfl ?_
  refine lv_goto (tgt := 1550) hx hb dL_900 (by decide) ?_
  exact K H9 locs9 hI9 hS9
set_option maxHeartbeats 4000000 in
theorem lwc_17 {p : Program} {l : Launch} {e : Env} {s : State} {m : MethodId} {below : List Frame} {meth : Method} {c : Code} {b N : Nat} {xs : Nat → Int32} {Q : State → Prop} {H : Heap} {locs : List Loc} {cells slots : Nat} {ls : Array Slot} {qa qr i : Nat} {D : va_G} {cy : Nat → ClassId} {tb adK adV : Nat → Nat} {fv : Option Nat} (X : lwX l p s m meth c b N xs D cy tb adK adV fv) (hi : i + 6 ≤ N) (hI : lwI lwF s D cy adK qa qr H) (hS : va_S (fun q => s.heap.size ≤ q) s.heap H locs) (hcs : cells ≤ 600000 ∧ slots ≤ 7302250) (hl : lwL ls qa qr i b)
    (K : ∀ (H1 : Heap) (locs1 : List Loc), lwI lwF s D cy adK qa qr H1 → va_S (fun q => s.heap.size ≤ q) s.heap H1 locs1 → W p l e room_1 s m #[Value.ref b] below meth c H1 locs1 (cells) (slots) Q (F0 m 1550 ls [])) : W p l e room_1 s m #[Value.ref b] below meth c H locs cells slots Q (F0 m 903 ls []) := by
  obtain ⟨hx, hb, -, -, -, -, -, -, -, -⟩ := id X.1
  refine lv_aload_n hx hb dL_903 rfl (lv_at hl 2 rfl) ?_
  refine lw_arg X.1 X.2.1 hS hl 1 hi (by decide) (by decide +kernel) dL_904 dL_905 dL_906 dL_907 dL_908 ?_
  refine lw_arg X.1 X.2.1 hS hl 2 hi (by decide) (by decide +kernel) dL_909 dL_910 dL_911 dL_912 dL_913 ?_
  refine lw_arg X.1 X.2.1 hS hl 3 hi (by decide) (by decide +kernel) dL_914 dL_915 dL_916 dL_917 dL_918 ?_
  refine lw_arg X.1 X.2.1 hS hl 4 hi (by decide) (by decide +kernel) dL_919 dL_920 dL_921 dL_922 dL_923 ?_
  refine lwCp (As := [(xs (i + 1)).toInt, (xs (i + 2)).toInt, (xs (i + 3)).toInt, (xs (i + 4)).toInt]) (ivs := [(-2147483648, 2147483647), (-2147483648, 2147483647), (-2147483648, 2147483647), (-2147483648, 2147483647)]) X (zp_X11_soon_0 l) (zcv_2 zw_X11_soon zr_X11_soon_0 87 dL_924 zlL_87 (by decide +kernel) (by decide +kernel)) rfl rfl ⟨rfl, rfl⟩ (by decide) (zg_c (z_lo _) (z_hi _) (zg_c (z_lo _) (z_hi _) (zg_c (z_lo _) (z_hi _) (zg_c (z_lo _) (z_hi _) zg_n)))) (by decide +kernel) ⟨by decide +kernel, fun _ => ⟨by decide +kernel, by decide +kernel⟩⟩ hI hS hcs hl (rest := []) (by decide) (by simp only [List.map_cons, List.map_nil, List.reverse_cons, List.reverse_nil, List.nil_append, List.cons_append, z_ofi]) (fun x8 H8 locs8 hI8 hS8 => ?_)
  refine lv_pop hx hb dL_927 rfl ?_
  refine lv_aload_n hx hb dL_928 rfl (lv_at hl 1 rfl) ?_
  refine lw_arg X.1 X.2.1 hS8 hl 1 hi (by decide) (by decide +kernel) dL_929 dL_930 dL_931 dL_932 dL_933 ?_
  refine lw_arg X.1 X.2.1 hS8 hl 2 hi (by decide) (by decide +kernel) dL_934 dL_935 dL_936 dL_937 dL_938 ?_
  refine lw_arg X.1 X.2.1 hS8 hl 3 hi (by decide) (by decide +kernel) dL_939 dL_940 dL_941 dL_942 dL_943 ?_
  refine lw_arg X.1 X.2.1 hS8 hl 4 hi (by decide) (by decide +kernel) dL_944 dL_945 dL_946 dL_947 dL_948 ?_
  refine lwRs (sea := (xs (i + 1)).toInt) (Rs := [(xs (i + 2)).toInt, (xs (i + 3)).toInt, (xs (i + 4)).toInt]) (rv := [(-2147483648, 2147483647), (-2147483648, 2147483647), (-2147483648, 2147483647)]) X ⟨zp_X12_soon_4 l, zp_X12_soon_5 l, zp_X12_soon_0 l, zp_X12_soon_1 l, zp_X12_soon_2 l, zp_X12_soon_3 l⟩ ⟨(zcv_2 zw_X12_soon zr_X12_soon_4 90 dL_949 zlL_90 (by decide +kernel) (by decide +kernel)), (zcv_2 zw_X12_soon zr_X12_soon_5 90 dL_949 zlL_90 (by decide +kernel) (by decide +kernel)), (zcv_2 zw_X12_soon zr_X12_soon_0 90 dL_949 zlL_90 (by decide +kernel) (by decide +kernel)), (zcv_2 zw_X12_soon zr_X12_soon_1 90 dL_949 zlL_90 (by decide +kernel) (by decide +kernel)), (zcv_2 zw_X12_soon zr_X12_soon_2 90 dL_949 zlL_90 (by decide +kernel) (by decide +kernel)), (zcv_2 zw_X12_soon zr_X12_soon_3 90 dL_949 zlL_90 (by decide +kernel) (by decide +kernel))⟩ ⟨rfl, rfl, rfl, rfl, by decide +kernel, by decide +kernel⟩ ⟨rfl, rfl, rfl, rfl, by decide +kernel, by decide +kernel⟩ ⟨rfl, rfl, rfl, rfl, by decide +kernel, by decide +kernel⟩ ⟨rfl, rfl, rfl, rfl, by decide +kernel, by decide +kernel⟩ ⟨rfl, rfl, rfl, rfl, by decide +kernel, by decide +kernel⟩ ⟨rfl, rfl, rfl, rfl, by decide +kernel, by decide +kernel⟩ (by decide) ⟨z_lo _, z_hi _⟩ (zg_c (z_lo _) (z_hi _) (zg_c (z_lo _) (z_hi _) (zg_c (z_lo _) (z_hi _) zg_n))) hI8 hS8 hcs hl (rest := []) (by decide) (by simp only [List.map_cons, List.map_nil, List.reverse_cons, List.reverse_nil, List.nil_append, List.cons_append, z_ofi]) (fun x9 H9 locs9 hI9 hS9 => ?_)
  refine lv_pop hx hb dL_952 rfl ?_
  refine lv_goto (tgt := 1550) hx hb dL_953 (by decide) ?_
  exact K H9 locs9 hI9 hS9
set_option maxHeartbeats 4000000 in
theorem lwc_18 {p : Program} {l : Launch} {e : Env} {s : State} {m : MethodId} {below : List Frame} {meth : Method} {c : Code} {b N : Nat} {xs : Nat → Int32} {Q : State → Prop} {H : Heap} {locs : List Loc} {cells slots : Nat} {ls : Array Slot} {qa qr i : Nat} {D : va_G} {cy : Nat → ClassId} {tb adK adV : Nat → Nat} {fv : Option Nat} (X : lwX l p s m meth c b N xs D cy tb adK adV fv) (hi : i + 6 ≤ N) (hI : lwI lwF s D cy adK qa qr H) (hS : va_S (fun q => s.heap.size ≤ q) s.heap H locs) (hcs : cells ≤ 600000 ∧ slots ≤ 7302250) (hl : lwL ls qa qr i b)
    (K : ∀ (H1 : Heap) (locs1 : List Loc), lwI lwF s D cy adK qa qr H1 → va_S (fun q => s.heap.size ≤ q) s.heap H1 locs1 → W p l e room_1 s m #[Value.ref b] below meth c H1 locs1 (cells) (slots) Q (F0 m 1550 ls [])) : W p l e room_1 s m #[Value.ref b] below meth c H locs cells slots Q (F0 m 956 ls []) := by
  obtain ⟨hx, hb, -, -, -, -, -, -, -, -⟩ := id X.1
  refine lv_aload_n hx hb dL_956 rfl (lv_at hl 2 rfl) ?_
  have cla : ∀ w : Int32, (0 ≤ w.toInt ∧ w.toInt ≤ 1) → W p l e room_1 s m #[Value.ref b] below meth c H locs cells slots Q (F0 m 980 ls [.int w, .int (xs (i + 2)), .int (xs (i + 1)), .ref qa]) := by
    intro w hw
    refine lwCp (As := [(xs (i + 1)).toInt, (xs (i + 2)).toInt, w.toInt]) (ivs := [(-2147483648, 2147483647), (-2147483648, 2147483647), (0, 1)]) X (zp_X11_berth_0 l) (zcv_2 zw_X11_berth zr_X11_berth_0 91 dL_980 zlL_91 (by decide +kernel) (by decide +kernel)) rfl rfl ⟨rfl, rfl⟩ (by decide) (zg_c (z_lo _) (z_hi _) (zg_c (z_lo _) (z_hi _) (zg_c hw.1 hw.2 zg_n))) (by decide +kernel) ⟨by decide +kernel, fun _ => ⟨by decide +kernel, by decide +kernel⟩⟩ hI hS hcs hl (rest := []) (by decide) (by simp only [List.map_cons, List.map_nil, List.reverse_cons, List.reverse_nil, List.nil_append, List.cons_append, z_ofi]) (fun x8 H8 locs8 hI8 hS8 => ?_)
    refine lv_pop hx hb dL_983 rfl ?_
    refine lv_aload_n hx hb dL_984 rfl (lv_at hl 1 rfl) ?_
    have clr : ∀ w : Int32, (0 ≤ w.toInt ∧ w.toInt ≤ 1) → W p l e room_1 s m #[Value.ref b] below meth c H8 locs8 cells slots Q (F0 m 1008 ls [.int w, .int (xs (i + 2)), .int (xs (i + 1)), .ref qr]) := by
      intro w hw
      refine lwRs (sea := (xs (i + 1)).toInt) (Rs := [(xs (i + 2)).toInt, w.toInt]) (rv := [(-2147483648, 2147483647), (0, 1)]) X ⟨zp_X12_berth_0 l, zp_X12_berth_1 l, zp_X12_berth_2 l, zp_X12_berth_3 l, zp_X12_berth_4 l, zp_X12_berth_5 l⟩ ⟨(zcv_2 zw_X12_berth zr_X12_berth_0 95 dL_1008 zlL_95 (by decide +kernel) (by decide +kernel)), (zcv_2 zw_X12_berth zr_X12_berth_1 95 dL_1008 zlL_95 (by decide +kernel) (by decide +kernel)), (zcv_2 zw_X12_berth zr_X12_berth_2 95 dL_1008 zlL_95 (by decide +kernel) (by decide +kernel)), (zcv_2 zw_X12_berth zr_X12_berth_3 95 dL_1008 zlL_95 (by decide +kernel) (by decide +kernel)), (zcv_2 zw_X12_berth zr_X12_berth_4 95 dL_1008 zlL_95 (by decide +kernel) (by decide +kernel)), (zcv_2 zw_X12_berth zr_X12_berth_5 95 dL_1008 zlL_95 (by decide +kernel) (by decide +kernel))⟩ ⟨rfl, rfl, rfl, rfl, by decide +kernel, by decide +kernel⟩ ⟨rfl, rfl, rfl, rfl, by decide +kernel, by decide +kernel⟩ ⟨rfl, rfl, rfl, rfl, by decide +kernel, by decide +kernel⟩ ⟨rfl, rfl, rfl, rfl, by decide +kernel, by decide +kernel⟩ ⟨rfl, rfl, rfl, rfl, by decide +kernel, by decide +kernel⟩ ⟨rfl, rfl, rfl, rfl, by decide +kernel, by decide +kernel⟩ (by decide) ⟨z_lo _, z_hi _⟩ (zg_c (z_lo _) (z_hi _) (zg_c hw.1 hw.2 zg_n)) hI8 hS8 hcs hl (rest := []) (by decide) (by simp only [List.map_cons, List.map_nil, List.reverse_cons, List.reverse_nil, List.nil_append, List.cons_append, z_ofi]) (fun x9 H9 locs9 hI9 hS9 => ?_)
      refine lv_pop hx hb dL_1011 rfl ?_
      refine lv_goto (tgt := 1550) hx hb dL_1012 (by decide) ?_
      exact K H9 locs9 hI9 hS9
    refine lw_arg X.1 X.2.1 hS8 hl 1 hi (by decide) (by decide +kernel) dL_985 dL_986 dL_987 dL_988 dL_989 ?_
    refine lw_arg X.1 X.2.1 hS8 hl 2 hi (by decide) (by decide +kernel) dL_990 dL_991 dL_992 dL_993 dL_994 ?_
    refine lw_arg X.1 X.2.1 hS8 hl 3 hi (by decide) (by decide +kernel) dL_995 dL_996 dL_997 dL_998 dL_999 ?_
    refine lv_if_eq (tgt := 1007) hx hb dL_1000 (by decide) (fun _ => ?_) (fun _ => ?_)
    · refine lv_iconst (v := 0) hx hb dL_1007 (by decide +kernel) ?_
      exact clr 0 (by decide)
    · refine lv_iconst (v := 1) hx hb dL_1003 (by decide +kernel) ?_
      refine lv_goto (tgt := 1008) hx hb dL_1004 (by decide) ?_
      exact clr 1 (by decide)
  refine lw_arg X.1 X.2.1 hS hl 1 hi (by decide) (by decide +kernel) dL_957 dL_958 dL_959 dL_960 dL_961 ?_
  refine lw_arg X.1 X.2.1 hS hl 2 hi (by decide) (by decide +kernel) dL_962 dL_963 dL_964 dL_965 dL_966 ?_
  refine lw_arg X.1 X.2.1 hS hl 3 hi (by decide) (by decide +kernel) dL_967 dL_968 dL_969 dL_970 dL_971 ?_
  refine lv_if_eq (tgt := 979) hx hb dL_972 (by decide) (fun _ => ?_) (fun _ => ?_)
  · refine lv_iconst (v := 0) hx hb dL_979 (by decide +kernel) ?_
    exact cla 0 (by decide)
  · refine lv_iconst (v := 1) hx hb dL_975 (by decide +kernel) ?_
    refine lv_goto (tgt := 980) hx hb dL_976 (by decide) ?_
    exact cla 1 (by decide)
set_option maxHeartbeats 4000000 in
theorem lwc_19 {p : Program} {l : Launch} {e : Env} {s : State} {m : MethodId} {below : List Frame} {meth : Method} {c : Code} {b N : Nat} {xs : Nat → Int32} {Q : State → Prop} {H : Heap} {locs : List Loc} {cells slots : Nat} {ls : Array Slot} {qa qr i : Nat} {D : va_G} {cy : Nat → ClassId} {tb adK adV : Nat → Nat} {fv : Option Nat} (X : lwX l p s m meth c b N xs D cy tb adK adV fv) (hi : i + 6 ≤ N) (hI : lwI lwF s D cy adK qa qr H) (hS : va_S (fun q => s.heap.size ≤ q) s.heap H locs) (hcs : cells ≤ 600000 ∧ slots ≤ 7302250) (hl : lwL ls qa qr i b)
    (K : ∀ (H1 : Heap) (locs1 : List Loc), lwI lwF s D cy adK qa qr H1 → va_S (fun q => s.heap.size ≤ q) s.heap H1 locs1 → W p l e room_1 s m #[Value.ref b] below meth c H1 locs1 (cells) (slots) Q (F0 m 1550 ls [])) : W p l e room_1 s m #[Value.ref b] below meth c H locs cells slots Q (F0 m 1015 ls []) := by
  obtain ⟨hx, hb, -, -, -, -, -, -, -, -⟩ := id X.1
  refine lv_aload_n hx hb dL_1015 rfl (lv_at hl 2 rfl) ?_
  refine lw_arg X.1 X.2.1 hS hl 1 hi (by decide) (by decide +kernel) dL_1016 dL_1017 dL_1018 dL_1019 dL_1020 ?_
  refine lw_arg X.1 X.2.1 hS hl 2 hi (by decide) (by decide +kernel) dL_1021 dL_1022 dL_1023 dL_1024 dL_1025 ?_
  refine lw_arg X.1 X.2.1 hS hl 3 hi (by decide) (by decide +kernel) dL_1026 dL_1027 dL_1028 dL_1029 dL_1030 ?_
  refine lw_arg X.1 X.2.1 hS hl 4 hi (by decide) (by decide +kernel) dL_1031 dL_1032 dL_1033 dL_1034 dL_1035 ?_
  refine lwCp (As := [(xs (i + 1)).toInt, (xs (i + 2)).toInt, (xs (i + 3)).toInt, (xs (i + 4)).toInt]) (ivs := [(-2147483648, 2147483647), (-2147483648, 2147483647), (-2147483648, 2147483647), (-2147483648, 2147483647)]) X (zp_X11_pair_0 l) (zcv_2 zw_X11_pair zr_X11_pair_0 96 dL_1036 zlL_96 (by decide +kernel) (by decide +kernel)) rfl rfl ⟨rfl, rfl⟩ (by decide) (zg_c (z_lo _) (z_hi _) (zg_c (z_lo _) (z_hi _) (zg_c (z_lo _) (z_hi _) (zg_c (z_lo _) (z_hi _) zg_n)))) (by decide +kernel) ⟨by decide +kernel, fun _ => ⟨by decide +kernel, by decide +kernel⟩⟩ hI hS hcs hl (rest := []) (by decide) (by simp only [List.map_cons, List.map_nil, List.reverse_cons, List.reverse_nil, List.nil_append, List.cons_append, z_ofi]) (fun x8 H8 locs8 hI8 hS8 => ?_)
  refine lv_pop hx hb dL_1039 rfl ?_
  refine lv_aload_n hx hb dL_1040 rfl (lv_at hl 1 rfl) ?_
  refine lw_arg X.1 X.2.1 hS8 hl 1 hi (by decide) (by decide +kernel) dL_1041 dL_1042 dL_1043 dL_1044 dL_1045 ?_
  refine lw_arg X.1 X.2.1 hS8 hl 2 hi (by decide) (by decide +kernel) dL_1046 dL_1047 dL_1048 dL_1049 dL_1050 ?_
  refine lw_arg X.1 X.2.1 hS8 hl 3 hi (by decide) (by decide +kernel) dL_1051 dL_1052 dL_1053 dL_1054 dL_1055 ?_
  refine lw_arg X.1 X.2.1 hS8 hl 4 hi (by decide) (by decide +kernel) dL_1056 dL_1057 dL_1058 dL_1059 dL_1060 ?_
  refine lwRs (sea := (xs (i + 1)).toInt) (Rs := [(xs (i + 2)).toInt, (xs (i + 3)).toInt, (xs (i + 4)).toInt]) (rv := [(-2147483648, 2147483647), (-2147483648, 2147483647), (-2147483648, 2147483647)]) X ⟨zp_X12_pair_0 l, zp_X12_pair_1 l, zp_X12_pair_2 l, zp_X12_pair_3 l, zp_X12_pair_4 l, zp_X12_pair_5 l⟩ ⟨(zcv_2 zw_X12_pair zr_X12_pair_0 99 dL_1061 zlL_99 (by decide +kernel) (by decide +kernel)), (zcv_2 zw_X12_pair zr_X12_pair_1 99 dL_1061 zlL_99 (by decide +kernel) (by decide +kernel)), (zcv_2 zw_X12_pair zr_X12_pair_2 99 dL_1061 zlL_99 (by decide +kernel) (by decide +kernel)), (zcv_2 zw_X12_pair zr_X12_pair_3 99 dL_1061 zlL_99 (by decide +kernel) (by decide +kernel)), (zcv_2 zw_X12_pair zr_X12_pair_4 99 dL_1061 zlL_99 (by decide +kernel) (by decide +kernel)), (zcv_2 zw_X12_pair zr_X12_pair_5 99 dL_1061 zlL_99 (by decide +kernel) (by decide +kernel))⟩ ⟨rfl, rfl, rfl, rfl, by decide +kernel, by decide +kernel⟩ ⟨rfl, rfl, rfl, rfl, by decide +kernel, by decide +kernel⟩ ⟨rfl, rfl, rfl, rfl, by decide +kernel, by decide +kernel⟩ ⟨rfl, rfl, rfl, rfl, by decide +kernel, by decide +kernel⟩ ⟨rfl, rfl, rfl, rfl, by decide +kernel, by decide +kernel⟩ ⟨rfl, rfl, rfl, rfl, by decide +kernel, by decide +kernel⟩ (by decide) ⟨z_lo _, z_hi _⟩ (zg_c (z_lo _) (z_hi _) (zg_c (z_lo _) (z_hi _) (zg_c (z_lo _) (z_hi _) zg_n))) hI8 hS8 hcs hl (rest := []) (by decide) (by simp only [List.map_cons, List.map_nil, List.reverse_cons, List.reverse_nil, List.nil_append, List.cons_append, z_ofi]) (fun x9 H9 locs9 hI9 hS9 => ?_)
  refine lv_pop hx hb dL_1064 rfl ?_
  refine lv_goto (tgt := 1550) hx hb dL_1065 (by decide) ?_
  exact K H9 locs9 hI9 hS9
set_option maxHeartbeats 4000000 in
theorem lwc_20 {p : Program} {l : Launch} {e : Env} {s : State} {m : MethodId} {below : List Frame} {meth : Method} {c : Code} {b N : Nat} {xs : Nat → Int32} {Q : State → Prop} {H : Heap} {locs : List Loc} {cells slots : Nat} {ls : Array Slot} {qa qr i : Nat} {D : va_G} {cy : Nat → ClassId} {tb adK adV : Nat → Nat} {fv : Option Nat} (X : lwX l p s m meth c b N xs D cy tb adK adV fv) (hi : i + 6 ≤ N) (hI : lwI lwF s D cy adK qa qr H) (hS : va_S (fun q => s.heap.size ≤ q) s.heap H locs) (hcs : cells ≤ 600000 ∧ slots ≤ 7302250) (hl : lwL ls qa qr i b)
    (K : ∀ (H1 : Heap) (locs1 : List Loc), lwI lwF s D cy adK qa qr H1 → va_S (fun q => s.heap.size ≤ q) s.heap H1 locs1 → W p l e room_1 s m #[Value.ref b] below meth c H1 locs1 (cells) (slots) Q (F0 m 1550 ls [])) : W p l e room_1 s m #[Value.ref b] below meth c H locs cells slots Q (F0 m 1068 ls []) := by
  obtain ⟨hx, hb, -, -, -, -, -, -, -, -⟩ := id X.1
  refine lv_aload_n hx hb dL_1068 rfl (lv_at hl 2 rfl) ?_
  refine lw_arg X.1 X.2.1 hS hl 1 hi (by decide) (by decide +kernel) dL_1069 dL_1070 dL_1071 dL_1072 dL_1073 ?_
  refine lw_arg X.1 X.2.1 hS hl 2 hi (by decide) (by decide +kernel) dL_1074 dL_1075 dL_1076 dL_1077 dL_1078 ?_
  refine lwCp (As := [(xs (i + 1)).toInt, (xs (i + 2)).toInt]) (ivs := [(-2147483648, 2147483647), (-2147483648, 2147483647)]) X (zp_X11_dispute_0 l) (zcv_2 zw_X11_dispute zr_X11_dispute_0 100 dL_1079 zlL_100 (by decide +kernel) (by decide +kernel)) rfl rfl ⟨rfl, rfl⟩ (by decide) (zg_c (z_lo _) (z_hi _) (zg_c (z_lo _) (z_hi _) zg_n)) (by decide +kernel) ⟨by decide +kernel, fun _ => ⟨by decide +kernel, by decide +kernel⟩⟩ hI hS hcs hl (rest := []) (by decide) (by simp only [List.map_cons, List.map_nil, List.reverse_cons, List.reverse_nil, List.nil_append, List.cons_append, z_ofi]) (fun x8 H8 locs8 hI8 hS8 => ?_)
  refine lv_pop hx hb dL_1082 rfl ?_
  refine lv_aload_n hx hb dL_1083 rfl (lv_at hl 1 rfl) ?_
  refine lw_arg X.1 X.2.1 hS8 hl 1 hi (by decide) (by decide +kernel) dL_1084 dL_1085 dL_1086 dL_1087 dL_1088 ?_
  refine lw_arg X.1 X.2.1 hS8 hl 2 hi (by decide) (by decide +kernel) dL_1089 dL_1090 dL_1091 dL_1092 dL_1093 ?_
  refine lwRp (As := [(xs (i + 1)).toInt, (xs (i + 2)).toInt]) (ivs := [(-2147483648, 2147483647), (-2147483648, 2147483647)]) X (zp_X12_dispute_0 l) (zcv_2 zw_X12_dispute zr_X12_dispute_0 103 dL_1094 zlL_103 (by decide +kernel) (by decide +kernel)) rfl rfl ⟨rfl, rfl⟩ (by decide) (zg_c (z_lo _) (z_hi _) (zg_c (z_lo _) (z_hi _) zg_n)) (by decide +kernel) (by decide +kernel) hI8 hS8 hcs hl (rest := []) (by decide) (by simp only [List.map_cons, List.map_nil, List.reverse_cons, List.reverse_nil, List.nil_append, List.cons_append, z_ofi]) (fun x9 H9 locs9 hI9 hS9 => ?_)
  refine lv_pop hx hb dL_1097 rfl ?_
  refine lv_goto (tgt := 1550) hx hb dL_1098 (by decide) ?_
  exact K H9 locs9 hI9 hS9
set_option maxHeartbeats 4000000 in
theorem lwc_21 {p : Program} {l : Launch} {e : Env} {s : State} {m : MethodId} {below : List Frame} {meth : Method} {c : Code} {b N : Nat} {xs : Nat → Int32} {Q : State → Prop} {H : Heap} {locs : List Loc} {cells slots : Nat} {ls : Array Slot} {qa qr i : Nat} {D : va_G} {cy : Nat → ClassId} {tb adK adV : Nat → Nat} {fv : Option Nat} (X : lwX l p s m meth c b N xs D cy tb adK adV fv) (hi : i + 6 ≤ N) (hI : lwI lwF s D cy adK qa qr H) (hS : va_S (fun q => s.heap.size ≤ q) s.heap H locs) (hcs : cells ≤ 600000 ∧ slots ≤ 7302250) (hl : lwL ls qa qr i b)
    (K : ∀ (H1 : Heap) (locs1 : List Loc), lwI lwF s D cy adK qa qr H1 → va_S (fun q => s.heap.size ≤ q) s.heap H1 locs1 → W p l e room_1 s m #[Value.ref b] below meth c H1 locs1 (cells) (slots) Q (F0 m 1550 ls [])) : W p l e room_1 s m #[Value.ref b] below meth c H locs cells slots Q (F0 m 1101 ls []) := by
  obtain ⟨hx, hb, -, -, -, -, -, -, -, -⟩ := id X.1
  refine lv_aload_n hx hb dL_1101 rfl (lv_at hl 2 rfl) ?_
  have cla : ∀ w : Int32, (0 ≤ w.toInt ∧ w.toInt ≤ 1) → W p l e room_1 s m #[Value.ref b] below meth c H locs cells slots Q (F0 m 1125 ls [.int w, .int (xs (i + 2)), .int (xs (i + 1)), .ref qa]) := by
    intro w hw
    refine lwCp (As := [(xs (i + 1)).toInt, (xs (i + 2)).toInt, w.toInt]) (ivs := [(-2147483648, 2147483647), (-2147483648, 2147483647), (0, 1)]) X (zp_X11_hours_0 l) (zcv_2 zw_X11_hours zr_X11_hours_0 104 dL_1125 zlL_104 (by decide +kernel) (by decide +kernel)) rfl rfl ⟨rfl, rfl⟩ (by decide) (zg_c (z_lo _) (z_hi _) (zg_c (z_lo _) (z_hi _) (zg_c hw.1 hw.2 zg_n))) (by decide +kernel) ⟨by decide +kernel, fun _ => ⟨by decide +kernel, by decide +kernel⟩⟩ hI hS hcs hl (rest := []) (by decide) (by simp only [List.map_cons, List.map_nil, List.reverse_cons, List.reverse_nil, List.nil_append, List.cons_append, z_ofi]) (fun x8 H8 locs8 hI8 hS8 => ?_)
    refine lv_pop hx hb dL_1128 rfl ?_
    refine lv_aload_n hx hb dL_1129 rfl (lv_at hl 1 rfl) ?_
    have clr : ∀ w : Int32, (0 ≤ w.toInt ∧ w.toInt ≤ 1) → W p l e room_1 s m #[Value.ref b] below meth c H8 locs8 cells slots Q (F0 m 1153 ls [.int w, .int (xs (i + 2)), .int (xs (i + 1)), .ref qr]) := by
      intro w hw
      refine lwRp (As := [(xs (i + 1)).toInt, (xs (i + 2)).toInt, w.toInt]) (ivs := [(-2147483648, 2147483647), (-2147483648, 2147483647), (0, 1)]) X (zp_X12_hours_0 l) (zcv_2 zw_X12_hours zr_X12_hours_0 107 dL_1153 zlL_107 (by decide +kernel) (by decide +kernel)) rfl rfl ⟨rfl, rfl⟩ (by decide) (zg_c (z_lo _) (z_hi _) (zg_c (z_lo _) (z_hi _) (zg_c hw.1 hw.2 zg_n))) (by decide +kernel) (by decide +kernel) hI8 hS8 hcs hl (rest := []) (by decide) (by simp only [List.map_cons, List.map_nil, List.reverse_cons, List.reverse_nil, List.nil_append, List.cons_append, z_ofi]) (fun x9 H9 locs9 hI9 hS9 => ?_)
      refine lv_pop hx hb dL_1156 rfl ?_
      refine lv_goto (tgt := 1550) hx hb dL_1157 (by decide) ?_
      exact K H9 locs9 hI9 hS9
    refine lw_arg X.1 X.2.1 hS8 hl 1 hi (by decide) (by decide +kernel) dL_1130 dL_1131 dL_1132 dL_1133 dL_1134 ?_
    refine lw_arg X.1 X.2.1 hS8 hl 2 hi (by decide) (by decide +kernel) dL_1135 dL_1136 dL_1137 dL_1138 dL_1139 ?_
    refine lw_arg X.1 X.2.1 hS8 hl 3 hi (by decide) (by decide +kernel) dL_1140 dL_1141 dL_1142 dL_1143 dL_1144 ?_
    refine lv_if_eq (tgt := 1152) hx hb dL_1145 (by decide) (fun _ => ?_) (fun _ => ?_)
    · refine lv_iconst (v := 0) hx hb dL_1152 (by decide +kernel) ?_
      exact clr 0 (by decide)
    · refine lv_iconst (v := 1) hx hb dL_1148 (by decide +kernel) ?_
      refine lv_goto (tgt := 1153) hx hb dL_1149 (by decide) ?_
      exact clr 1 (by decide)
  refine lw_arg X.1 X.2.1 hS hl 1 hi (by decide) (by decide +kernel) dL_1102 dL_1103 dL_1104 dL_1105 dL_1106 ?_
  refine lw_arg X.1 X.2.1 hS hl 2 hi (by decide) (by decide +kernel) dL_1107 dL_1108 dL_1109 dL_1110 dL_1111 ?_
  refine lw_arg X.1 X.2.1 hS hl 3 hi (by decide) (by decide +kernel) dL_1112 dL_1113 dL_1114 dL_1115 dL_1116 ?_
  refine lv_if_eq (tgt := 1124) hx hb dL_1117 (by decide) (fun _ => ?_) (fun _ => ?_)
  · refine lv_iconst (v := 0) hx hb dL_1124 (by decide +kernel) ?_
    exact cla 0 (by decide)
  · refine lv_iconst (v := 1) hx hb dL_1120 (by decide +kernel) ?_
    refine lv_goto (tgt := 1125) hx hb dL_1121 (by decide) ?_
    exact cla 1 (by decide)
set_option maxHeartbeats 4000000 in
theorem lwc_22 {p : Program} {l : Launch} {e : Env} {s : State} {m : MethodId} {below : List Frame} {meth : Method} {c : Code} {b N : Nat} {xs : Nat → Int32} {Q : State → Prop} {H : Heap} {locs : List Loc} {cells slots : Nat} {ls : Array Slot} {qa qr i : Nat} {D : va_G} {cy : Nat → ClassId} {tb adK adV : Nat → Nat} {fv : Option Nat} (X : lwX l p s m meth c b N xs D cy tb adK adV fv) (hi : i + 6 ≤ N) (hI : lwI lwF s D cy adK qa qr H) (hS : va_S (fun q => s.heap.size ≤ q) s.heap H locs) (hcs : cells ≤ 600000 ∧ slots ≤ 7302250) (hl : lwL ls qa qr i b)
    (K : ∀ (H1 : Heap) (locs1 : List Loc), lwI lwF s D cy adK qa qr H1 → va_S (fun q => s.heap.size ≤ q) s.heap H1 locs1 → W p l e room_1 s m #[Value.ref b] below meth c H1 locs1 (cells) (slots) Q (F0 m 1550 ls [])) : W p l e room_1 s m #[Value.ref b] below meth c H locs cells slots Q (F0 m 1160 ls []) := by
  obtain ⟨hx, hb, -, -, -, -, -, -, -, -⟩ := id X.1
  refine lv_aload_n hx hb dL_1160 rfl (lv_at hl 2 rfl) ?_
  refine lw_arg X.1 X.2.1 hS hl 1 hi (by decide) (by decide +kernel) dL_1161 dL_1162 dL_1163 dL_1164 dL_1165 ?_
  refine lw_arg X.1 X.2.1 hS hl 2 hi (by decide) (by decide +kernel) dL_1166 dL_1167 dL_1168 dL_1169 dL_1170 ?_
  refine lw_arg X.1 X.2.1 hS hl 3 hi (by decide) (by decide +kernel) dL_1171 dL_1172 dL_1173 dL_1174 dL_1175 ?_
  refine lw_arg X.1 X.2.1 hS hl 4 hi (by decide) (by decide +kernel) dL_1176 dL_1177 dL_1178 dL_1179 dL_1180 ?_
  refine lw_arg X.1 X.2.1 hS hl 5 hi (by decide) (by decide +kernel) dL_1181 dL_1182 dL_1183 dL_1184 dL_1185 ?_
  refine lwCp (As := [(xs (i + 1)).toInt, (xs (i + 2)).toInt, (xs (i + 3)).toInt, (xs (i + 4)).toInt, (xs (i + 5)).toInt]) (ivs := [(-2147483648, 2147483647), (-2147483648, 2147483647), (-2147483648, 2147483647), (-2147483648, 2147483647), (-2147483648, 2147483647)]) X (zp_X11_gulls_0 l) (zcv_2 zw_X11_gulls zr_X11_gulls_0 108 dL_1186 zlL_108 (by decide +kernel) (by decide +kernel)) rfl rfl ⟨rfl, rfl⟩ (by decide) (zg_c (z_lo _) (z_hi _) (zg_c (z_lo _) (z_hi _) (zg_c (z_lo _) (z_hi _) (zg_c (z_lo _) (z_hi _) (zg_c (z_lo _) (z_hi _) zg_n))))) (by decide +kernel) ⟨by decide +kernel, fun _ => ⟨by decide +kernel, by decide +kernel⟩⟩ hI hS hcs hl (rest := []) (by decide) (by simp only [List.map_cons, List.map_nil, List.reverse_cons, List.reverse_nil, List.nil_append, List.cons_append, z_ofi]) (fun x8 H8 locs8 hI8 hS8 => ?_)
  refine lv_pop hx hb dL_1189 rfl ?_
  refine lv_aload_n hx hb dL_1190 rfl (lv_at hl 1 rfl) ?_
  refine lw_arg X.1 X.2.1 hS8 hl 1 hi (by decide) (by decide +kernel) dL_1191 dL_1192 dL_1193 dL_1194 dL_1195 ?_
  refine lw_arg X.1 X.2.1 hS8 hl 2 hi (by decide) (by decide +kernel) dL_1196 dL_1197 dL_1198 dL_1199 dL_1200 ?_
  refine lw_arg X.1 X.2.1 hS8 hl 3 hi (by decide) (by decide +kernel) dL_1201 dL_1202 dL_1203 dL_1204 dL_1205 ?_
  refine lw_arg X.1 X.2.1 hS8 hl 4 hi (by decide) (by decide +kernel) dL_1206 dL_1207 dL_1208 dL_1209 dL_1210 ?_
  refine lw_arg X.1 X.2.1 hS8 hl 5 hi (by decide) (by decide +kernel) dL_1211 dL_1212 dL_1213 dL_1214 dL_1215 ?_
  refine lwRs (sea := (xs (i + 1)).toInt) (Rs := [(xs (i + 2)).toInt, (xs (i + 3)).toInt, (xs (i + 4)).toInt, (xs (i + 5)).toInt]) (rv := [(-2147483648, 2147483647), (-2147483648, 2147483647), (-2147483648, 2147483647), (-2147483648, 2147483647)]) X ⟨zp_X12_gulls_0 l, zp_X12_gulls_1 l, zp_X12_gulls_2 l, zp_X12_gulls_3 l, zp_X12_gulls_4 l, zp_X12_gulls_5 l⟩ ⟨(zcv_2 zw_X12_gulls zr_X12_gulls_0 111 dL_1216 zlL_111 (by decide +kernel) (by decide +kernel)), (zcv_2 zw_X12_gulls zr_X12_gulls_1 111 dL_1216 zlL_111 (by decide +kernel) (by decide +kernel)), (zcv_2 zw_X12_gulls zr_X12_gulls_2 111 dL_1216 zlL_111 (by decide +kernel) (by decide +kernel)), (zcv_2 zw_X12_gulls zr_X12_gulls_3 111 dL_1216 zlL_111 (by decide +kernel) (by decide +kernel)), (zcv_2 zw_X12_gulls zr_X12_gulls_4 111 dL_1216 zlL_111 (by decide +kernel) (by decide +kernel)), (zcv_2 zw_X12_gulls zr_X12_gulls_5 111 dL_1216 zlL_111 (by decide +kernel) (by decide +kernel))⟩ ⟨rfl, rfl, rfl, rfl, by decide +kernel, by decide +kernel⟩ ⟨rfl, rfl, rfl, rfl, by decide +kernel, by decide +kernel⟩ ⟨rfl, rfl, rfl, rfl, by decide +kernel, by decide +kernel⟩ ⟨rfl, rfl, rfl, rfl, by decide +kernel, by decide +kernel⟩ ⟨rfl, rfl, rfl, rfl, by decide +kernel, by decide +kernel⟩ ⟨rfl, rfl, rfl, rfl, by decide +kernel, by decide +kernel⟩ (by decide) ⟨z_lo _, z_hi _⟩ (zg_c (z_lo _) (z_hi _) (zg_c (z_lo _) (z_hi _) (zg_c (z_lo _) (z_hi _) (zg_c (z_lo _) (z_hi _) zg_n)))) hI8 hS8 hcs hl (rest := []) (by decide) (by simp only [List.map_cons, List.map_nil, List.reverse_cons, List.reverse_nil, List.nil_append, List.cons_append, z_ofi]) (fun x9 H9 locs9 hI9 hS9 => ?_)
  refine lv_pop hx hb dL_1219 rfl ?_
  refine lv_goto (tgt := 1550) hx hb dL_1220 (by decide) ?_
  exact K H9 locs9 hI9 hS9
set_option maxHeartbeats 4000000 in
theorem lwc_23 {p : Program} {l : Launch} {e : Env} {s : State} {m : MethodId} {below : List Frame} {meth : Method} {c : Code} {b N : Nat} {xs : Nat → Int32} {Q : State → Prop} {H : Heap} {locs : List Loc} {cells slots : Nat} {ls : Array Slot} {qa qr i : Nat} {D : va_G} {cy : Nat → ClassId} {tb adK adV : Nat → Nat} {fv : Option Nat} (X : lwX l p s m meth c b N xs D cy tb adK adV fv) (hi : i + 6 ≤ N) (hI : lwI lwF s D cy adK qa qr H) (hS : va_S (fun q => s.heap.size ≤ q) s.heap H locs) (hcs : cells ≤ 600000 ∧ slots ≤ 7302250) (hl : lwL ls qa qr i b)
    (K : ∀ (H1 : Heap) (locs1 : List Loc), lwI lwF s D cy adK qa qr H1 → va_S (fun q => s.heap.size ≤ q) s.heap H1 locs1 → W p l e room_1 s m #[Value.ref b] below meth c H1 locs1 (cells) (slots) Q (F0 m 1550 ls [])) : W p l e room_1 s m #[Value.ref b] below meth c H locs cells slots Q (F0 m 1223 ls []) := by
  obtain ⟨hx, hb, -, -, -, -, -, -, -, -⟩ := id X.1
  refine lv_aload_n hx hb dL_1223 rfl (lv_at hl 2 rfl) ?_
  refine lw_arg X.1 X.2.1 hS hl 1 hi (by decide) (by decide +kernel) dL_1224 dL_1225 dL_1226 dL_1227 dL_1228 ?_
  refine lw_arg X.1 X.2.1 hS hl 2 hi (by decide) (by decide +kernel) dL_1229 dL_1230 dL_1231 dL_1232 dL_1233 ?_
  refine lw_arg X.1 X.2.1 hS hl 3 hi (by decide) (by decide +kernel) dL_1234 dL_1235 dL_1236 dL_1237 dL_1238 ?_
  refine lw_arg X.1 X.2.1 hS hl 4 hi (by decide) (by decide +kernel) dL_1239 dL_1240 dL_1241 dL_1242 dL_1243 ?_
  refine lw_arg X.1 X.2.1 hS hl 5 hi (by decide) (by decide +kernel) dL_1244 dL_1245 dL_1246 dL_1247 dL_1248 ?_
  refine lwCp (As := [(xs (i + 1)).toInt, (xs (i + 2)).toInt, (xs (i + 3)).toInt, (xs (i + 4)).toInt, (xs (i + 5)).toInt]) (ivs := [(-2147483648, 2147483647), (-2147483648, 2147483647), (-2147483648, 2147483647), (-2147483648, 2147483647), (-2147483648, 2147483647)]) X (zp_X11_lack_0 l) (zcv_2 zw_X11_lack zr_X11_lack_0 112 dL_1249 zlL_112 (by decide +kernel) (by decide +kernel)) rfl rfl ⟨rfl, rfl⟩ (by decide) (zg_c (z_lo _) (z_hi _) (zg_c (z_lo _) (z_hi _) (zg_c (z_lo _) (z_hi _) (zg_c (z_lo _) (z_hi _) (zg_c (z_lo _) (z_hi _) zg_n))))) (by decide +kernel) ⟨by decide +kernel, fun _ => ⟨by decide +kernel, by decide +kernel⟩⟩ hI hS hcs hl (rest := []) (by decide) (by simp only [List.map_cons, List.map_nil, List.reverse_cons, List.reverse_nil, List.nil_append, List.cons_append, z_ofi]) (fun x8 H8 locs8 hI8 hS8 => ?_)
  refine lv_pop hx hb dL_1252 rfl ?_
  refine lv_aload_n hx hb dL_1253 rfl (lv_at hl 1 rfl) ?_
  refine lw_arg X.1 X.2.1 hS8 hl 1 hi (by decide) (by decide +kernel) dL_1254 dL_1255 dL_1256 dL_1257 dL_1258 ?_
  refine lw_arg X.1 X.2.1 hS8 hl 2 hi (by decide) (by decide +kernel) dL_1259 dL_1260 dL_1261 dL_1262 dL_1263 ?_
  refine lw_arg X.1 X.2.1 hS8 hl 3 hi (by decide) (by decide +kernel) dL_1264 dL_1265 dL_1266 dL_1267 dL_1268 ?_
  refine lw_arg X.1 X.2.1 hS8 hl 4 hi (by decide) (by decide +kernel) dL_1269 dL_1270 dL_1271 dL_1272 dL_1273 ?_
  refine lw_arg X.1 X.2.1 hS8 hl 5 hi (by decide) (by decide +kernel) dL_1274 dL_1275 dL_1276 dL_1277 dL_1278 ?_
  refine lwRs (sea := (xs (i + 1)).toInt) (Rs := [(xs (i + 2)).toInt, (xs (i + 3)).toInt, (xs (i + 4)).toInt, (xs (i + 5)).toInt]) (rv := [(-2147483648, 2147483647), (-2147483648, 2147483647), (-2147483648, 2147483647), (-2147483648, 2147483647)]) X ⟨zp_X12_lack_0 l, zp_X12_lack_1 l, zp_X12_lack_2 l, zp_X12_lack_3 l, zp_X12_lack_4 l, zp_X12_lack_5 l⟩ ⟨(zcv_2 zw_X12_lack zr_X12_lack_0 115 dL_1279 zlL_115 (by decide +kernel) (by decide +kernel)), (zcv_2 zw_X12_lack zr_X12_lack_1 115 dL_1279 zlL_115 (by decide +kernel) (by decide +kernel)), (zcv_2 zw_X12_lack zr_X12_lack_2 115 dL_1279 zlL_115 (by decide +kernel) (by decide +kernel)), (zcv_2 zw_X12_lack zr_X12_lack_3 115 dL_1279 zlL_115 (by decide +kernel) (by decide +kernel)), (zcv_2 zw_X12_lack zr_X12_lack_4 115 dL_1279 zlL_115 (by decide +kernel) (by decide +kernel)), (zcv_2 zw_X12_lack zr_X12_lack_5 115 dL_1279 zlL_115 (by decide +kernel) (by decide +kernel))⟩ ⟨rfl, rfl, rfl, rfl, by decide +kernel, by decide +kernel⟩ ⟨rfl, rfl, rfl, rfl, by decide +kernel, by decide +kernel⟩ ⟨rfl, rfl, rfl, rfl, by decide +kernel, by decide +kernel⟩ ⟨rfl, rfl, rfl, rfl, by decide +kernel, by decide +kernel⟩ ⟨rfl, rfl, rfl, rfl, by decide +kernel, by decide +kernel⟩ ⟨rfl, rfl, rfl, rfl, by decide +kernel, by decide +kernel⟩ (by decide) ⟨z_lo _, z_hi _⟩ (zg_c (z_lo _) (z_hi _) (zg_c (z_lo _) (z_hi _) (zg_c (z_lo _) (z_hi _) (zg_c (z_lo _) (z_hi _) zg_n)))) hI8 hS8 hcs hl (rest := []) (by decide) (by simp only [List.map_cons, List.map_nil, List.reverse_cons, List.reverse_nil, List.nil_append, List.cons_append, z_ofi]) (fun x9 H9 locs9 hI9 hS9 => ?_)
  refine lv_pop hx hb dL_1282 rfl ?_
  refine lv_goto (tgt := 1550) hx hb dL_1283 (by decide) ?_
  exact K H9 locs9 hI9 hS9
set_option maxHeartbeats 4000000 in
theorem lwc_27 {p : Program} {l : Launch} {e : Env} {s : State} {m : MethodId} {below : List Frame} {meth : Method} {c : Code} {b N : Nat} {xs : Nat → Int32} {Q : State → Prop} {H : Heap} {locs : List Loc} {cells slots : Nat} {ls : Array Slot} {qa qr i : Nat} {D : va_G} {cy : Nat → ClassId} {tb adK adV : Nat → Nat} {fv : Option Nat} (X : lwX l p s m meth c b N xs D cy tb adK adV fv) (hi : i + 6 ≤ N) (hI : lwI lwF s D cy adK qa qr H) (hS : va_S (fun q => s.heap.size ≤ q) s.heap H locs) (hcs : cells ≤ 600000 ∧ slots ≤ 7302250) (hl : lwL ls qa qr i b)
    (K : ∀ (H1 : Heap) (locs1 : List Loc), lwI lwF s D cy adK qa qr H1 → va_S (fun q => s.heap.size ≤ q) s.heap H1 locs1 → W p l e room_1 s m #[Value.ref b] below meth c H1 locs1 (cells) (slots) Q (F0 m 1550 ls [])) : W p l e room_1 s m #[Value.ref b] below meth c H locs cells slots Q (F0 m 1405 ls []) := by
  obtain ⟨hx, hb, -, -, -, -, -, -, -, -⟩ := id X.1
  refine lv_aload_n hx hb dL_1405 rfl (lv_at hl 2 rfl) ?_
  refine lw_arg X.1 X.2.1 hS hl 1 hi (by decide) (by decide +kernel) dL_1406 dL_1407 dL_1408 dL_1409 dL_1410 ?_
  refine lw_arg X.1 X.2.1 hS hl 2 hi (by decide) (by decide +kernel) dL_1411 dL_1412 dL_1413 dL_1414 dL_1415 ?_
  refine lw_arg X.1 X.2.1 hS hl 3 hi (by decide) (by decide +kernel) dL_1416 dL_1417 dL_1418 dL_1419 dL_1420 ?_
  refine lwCp (As := [(xs (i + 1)).toInt, (xs (i + 2)).toInt, (xs (i + 3)).toInt]) (ivs := [(-2147483648, 2147483647), (-2147483648, 2147483647), (-2147483648, 2147483647)]) X (zp_X11_sum_0 l) (zcv_2 zw_X11_sum zr_X11_sum_0 128 dL_1421 zlL_128 (by decide +kernel) (by decide +kernel)) rfl rfl ⟨rfl, rfl⟩ (by decide) (zg_c (z_lo _) (z_hi _) (zg_c (z_lo _) (z_hi _) (zg_c (z_lo _) (z_hi _) zg_n))) (by decide +kernel) ⟨by decide +kernel, fun _ => ⟨by decide +kernel, by decide +kernel⟩⟩ hI hS hcs hl (rest := []) (by decide) (by simp only [List.map_cons, List.map_nil, List.reverse_cons, List.reverse_nil, List.nil_append, List.cons_append, z_ofi]) (fun x8 H8 locs8 hI8 hS8 => ?_)
  refine lv_pop hx hb dL_1424 rfl ?_
  refine lv_aload_n hx hb dL_1425 rfl (lv_at hl 1 rfl) ?_
  refine lw_arg X.1 X.2.1 hS8 hl 1 hi (by decide) (by decide +kernel) dL_1426 dL_1427 dL_1428 dL_1429 dL_1430 ?_
  refine lw_arg X.1 X.2.1 hS8 hl 2 hi (by decide) (by decide +kernel) dL_1431 dL_1432 dL_1433 dL_1434 dL_1435 ?_
  refine lw_arg X.1 X.2.1 hS8 hl 3 hi (by decide) (by decide +kernel) dL_1436 dL_1437 dL_1438 dL_1439 dL_1440 ?_
  refine lwRs (sea := (xs (i + 1)).toInt) (Rs := [(xs (i + 2)).toInt, (xs (i + 3)).toInt]) (rv := [(-2147483648, 2147483647), (-2147483648, 2147483647)]) X ⟨zp_X12_sum_0 l, zp_X12_sum_1 l, zp_X12_sum_2 l, zp_X12_sum_3 l, zp_X12_sum_4 l, zp_X12_sum_5 l⟩ ⟨(zcv_2 zw_X12_sum zr_X12_sum_0 131 dL_1441 zlL_131 (by decide +kernel) (by decide +kernel)), (zcv_2 zw_X12_sum zr_X12_sum_1 131 dL_1441 zlL_131 (by decide +kernel) (by decide +kernel)), (zcv_2 zw_X12_sum zr_X12_sum_2 131 dL_1441 zlL_131 (by decide +kernel) (by decide +kernel)), (zcv_2 zw_X12_sum zr_X12_sum_3 131 dL_1441 zlL_131 (by decide +kernel) (by decide +kernel)), (zcv_2 zw_X12_sum zr_X12_sum_4 131 dL_1441 zlL_131 (by decide +kernel) (by decide +kernel)), (zcv_2 zw_X12_sum zr_X12_sum_5 131 dL_1441 zlL_131 (by decide +kernel) (by decide +kernel))⟩ ⟨rfl, rfl, rfl, rfl, by decide +kernel, by decide +kernel⟩ ⟨rfl, rfl, rfl, rfl, by decide +kernel, by decide +kernel⟩ ⟨rfl, rfl, rfl, rfl, by decide +kernel, by decide +kernel⟩ ⟨rfl, rfl, rfl, rfl, by decide +kernel, by decide +kernel⟩ ⟨rfl, rfl, rfl, rfl, by decide +kernel, by decide +kernel⟩ ⟨rfl, rfl, rfl, rfl, by decide +kernel, by decide +kernel⟩ (by decide) ⟨z_lo _, z_hi _⟩ (zg_c (z_lo _) (z_hi _) (zg_c (z_lo _) (z_hi _) zg_n)) hI8 hS8 hcs hl (rest := []) (by decide) (by simp only [List.map_cons, List.map_nil, List.reverse_cons, List.reverse_nil, List.nil_append, List.cons_append, z_ofi]) (fun x9 H9 locs9 hI9 hS9 => ?_)
  refine lv_pop hx hb dL_1444 rfl ?_
  refine lv_goto (tgt := 1550) hx hb dL_1445 (by decide) ?_
  exact K H9 locs9 hI9 hS9
