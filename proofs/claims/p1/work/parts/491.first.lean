
theorem lw_c2 {p : Program} {e : Env} {s : State} {m : MethodId} {below : List Frame} {meth : Method} {c : Code} (l : Launch) {b : Nat} {xs : Nat → Int32} (C0 : lw_At p s m meth c b 6 xs) {A : Nat → Prop} (hAe : A = fun q : Nat => s.heap.size ≤ q) {D : va_G} {cy : Nat → ClassId} (hKW : KW D cy s) {x0 x1 x2 x3 x4 x5 x6 x7 x8 x9 x10 x11 x12 x13 x14 x15 x16 x17 x18 x19 x20 x21 x22 x23 x24 x25 x26 x27 x28 x29 x30 x31 x32 x33 x34 x35 x36 x37 x38 x39 x40 x41 x42 x43 x44 x45 x46 x47 x48 x49 x50 x51 x52 x53 x54 x55 x56 x57 x58 x59 x60 x61 x62 x63 x64 x65 x66 x67 x68 x69 x70 x71 x72 x73 x74 x75 x76 x77 x78 x79 x80 x81 x82 x83 x84 x85 x86 x87 x88 x89 x90 x91 y0 y1 y2 y3 y4 y5 y6 y7 y8 y9 y10 y11 y12 y13 y14 y15 y16 y17 y18 y19 y20 y21 y22 y23 y24 y25 y26 y27 y28 y29 y30 y31 y32 y33 y34 y35 : Nat} {H : Heap} {locs : List Loc} (hP : va_P D vwCl (WL cy x0 x1 x2 x3 x4 x5 x6 x7 x8 x9 x10 x11 x12 x13 x14 x15 x16 x17 x18 x19 x20 x21 x22 x23 x24 x25 x26 x27 x28 x29 x30 x31 x32 x33 x34 x35 x36 x37 x38 x39 x40 x41 x42 x43 x44 x45 x46 x47 x48 x49 x50 x51 x52 x53 x54 x55 x56 x57 x58 x59 x60 x61 x62 x63 x64 x65 x66 x67 x68 x69 x70 x71 x72 x73 x74 x75 x76 x77 x78 x79 x80 x81 x82 x83 x84 x85 x86 x87 x88 x89 x90 x91 y0 y1 y2 y3 y4 y5 y6 y7 y8 y9 y10 y11 y12 y13 y14 y15 y16 y17 y18 y19 y20 y21 y22 y23 y24 y25 y26 y27 y28 y29 y30 y31 y32 y33 y34 y35) H) (hD : va_D A (WL cy x0 x1 x2 x3 x4 x5 x6 x7 x8 x9 x10 x11 x12 x13 x14 x15 x16 x17 x18 x19 x20 x21 x22 x23 x24 x25 x26 x27 x28 x29 x30 x31 x32 x33 x34 x35 x36 x37 x38 x39 x40 x41 x42 x43 x44 x45 x46 x47 x48 x49 x50 x51 x52 x53 x54 x55 x56 x57 x58 x59 x60 x61 x62 x63 x64 x65 x66 x67 x68 x69 x70 x71 x72 x73 x74 x75 x76 x77 x78 x79 x80 x81 x82 x83 x84 x85 x86 x87 x88 x89 x90 x91 y0 y1 y2 y3 y4 y5 y6 y7 y8 y9 y10 y11 y12 y13 y14 y15 y16 y17 y18 y19 y20 y21 y22 y23 y24 y25 y26 y27 y28 y29 y30 y31 y32 y33 y34 y35)) (hS : va_S A s.heap H locs) (ls : Array Slot) (hl : lv_has ls 4 [(3, .int 0), (2, .ref y0), (1, .ref x0), (0, .ref b)]) : W p l e room_1 s m #[Value.ref b] below meth c H locs 128 11575 (lw_Z below #[Value.ref b] s) (F0 m 262 ls []) := by
  by_cases hbad : nf (xs 1) (xs 2) = -2
  · exact lw_c2_x l C0 hbad hAe hKW hP hD hS ls hl
  · obtain ⟨h1, h2⟩ := nf_split hbad
    rcases inn_012 h1 with q | q | q
    · exact lw_c2_0 l C0 q h2 hAe hKW hP hD hS ls hl
    · exact lw_c2_1 l C0 q h2 hAe hKW hP hD hS ls hl
    · exact lw_c2_2 l C0 q h2 hAe hKW hP hD hS ls hl
theorem lw_c30 {p : Program} {e : Env} {s : State} {m : MethodId} {below : List Frame} {meth : Method} {c : Code} (l : Launch) {b : Nat} {xs : Nat → Int32} (C0 : lw_At p s m meth c b 6 xs) {A : Nat → Prop} (hAe : A = fun q : Nat => s.heap.size ≤ q) {D : va_G} {cy : Nat → ClassId} (hKW : KW D cy s) {x0 x1 x2 x3 x4 x5 x6 x7 x8 x9 x10 x11 x12 x13 x14 x15 x16 x17 x18 x19 x20 x21 x22 x23 x24 x25 x26 x27 x28 x29 x30 x31 x32 x33 x34 x35 x36 x37 x38 x39 x40 x41 x42 x43 x44 x45 x46 x47 x48 x49 x50 x51 x52 x53 x54 x55 x56 x57 x58 x59 x60 x61 x62 x63 x64 x65 x66 x67 x68 x69 x70 x71 x72 x73 x74 x75 x76 x77 x78 x79 x80 x81 x82 x83 x84 x85 x86 x87 x88 x89 x90 x91 y0 y1 y2 y3 y4 y5 y6 y7 y8 y9 y10 y11 y12 y13 y14 y15 y16 y17 y18 y19 y20 y21 y22 y23 y24 y25 y26 y27 y28 y29 y30 y31 y32 y33 y34 y35 : Nat} {H : Heap} {locs : List Loc} (hP : va_P D vwCl (WL cy x0 x1 x2 x3 x4 x5 x6 x7 x8 x9 x10 x11 x12 x13 x14 x15 x16 x17 x18 x19 x20 x21 x22 x23 x24 x25 x26 x27 x28 x29 x30 x31 x32 x33 x34 x35 x36 x37 x38 x39 x40 x41 x42 x43 x44 x45 x46 x47 x48 x49 x50 x51 x52 x53 x54 x55 x56 x57 x58 x59 x60 x61 x62 x63 x64 x65 x66 x67 x68 x69 x70 x71 x72 x73 x74 x75 x76 x77 x78 x79 x80 x81 x82 x83 x84 x85 x86 x87 x88 x89 x90 x91 y0 y1 y2 y3 y4 y5 y6 y7 y8 y9 y10 y11 y12 y13 y14 y15 y16 y17 y18 y19 y20 y21 y22 y23 y24 y25 y26 y27 y28 y29 y30 y31 y32 y33 y34 y35) H) (hD : va_D A (WL cy x0 x1 x2 x3 x4 x5 x6 x7 x8 x9 x10 x11 x12 x13 x14 x15 x16 x17 x18 x19 x20 x21 x22 x23 x24 x25 x26 x27 x28 x29 x30 x31 x32 x33 x34 x35 x36 x37 x38 x39 x40 x41 x42 x43 x44 x45 x46 x47 x48 x49 x50 x51 x52 x53 x54 x55 x56 x57 x58 x59 x60 x61 x62 x63 x64 x65 x66 x67 x68 x69 x70 x71 x72 x73 x74 x75 x76 x77 x78 x79 x80 x81 x82 x83 x84 x85 x86 x87 x88 x89 x90 x91 y0 y1 y2 y3 y4 y5 y6 y7 y8 y9 y10 y11 y12 y13 y14 y15 y16 y17 y18 y19 y20 y21 y22 y23 y24 y25 y26 y27 y28 y29 y30 y31 y32 y33 y34 y35)) (hS : va_S A s.heap H locs) (ls : Array Slot) (hl : lv_has ls 4 [(3, .int 0), (2, .ref y0), (1, .ref x0), (0, .ref b)]) : W p l e room_1 s m #[Value.ref b] below meth c H locs 128 11575 (lw_Z below #[Value.ref b] s) (F0 m 1504 ls []) := by
  by_cases hbad : inn (xs 1) 0 2 = 0
  · exact lw_c30_x l C0 hbad hAe hKW hP hD hS ls hl
  · rcases inn_012 hbad with q | q | q
    · exact lw_c30_0 l C0 q hAe hKW hP hD hS ls hl
    · exact lw_c30_1 l C0 q hAe hKW hP hD hS ls hl
    · exact lw_c30_2 l C0 q hAe hKW hP hD hS ls hl
set_option maxHeartbeats 4000000 in
set_option maxRecDepth 100000 in
theorem lw_first {p : Program} {e : Env} {s : State} {m : MethodId} {below : List Frame} {meth : Method} {c : Code} (l : Launch) {b : Nat} {xs : Nat → Int32} {L : Nat} (hL : L ≤ 6) (C0 : lw_At p s m meth c b L xs) {A : Nat → Prop} (hAe : A = fun q : Nat => s.heap.size ≤ q) {D : va_G} {cy : Nat → ClassId} (hKW : KW D cy s) {x0 x1 x2 x3 x4 x5 x6 x7 x8 x9 x10 x11 x12 x13 x14 x15 x16 x17 x18 x19 x20 x21 x22 x23 x24 x25 x26 x27 x28 x29 x30 x31 x32 x33 x34 x35 x36 x37 x38 x39 x40 x41 x42 x43 x44 x45 x46 x47 x48 x49 x50 x51 x52 x53 x54 x55 x56 x57 x58 x59 x60 x61 x62 x63 x64 x65 x66 x67 x68 x69 x70 x71 x72 x73 x74 x75 x76 x77 x78 x79 x80 x81 x82 x83 x84 x85 x86 x87 x88 x89 x90 x91 y0 y1 y2 y3 y4 y5 y6 y7 y8 y9 y10 y11 y12 y13 y14 y15 y16 y17 y18 y19 y20 y21 y22 y23 y24 y25 y26 y27 y28 y29 y30 y31 y32 y33 y34 y35 : Nat} {H : Heap} {locs : List Loc} (hP : va_P D vwCl (WL cy x0 x1 x2 x3 x4 x5 x6 x7 x8 x9 x10 x11 x12 x13 x14 x15 x16 x17 x18 x19 x20 x21 x22 x23 x24 x25 x26 x27 x28 x29 x30 x31 x32 x33 x34 x35 x36 x37 x38 x39 x40 x41 x42 x43 x44 x45 x46 x47 x48 x49 x50 x51 x52 x53 x54 x55 x56 x57 x58 x59 x60 x61 x62 x63 x64 x65 x66 x67 x68 x69 x70 x71 x72 x73 x74 x75 x76 x77 x78 x79 x80 x81 x82 x83 x84 x85 x86 x87 x88 x89 x90 x91 y0 y1 y2 y3 y4 y5 y6 y7 y8 y9 y10 y11 y12 y13 y14 y15 y16 y17 y18 y19 y20 y21 y22 y23 y24 y25 y26 y27 y28 y29 y30 y31 y32 y33 y34 y35) H) (hD : va_D A (WL cy x0 x1 x2 x3 x4 x5 x6 x7 x8 x9 x10 x11 x12 x13 x14 x15 x16 x17 x18 x19 x20 x21 x22 x23 x24 x25 x26 x27 x28 x29 x30 x31 x32 x33 x34 x35 x36 x37 x38 x39 x40 x41 x42 x43 x44 x45 x46 x47 x48 x49 x50 x51 x52 x53 x54 x55 x56 x57 x58 x59 x60 x61 x62 x63 x64 x65 x66 x67 x68 x69 x70 x71 x72 x73 x74 x75 x76 x77 x78 x79 x80 x81 x82 x83 x84 x85 x86 x87 x88 x89 x90 x91 y0 y1 y2 y3 y4 y5 y6 y7 y8 y9 y10 y11 y12 y13 y14 y15 y16 y17 y18 y19 y20 y21 y22 y23 y24 y25 y26 y27 y28 y29 y30 y31 y32 y33 y34 y35)) (hS : va_S A s.heap H locs) (ls : Array Slot) (hl : lv_has ls 4 [(3, .int 0), (2, .ref y0), (1, .ref x0), (0, .ref b)]) : W p l e room_1 s m #[Value.ref b] below meth c H locs 128 11575 (lw_Z below #[Value.ref b] s) (F0 m 18 ls []) := by
  obtain ⟨hx, hb, hr, hml, hown, hts0, hX, hbl, hlocks, hgv⟩ := id C0
  have hbA : ¬ A b := by rw [hAe]; exact Nat.not_le.mpr hbl
  refine lv_iload_n hx hb dL_law_18 rfl (lv_at hl 0 rfl) ?_
  refine lv_aload_n hx hb dL_law_19 rfl (lv_at hl 3 rfl) ?_
  refine va_slen hx hb hX hbl hbA hS dL_law_20 ?_
  refine lv_bipush (v := 6) hx hb dL_law_21 (by decide +kernel) ?_
  refine lv_isub hx hb dL_law_23 ?_
  by_cases h6 : L = 6
  · subst h6
    refine tp_i 0 (by decide +kernel) ?_
    refine lv_icmp_gt (tgt := 1556) hx hb dL_law_24 (by decide) (fun c_1 => absurd c_1 (by decide +kernel)) (fun _ => ?_)
    refine lv_aload_n hx hb dL_law_27 rfl (lv_at hl 3 rfl) ?_
    refine lv_iload_n hx hb dL_law_28 rfl (lv_at hl 0 rfl) ?_
    refine va_sld hx hb hX hbl hbA hS (vi_c (by decide +kernel)) dL_law_29 ?_
    refine lv_bipush (v := 31) hx hb dL_law_30 (by decide +kernel) ?_
    refine lv_iand hx hb dL_law_32 ?_
    obtain ⟨j, hj, ej⟩ := pk_andE (xs (0 : Int32).toNatClampNeg) (m := 31) 5 (by decide +kernel)
    refine tp_i (nI j) ej ?_
    clear ej
    match j, hj with
    | 0, _ =>
      refine lv_tableIn (off := 143) (tgt := 176) hx hb dL_law_33 (by decide +kernel) (by decide +kernel) (by decide +kernel) (by decide) ?_
      exact lw_c0 l C0 hAe hKW hP hD hS ls hl
    | 1, _ =>
      refine lv_tableIn (off := 206) (tgt := 239) hx hb dL_law_33 (by decide +kernel) (by decide +kernel) (by decide +kernel) (by decide) ?_
      exact lw_c1 l C0 hAe hKW hP hD hS ls hl
    | 2, _ =>
      refine lv_tableIn (off := 229) (tgt := 262) hx hb dL_law_33 (by decide +kernel) (by decide +kernel) (by decide +kernel) (by decide) ?_
      exact lw_c2 l C0 hAe hKW hP hD hS ls hl
    | 3, _ =>
      refine lv_tableIn (off := 262) (tgt := 295) hx hb dL_law_33 (by decide +kernel) (by decide +kernel) (by decide +kernel) (by decide) ?_
      exact lw_c3 l C0 hAe hKW hP hD hS ls hl
    | 4, _ =>
      refine lv_tableIn (off := 285) (tgt := 318) hx hb dL_law_33 (by decide +kernel) (by decide +kernel) (by decide +kernel) (by decide) ?_
      exact lw_c4 l C0 hAe hKW hP hD hS ls hl
    | 5, _ =>
      refine lv_tableIn (off := 318) (tgt := 351) hx hb dL_law_33 (by decide +kernel) (by decide +kernel) (by decide +kernel) (by decide) ?_
      exact lw_c5 l C0 hAe hKW hP hD hS ls hl
    | 6, _ =>
      refine lv_tableIn (off := 361) (tgt := 394) hx hb dL_law_33 (by decide +kernel) (by decide +kernel) (by decide +kernel) (by decide) ?_
      exact lw_c6 l C0 hAe hKW hP hD hS ls hl
    | 7, _ =>
      refine lv_tableIn (off := 404) (tgt := 437) hx hb dL_law_33 (by decide +kernel) (by decide +kernel) (by decide +kernel) (by decide) ?_
      exact lw_c7 l C0 hAe hKW hP hD hS ls hl
    | 8, _ =>
      refine lv_tableIn (off := 447) (tgt := 480) hx hb dL_law_33 (by decide +kernel) (by decide +kernel) (by decide +kernel) (by decide) ?_
      exact lw_c8 l C0 hAe hKW hP hD hS ls hl
    | 9, _ =>
      refine lv_tableIn (off := 490) (tgt := 523) hx hb dL_law_33 (by decide +kernel) (by decide +kernel) (by decide +kernel) (by decide) ?_
      exact lw_c9 l C0 hAe hKW hP hD hS ls hl
    | 10, _ =>
      refine lv_tableIn (off := 513) (tgt := 546) hx hb dL_law_33 (by decide +kernel) (by decide +kernel) (by decide +kernel) (by decide) ?_
      exact lw_c10 l C0 hAe hKW hP hD hS ls hl
    | 11, _ =>
      refine lv_tableIn (off := 556) (tgt := 589) hx hb dL_law_33 (by decide +kernel) (by decide +kernel) (by decide +kernel) (by decide) ?_
      exact lw_c11 l C0 hAe hKW hP hD hS ls hl
    | 12, _ =>
      refine lv_tableIn (off := 589) (tgt := 622) hx hb dL_law_33 (by decide +kernel) (by decide +kernel) (by decide +kernel) (by decide) ?_
      exact lw_c12 l C0 hAe hKW hP hD hS ls hl
    | 13, _ =>
      refine lv_tableIn (off := 652) (tgt := 685) hx hb dL_law_33 (by decide +kernel) (by decide +kernel) (by decide +kernel) (by decide) ?_
      exact lw_c13 l C0 hAe hKW hP hD hS ls hl
    | 14, _ =>
      refine lv_tableIn (off := 715) (tgt := 748) hx hb dL_law_33 (by decide +kernel) (by decide +kernel) (by decide +kernel) (by decide) ?_
      exact lw_c14 l C0 hAe hKW hP hD hS ls hl
    | 15, _ =>
      refine lv_tableIn (off := 784) (tgt := 817) hx hb dL_law_33 (by decide +kernel) (by decide +kernel) (by decide +kernel) (by decide) ?_
      exact lw_c15 l C0 hAe hKW hP hD hS ls hl
    | 16, _ =>
      refine lv_tableIn (off := 837) (tgt := 870) hx hb dL_law_33 (by decide +kernel) (by decide +kernel) (by decide +kernel) (by decide) ?_
      exact lw_c16 l C0 hAe hKW hP hD hS ls hl
    | 17, _ =>
      refine lv_tableIn (off := 870) (tgt := 903) hx hb dL_law_33 (by decide +kernel) (by decide +kernel) (by decide +kernel) (by decide) ?_
      exact lw_c17 l C0 hAe hKW hP hD hS ls hl
    | 18, _ =>
      refine lv_tableIn (off := 923) (tgt := 956) hx hb dL_law_33 (by decide +kernel) (by decide +kernel) (by decide +kernel) (by decide) ?_
      exact lw_c18 l C0 hAe hKW hP hD hS ls hl
    | 19, _ =>
      refine lv_tableIn (off := 982) (tgt := 1015) hx hb dL_law_33 (by decide +kernel) (by decide +kernel) (by decide +kernel) (by decide) ?_
      exact lw_c19 l C0 hAe hKW hP hD hS ls hl
    | 20, _ =>
      refine lv_tableIn (off := 1035) (tgt := 1068) hx hb dL_law_33 (by decide +kernel) (by decide +kernel) (by decide +kernel) (by decide) ?_
      exact lw_c20 l C0 hAe hKW hP hD hS ls hl
    | 21, _ =>
      refine lv_tableIn (off := 1068) (tgt := 1101) hx hb dL_law_33 (by decide +kernel) (by decide +kernel) (by decide +kernel) (by decide) ?_
      exact lw_c21 l C0 hAe hKW hP hD hS ls hl
    | 22, _ =>
      refine lv_tableIn (off := 1127) (tgt := 1160) hx hb dL_law_33 (by decide +kernel) (by decide +kernel) (by decide +kernel) (by decide) ?_
      exact lw_c22 l C0 hAe hKW hP hD hS ls hl
    | 23, _ =>
      refine lv_tableIn (off := 1190) (tgt := 1223) hx hb dL_law_33 (by decide +kernel) (by decide +kernel) (by decide +kernel) (by decide) ?_
      exact lw_c23 l C0 hAe hKW hP hD hS ls hl
    | 24, _ =>
      refine lv_tableIn (off := 1253) (tgt := 1286) hx hb dL_law_33 (by decide +kernel) (by decide +kernel) (by decide +kernel) (by decide) ?_
      exact lw_c24 l C0 hAe hKW hP hD hS ls hl
    | 25, _ =>
      refine lv_tableIn (off := 1296) (tgt := 1329) hx hb dL_law_33 (by decide +kernel) (by decide +kernel) (by decide +kernel) (by decide) ?_
      exact lw_c25 l C0 hAe hKW hP hD hS ls hl
    | 26, _ =>
      refine lv_tableIn (off := 1329) (tgt := 1362) hx hb dL_law_33 (by decide +kernel) (by decide +kernel) (by decide +kernel) (by decide) ?_
      exact lw_c26 l C0 hAe hKW hP hD hS ls hl
    | 27, _ =>
      refine lv_tableIn (off := 1372) (tgt := 1405) hx hb dL_law_33 (by decide +kernel) (by decide +kernel) (by decide +kernel) (by decide) ?_
      exact lw_c27 l C0 hAe hKW hP hD hS ls hl
    | 28, _ =>
      refine lv_tableIn (off := 1415) (tgt := 1448) hx hb dL_law_33 (by decide +kernel) (by decide +kernel) (by decide +kernel) (by decide) ?_
      exact lw_c28 l C0 hAe hKW hP hD hS ls hl
    | 29, _ =>
      refine lv_tableIn (off := 1448) (tgt := 1481) hx hb dL_law_33 (by decide +kernel) (by decide +kernel) (by decide +kernel) (by decide) ?_
      exact lw_c29 l C0 hAe hKW hP hD hS ls hl
    | 30, _ =>
      refine lv_tableIn (off := 1471) (tgt := 1504) hx hb dL_law_33 (by decide +kernel) (by decide +kernel) (by decide +kernel) (by decide) ?_
      exact lw_c30 l C0 hAe hKW hP hD hS ls hl
    | 31, _ =>
      refine lv_tableIn (off := 1494) (tgt := 1527) hx hb dL_law_33 (by decide +kernel) (by decide +kernel) (by decide +kernel) (by decide) ?_
      exact lw_c31 l C0 hAe hKW hP hD hS ls hl
    | j + 32, hj => exact absurd hj (by omega)
  · have hlt : Int32.ofNat L - 6 < 0 := by
      rcases (show L = 0 ∨ L = 1 ∨ L = 2 ∨ L = 3 ∨ L = 4 ∨ L = 5 by omega) with r | r | r | r | r | r <;> rw [r] <;> decide +kernel
    refine lv_icmp_gt (tgt := 1556) hx hb dL_law_24 (by decide) (fun _ => ?_) (fun c_1 => absurd hlt c_1)
    refine lv_iconst (v := 1) hx hb dL_law_1556 (by decide +kernel) ?_
    refine va_forget (fun q hq => by have := hS.2.2 q hq; rw [hAe] at this; exact this) ?_
    refine W.widen (k := 600000) (n := 7302250) (by decide +kernel) (by decide +kernel) ?_
    exact lw_ret hx hb hr hlocks dL_law_1557
