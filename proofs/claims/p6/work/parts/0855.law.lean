variable {η : zRn}
theorem zTpl2 (ws : List Cond) (ps qs : List Nat) (hp : ws.filter (fun w => !k2_isCode w) = ps.filterMap (fun i => lw_tbl[i]?)) (hg : (ws.filter (fun w => !k2_isCode w)).all goodWord = true) (hq : ws.filter k2_isCode = qs.filterMap (fun i => lw_tbl[i]?)) : ∀ w ∈ ws, w ∈ zTW := by
  intro w hw
  by_cases hc : k2_isCode w = true
  · have h1 : w ∈ ws.filter k2_isCode := List.mem_filter.mpr ⟨hw, hc⟩
    rw [hq] at h1
    obtain ⟨i, -, hi⟩ := List.mem_filterMap.mp h1
    refine List.mem_filter.mpr ⟨List.mem_of_getElem? hi, ?_⟩
    cases w <;> first | (simp [k2_isCode] at hc; done) | rfl
  · have h1 : w ∈ ws.filter (fun w => !k2_isCode w) := List.mem_filter.mpr ⟨hw, by simpa using hc⟩
    have h2 := List.all_eq_true.mp hg w h1
    rw [hp] at h1
    obtain ⟨i, -, hi⟩ := List.mem_filterMap.mp h1
    exact List.mem_filter.mpr ⟨List.mem_of_getElem? hi, h2⟩
theorem z_gdin {ws : List Cond} {w0 : Cond} (h : ∀ w ∈ ws, w ∈ zTW) : GoodIn (w0 :: zTW) ws := fun w hw => ⟨List.mem_cons_of_mem _ (h w hw), zTW_good w (h w hw)⟩
theorem W_sz {p : Program} {l : Launch} {e : Env} {R : Room} {s : State} {m : MethodId} {args : Array Value} {below : List Frame} {meth : Method} {c : Code} {H : Heap} {locs : List Loc} {cells slots : Nat} {Q : State → Prop} {g : JFrame} (k : H.size ≤ s.heap.size + cells → W p l e R s m args below meth c H locs cells slots Q g) : W p l e R s m args below meth c H locs cells slots Q g := fun T hT X => k (by rw [← hT]; exact X.heapSize) T hT X
/-! addresses of a list of new cells -/
theorem zAD_inj {A : Nat → Prop} {ws : va_W} (hD : va_D A ws) : zinj ws.length (fun i => (ws.map (·.1)).getD i 0) := by
  intro i j hi hj e
  have gi : ∀ i (hi : i < ws.length), (ws.map (·.1)).getD i 0 = ws[i].1 := fun i hi => by
    rw [List.getD_eq_getElem?_getD, List.getElem?_map, List.getElem?_eq_getElem hi]
    rfl
  simp only [gi i hi, gi j hj] at e
  exact hD.1 i j ws[i] ws[j] (List.getElem?_eq_getElem hi) (List.getElem?_eq_getElem hj) e
theorem zAD_A {A : Nat → Prop} {ws : va_W} (hD : va_D A ws) {i : Nat} (hi : i < ws.length) : A ((ws.map (·.1)).getD i 0) := by
  rw [List.getD_eq_getElem?_getD, List.getElem?_map, List.getElem?_eq_getElem hi]
  exact hD.2 i ws[i] (List.getElem?_eq_getElem hi)
theorem zAD_lt {D : va_G} {cl : List vw_C} {H : Heap} {ws : va_W} (hP : va_P D cl ws H) {i : Nat} (hi : i < ws.length) : (ws.map (·.1)).getD i 0 < H.size := by
  rw [List.getD_eq_getElem?_getD, List.getElem?_map, List.getElem?_eq_getElem hi]
  exact (hP i ws[i] (List.getElem?_eq_getElem hi)).lt
theorem z_vaA1 {q : Nat} {e : va_E} {sz r : Nat} (h : va_A [(q, e)] sz r) : r = q ∨ sz ≤ r := by
  rcases h with ⟨k, e2, h⟩ | h
  · cases k with
    | zero =>
      simp at h
      exact Or.inl h.1.symm
    | succ k => simp at h
  · exact Or.inr h
/-! which cells have no name yet -/
/-- the names of Strings stay -/
def zTns (T : zTm) : Bool := T.all (fun q => decide (q.1 < 59) || decide (61 < q.1))
theorem zNm_app {T : zTm} {cd : Nat → Nat} {Θ : Nat → Option Nat} (hN : zNm Θ) (hT : zTns T = true) (hj : zinj T.length cd) (hlt : ∀ i, i < T.length → cd i < 1000000) : zNm (zTh T cd Θ) := by
  refine ⟨fun i hi => ?_, fun a n h1 h2 ha => ?_⟩
  · rw [zTh_ne (fun k hk e => by have := hlt k hk; omega)]
    exact hN.1 i hi
  · by_cases hex : ∃ i, i < T.length ∧ cd i = a
    · obtain ⟨i, hi, rfl⟩ := hex
      rw [zTh_at hj hi] at ha
      have e := Option.some.inj ha
      have := List.all_eq_true.mp hT _ (List.mem_of_getElem? (z_gdT2 hi))
      simp only [Bool.or_eq_true, decide_eq_true_eq] at this
      unfold zKs at e
      omega
    · rw [zTh_ne (fun i hi e => hex ⟨i, hi, e⟩)] at ha
      exact hN.2 a n h1 h2 ha
/-! images one by one -/
section LRI
variable {D : va_G} {cy : Nat → ClassId} {L : List Nat} {Θ : Nat → Option Nat} {h h' : Nat → Nat → Int} {H : Heap} {a : Nat}
end LRI
theorem zTi_ns : zTns zTi0 = true ∧ zTns zTi1 = true ∧ zTns zTi2 = true ∧ zTns zTc = true := by decide +kernel
set_option maxRecDepth 100000 in
theorem zin_X9_init : ∀ w ∈ wsX9_init, w ∈ zTW := zTpl2 _ [135, 128, 136, 137, 103, 309, 250, 311, 153, 155, 104, 313, 251, 253, 105, 314, 273, 275, 106, 315, 318, 139, 141, 152, 142, 157, 159, 178, 186, 190, 194, 203, 208, 212, 255, 257, 262, 265, 277, 279, 284, 286, 292, 294, 147, 149, 320, 322, 324, 326, 328, 330, 332, 219, 221, 223, 225, 227, 229, 231, 233, 235, 237, 239, 241, 243, 245, 247, 266, 268, 270, 296, 298, 300, 302, 304, 306] [134, 129, 140, 158, 256, 278] (by decide +kernel) (by decide +kernel) rfl
set_option maxRecDepth 100000 in
theorem zin_X11_init : ∀ w ∈ wsX11_init, w ∈ zTW := zTpl2 _ [127, 128, 130, 131, 102, 574, 575, 336, 337, 107, 576, 384, 385, 108, 577, 492, 493, 110, 578, 516, 517, 111, 579, 547, 548, 112, 580, 133, 135, 136, 137, 103, 309, 250, 311, 153, 155, 104, 313, 251, 253, 105, 314, 273, 275, 106, 315, 318, 139, 141, 152, 142, 157, 159, 178, 186, 190, 194, 203, 208, 212, 255, 257, 262, 265, 277, 279, 284, 286, 292, 294, 339, 341, 342, 348, 344, 350, 346, 352, 358, 359, 387, 389, 390, 391, 109, 434, 436, 438, 440, 458, 393, 395, 396, 399, 402, 404, 407, 409, 495, 497, 498, 506, 519, 521, 528, 529, 530, 550, 552, 553, 555, 557, 558, 559, 560, 320, 322, 324, 326, 328, 330, 332, 581, 583, 585, 587, 589, 591, 593, 363, 365, 367, 369, 371, 373, 375, 377, 379, 381, 459, 461, 463, 465, 467, 469, 471, 473, 475, 477, 479, 481, 483, 485, 487, 489, 507, 509, 511, 513, 532, 534, 536, 538, 540, 542, 544, 561, 563, 565, 567, 569, 571, 147, 149, 219, 221, 223, 225, 227, 229, 231, 233, 235, 237, 239, 241, 243, 245, 247, 266, 268, 270, 296, 298, 300, 302, 304, 306, 413, 415, 417, 419, 421, 423, 425, 427] [126, 129, 134, 140, 158, 256, 278, 340, 388, 394, 496, 520, 551] (by decide +kernel) (by decide +kernel) rfl
set_option maxRecDepth 100000 in
theorem zin_X12_init : ∀ w ∈ wsX12_init, w ∈ zTW := zTpl2 _ [1298, 128, 152, 1300, 250, 1301, 1302, 1303, 1304, 1305, 1306, 1307, 1317, 1318, 1329, 1330, 1331, 1335, 1336, 1337, 1338, 1339, 1340, 1341, 1342, 1343, 1344, 1345, 1346, 1347, 1492, 1351, 1352, 1353, 1357, 1358, 1359, 1360, 1361, 1362, 1363, 1365, 1367, 1369, 1371, 1373, 1375, 1377, 1379, 1381, 1383, 1385, 1387, 1389, 1391, 1393, 1395, 1397, 1399, 1401, 1403, 1405, 1407, 1409, 1411, 1413, 1415, 1417, 1419, 1421, 1423, 1425, 1427, 1429, 1431, 1433, 1435, 1437, 1439, 1441, 1443, 1445, 1447, 1449, 1451, 1453, 1455, 1457, 1459, 1461, 1463, 1465, 1467, 1469, 1471, 1473, 1475, 1477, 1479, 1481, 1483, 1485, 1487, 1489] [1297, 129] (by decide +kernel) (by decide +kernel) rfl
