theorem dL_law_176 : decode cL_law 176 = .ok (.aload_n 1, 1) := by decide +kernel
theorem dL_law_177 : decode cL_law 177 = .ok (.aload_n 0, 1) := by decide +kernel
theorem dL_law_178 : decode cL_law 178 = .ok (.iload_n 3, 1) := by decide +kernel
theorem dL_law_179 : decode cL_law 179 = .ok (.iconst 1, 1) := by decide +kernel
theorem dL_law_180 : decode cL_law 180 = .ok (.iadd, 1) := by decide +kernel
theorem dL_law_181 : decode cL_law 181 = .ok (.iaload, 1) := by decide +kernel
theorem dL_law_182 : decode cL_law 182 = .ok (.aload_n 0, 1) := by decide +kernel
theorem dL_law_183 : decode cL_law 183 = .ok (.iload_n 3, 1) := by decide +kernel
theorem dL_law_184 : decode cL_law 184 = .ok (.iconst 2, 1) := by decide +kernel
theorem dL_law_185 : decode cL_law 185 = .ok (.iadd, 1) := by decide +kernel
theorem dL_law_186 : decode cL_law 186 = .ok (.iaload, 1) := by decide +kernel
theorem dL_law_187 : decode cL_law 187 = .ok (.aload_n 0, 1) := by decide +kernel
theorem dL_law_188 : decode cL_law 188 = .ok (.iload_n 3, 1) := by decide +kernel
theorem dL_law_189 : decode cL_law 189 = .ok (.iconst 3, 1) := by decide +kernel
theorem dL_law_190 : decode cL_law 190 = .ok (.iadd, 1) := by decide +kernel
theorem dL_law_191 : decode cL_law 191 = .ok (.iaload, 1) := by decide +kernel
theorem dL_law_192 : decode cL_law 192 = .ok (.aload_n 0, 1) := by decide +kernel
theorem dL_law_193 : decode cL_law 193 = .ok (.iload_n 3, 1) := by decide +kernel
theorem dL_law_194 : decode cL_law 194 = .ok (.iconst 4, 1) := by decide +kernel
theorem dL_law_195 : decode cL_law 195 = .ok (.iadd, 1) := by decide +kernel
theorem dL_law_196 : decode cL_law 196 = .ok (.iaload, 1) := by decide +kernel
theorem dL_law_197 : decode cL_law 197 = .ok (.aload_n 0, 1) := by decide +kernel
theorem dL_law_198 : decode cL_law 198 = .ok (.iload_n 3, 1) := by decide +kernel
theorem dL_law_199 : decode cL_law 199 = .ok (.iconst 5, 1) := by decide +kernel
theorem dL_law_200 : decode cL_law 200 = .ok (.iadd, 1) := by decide +kernel
theorem dL_law_201 : decode cL_law 201 = .ok (.iaload, 1) := by decide +kernel
theorem dL_law_202 : decode cL_law 202 = .ok (.invokevirtual 13, 3) := by decide +kernel
set_option maxRecDepth 100000 in
theorem ggL_law_X11_feed : GoodIn wsL_law wsX11_feed := goodIn_h _ [15, 181, 182, 183, 184, 185, 42, 187, 63, 1473, 1474, 1475, 1476, 1477, 1478, 1479, 1544, 1545, 1546, 1547, 1548, 1549, 1550, 1594, 1595] [180, 186] (by decide +kernel) (by decide +kernel) rfl
set_option maxRecDepth 20000 in
theorem gL_law_X11_feed : GoodIn wsL_law (wsV RL 13 RX11 yX11_feed wsX11_feed) := goodIn_app (goodIn_of _ (by decide +kernel)) ggL_law_X11_feed
theorem dL_law_205 : decode cL_law 205 = .ok (.aload_n 2, 1) := by decide +kernel
theorem dL_law_206 : decode cL_law 206 = .ok (.aload_n 0, 1) := by decide +kernel
theorem dL_law_207 : decode cL_law 207 = .ok (.iload_n 3, 1) := by decide +kernel
theorem dL_law_208 : decode cL_law 208 = .ok (.iconst 1, 1) := by decide +kernel
theorem dL_law_209 : decode cL_law 209 = .ok (.iadd, 1) := by decide +kernel
theorem dL_law_210 : decode cL_law 210 = .ok (.iaload, 1) := by decide +kernel
theorem dL_law_211 : decode cL_law 211 = .ok (.aload_n 0, 1) := by decide +kernel
theorem dL_law_212 : decode cL_law 212 = .ok (.iload_n 3, 1) := by decide +kernel
theorem dL_law_213 : decode cL_law 213 = .ok (.iconst 2, 1) := by decide +kernel
theorem dL_law_214 : decode cL_law 214 = .ok (.iadd, 1) := by decide +kernel
theorem dL_law_215 : decode cL_law 215 = .ok (.iaload, 1) := by decide +kernel
theorem dL_law_216 : decode cL_law 216 = .ok (.aload_n 0, 1) := by decide +kernel
theorem dL_law_217 : decode cL_law 217 = .ok (.iload_n 3, 1) := by decide +kernel
theorem dL_law_218 : decode cL_law 218 = .ok (.iconst 3, 1) := by decide +kernel
theorem dL_law_219 : decode cL_law 219 = .ok (.iadd, 1) := by decide +kernel
theorem dL_law_220 : decode cL_law 220 = .ok (.iaload, 1) := by decide +kernel
theorem dL_law_221 : decode cL_law 221 = .ok (.aload_n 0, 1) := by decide +kernel
theorem dL_law_222 : decode cL_law 222 = .ok (.iload_n 3, 1) := by decide +kernel
theorem dL_law_223 : decode cL_law 223 = .ok (.iconst 4, 1) := by decide +kernel
theorem dL_law_224 : decode cL_law 224 = .ok (.iadd, 1) := by decide +kernel
theorem dL_law_225 : decode cL_law 225 = .ok (.iaload, 1) := by decide +kernel
theorem dL_law_226 : decode cL_law 226 = .ok (.aload_n 0, 1) := by decide +kernel
theorem dL_law_227 : decode cL_law 227 = .ok (.iload_n 3, 1) := by decide +kernel
theorem dL_law_228 : decode cL_law 228 = .ok (.iconst 5, 1) := by decide +kernel
theorem dL_law_229 : decode cL_law 229 = .ok (.iadd, 1) := by decide +kernel
theorem dL_law_230 : decode cL_law 230 = .ok (.iaload, 1) := by decide +kernel
theorem dL_law_231 : decode cL_law 231 = .ok (.invokevirtual 17, 3) := by decide +kernel
set_option maxRecDepth 100000 in
theorem ggL_law_X12_feed : GoodIn wsL_law wsX12_feed := goodIn_h _ [192, 142, 193, 194, 195, 5, 141, 1480, 1481, 1482, 1483, 1484, 1485, 1486, 1487, 1488, 1489, 1490, 1491, 1492, 1493, 1494, 1495, 1496, 1497, 1498, 1499, 1500, 1501, 1502, 1503, 1504, 1505, 1506, 1507, 1508, 1509, 1510, 1511, 1512, 1513, 1514, 1515, 1516, 1517, 1518, 1519, 1520, 1521, 1522, 1523, 1524, 1525, 1526, 1527, 1528, 1529, 1530, 1531, 1532, 1533, 1534, 1535, 1536, 1537, 1538, 1539, 1540, 1541, 1542, 1543] [191, 196] (by decide +kernel) (by decide +kernel) rfl
set_option maxRecDepth 20000 in
theorem gL_law_X12_feed : GoodIn wsL_law (wsV RL 17 RX12 yX12_feed wsX12_feed) := goodIn_app (goodIn_of _ (by decide +kernel)) ggL_law_X12_feed
theorem dL_law_234 : decode cL_law 234 = .ok (.if_icmp .eq 1316, 3) := by decide +kernel
theorem dL_law_239 : decode cL_law 239 = .ok (.aload_n 1, 1) := by decide +kernel
theorem dL_law_240 : decode cL_law 240 = .ok (.aload_n 0, 1) := by decide +kernel
theorem dL_law_241 : decode cL_law 241 = .ok (.iload_n 3, 1) := by decide +kernel
theorem dL_law_242 : decode cL_law 242 = .ok (.iconst 1, 1) := by decide +kernel
theorem dL_law_243 : decode cL_law 243 = .ok (.iadd, 1) := by decide +kernel
theorem dL_law_244 : decode cL_law 244 = .ok (.iaload, 1) := by decide +kernel
theorem dL_law_245 : decode cL_law 245 = .ok (.invokevirtual 18, 3) := by decide +kernel
set_option maxRecDepth 100000 in
theorem ggL_law_X11_end : GoodIn wsL_law wsX11_end := goodIn_h _ [15, 181, 182, 1473, 1474, 1475, 1476, 1477, 1478, 1479, 1544, 1545, 1546, 1547, 1548, 1549, 1550, 1594, 1595] [200] (by decide +kernel) (by decide +kernel) rfl
set_option maxRecDepth 20000 in
theorem gL_law_X11_end : GoodIn wsL_law (wsV RL 18 RX11 yX11_end wsX11_end) := goodIn_app (goodIn_of _ (by decide +kernel)) ggL_law_X11_end
theorem dL_law_248 : decode cL_law 248 = .ok (.aload_n 2, 1) := by decide +kernel
theorem dL_law_249 : decode cL_law 249 = .ok (.aload_n 0, 1) := by decide +kernel
theorem dL_law_250 : decode cL_law 250 = .ok (.iload_n 3, 1) := by decide +kernel
theorem dL_law_251 : decode cL_law 251 = .ok (.iconst 1, 1) := by decide +kernel
theorem dL_law_252 : decode cL_law 252 = .ok (.iadd, 1) := by decide +kernel
theorem dL_law_253 : decode cL_law 253 = .ok (.iaload, 1) := by decide +kernel
theorem dL_law_254 : decode cL_law 254 = .ok (.invokevirtual 22, 3) := by decide +kernel
set_option maxRecDepth 100000 in
theorem ggL_law_X12_end : GoodIn wsL_law wsX12_end := goodIn_h _ [192, 142, 205, 206, 5, 1480, 1481, 1482, 1483, 1484, 1485, 1486, 1487, 1488, 1489, 1490, 1491, 1492, 1493, 1494, 1495, 1496, 1497, 1498, 1499, 1500, 1501, 1502, 1503, 1504, 1505, 1506, 1507, 1508, 1509, 1510, 1511, 1512, 1513, 1514, 1515, 1516, 1517, 1518, 1519, 1520, 1521, 1522, 1523, 1524, 1525, 1526, 1527, 1528, 1529, 1530, 1531, 1532, 1533, 1534, 1535, 1536, 1537, 1538, 1539, 1540, 1541, 1542, 1543] [204, 207] (by decide +kernel) (by decide +kernel) rfl
set_option maxRecDepth 20000 in
theorem gL_law_X12_end : GoodIn wsL_law (wsV RL 22 RX12 yX12_end wsX12_end) := goodIn_app (goodIn_of _ (by decide +kernel)) ggL_law_X12_end
theorem dL_law_257 : decode cL_law 257 = .ok (.if_icmp .eq 1293, 3) := by decide +kernel
set_option maxHeartbeats 4000000 in
set_option maxRecDepth 100000 in
theorem lw_c0 {p : Program} {e : Env} {s : State} {m : MethodId} {below : List Frame} {meth : Method} {c : Code} (l : Launch) {b : Nat} {xs : Nat → Int32} (C0 : lw_At p s m meth c b 6 xs)  {A : Nat → Prop} (hAe : A = fun q : Nat => s.heap.size ≤ q) {D : va_G} {cy : Nat → ClassId} (hKW : KW D cy s) {x0 x1 x2 x3 x4 x5 x6 x7 x8 x9 x10 x11 x12 x13 x14 x15 x16 x17 x18 x19 x20 x21 x22 x23 x24 x25 x26 x27 x28 x29 x30 x31 x32 x33 x34 x35 x36 x37 x38 x39 x40 x41 x42 x43 x44 x45 x46 x47 x48 x49 x50 x51 x52 x53 x54 x55 x56 x57 x58 x59 x60 x61 x62 x63 x64 x65 x66 x67 x68 x69 x70 x71 x72 x73 x74 x75 x76 x77 x78 x79 x80 x81 x82 x83 x84 x85 x86 x87 x88 x89 x90 x91 y0 y1 y2 y3 y4 y5 y6 y7 y8 y9 y10 y11 y12 y13 y14 y15 y16 y17 y18 y19 y20 y21 y22 y23 y24 y25 y26 y27 y28 y29 y30 y31 y32 y33 y34 y35 : Nat} {H : Heap} {locs : List Loc} (hP : va_P D vwCl (WL cy x0 x1 x2 x3 x4 x5 x6 x7 x8 x9 x10 x11 x12 x13 x14 x15 x16 x17 x18 x19 x20 x21 x22 x23 x24 x25 x26 x27 x28 x29 x30 x31 x32 x33 x34 x35 x36 x37 x38 x39 x40 x41 x42 x43 x44 x45 x46 x47 x48 x49 x50 x51 x52 x53 x54 x55 x56 x57 x58 x59 x60 x61 x62 x63 x64 x65 x66 x67 x68 x69 x70 x71 x72 x73 x74 x75 x76 x77 x78 x79 x80 x81 x82 x83 x84 x85 x86 x87 x88 x89 x90 x91 y0 y1 y2 y3 y4 y5 y6 y7 y8 y9 y10 y11 y12 y13 y14 y15 y16 y17 y18 y19 y20 y21 y22 y23 y24 y25 y26 y27 y28 y29 y30 y31 y32 y33 y34 y35) H) (hD : va_D A (WL cy x0 x1 x2 x3 x4 x5 x6 x7 x8 x9 x10 x11 x12 x13 x14 x15 x16 x17 x18 x19 x20 x21 x22 x23 x24 x25 x26 x27 x28 x29 x30 x31 x32 x33 x34 x35 x36 x37 x38 x39 x40 x41 x42 x43 x44 x45 x46 x47 x48 x49 x50 x51 x52 x53 x54 x55 x56 x57 x58 x59 x60 x61 x62 x63 x64 x65 x66 x67 x68 x69 x70 x71 x72 x73 x74 x75 x76 x77 x78 x79 x80 x81 x82 x83 x84 x85 x86 x87 x88 x89 x90 x91 y0 y1 y2 y3 y4 y5 y6 y7 y8 y9 y10 y11 y12 y13 y14 y15 y16 y17 y18 y19 y20 y21 y22 y23 y24 y25 y26 y27 y28 y29 y30 y31 y32 y33 y34 y35)) (hS : va_S A s.heap H locs) (ls : Array Slot) (hl : lv_has ls 4 [(3, .int 0), (2, .ref y0), (1, .ref x0), (0, .ref b)]) : W p l e room_1 s m #[Value.ref b] below meth c H locs 128 11575 (lw_Z below #[Value.ref b] s) (F0 m 176 ls []) := by
  obtain ⟨hx, hb, hr, hml, hown, hts0, hX, hbl, hlocks, hgv⟩ := id C0
  have hts : ∀ w ∈ wsL_law, w.before #[Value.ref b] s = true := fun w h => hts0 w (wsL_law_in w h)
  have hown : s.vm.findClass RL = some m.cls := hown
  have hK := hKW.1
  have hA : ∀ q : Nat, s.heap.size ≤ q → A q := fun _ h => by rw [hAe]; exact h
  have hbA : ¬ A b := by rw [hAe]; exact Nat.not_le.mpr hbl
  have hP := hP.sub (ws' := [(x0, .inr (11, [.ref x1, .ref x2, .ref x3, .ref x4, .ref x5, .ref x6, .ref x7])), (x1, .inr (9, [.ref x8, .ref x9, .ref x10, .ref x11, .ref x12, .int 0, .int (-1)])), (x8, .inr (8, [.ref x13, .int 0])), (x13, .inl (cy 1, 600, .inl (fun _ => 0))), (y0, .inr (12, [.int 0, .ref y1, .ref y2, .ref y3, .ref y4, .ref y5, .ref y6, .ref y7, .ref y8, .int 0, .int 0, .int 0, .int 0, .int 0, .long 0, .int 0, .int 0, .int 0, .ref y9, .ref y10, .int 0, .int 0, .int 0, .int 0, .int 0, .int 0, .int 0, .int 0, .int 0, .int 0, .ref y11, .ref y12, .ref y13, .int 0, .int 0, .int 0, .ref y14, .ref y15, .ref y16, .ref y17, .ref y18, .ref y19, .ref y20, .ref y21, .ref y22, .ref y23, .ref y24, .ref y25, .ref y26, .int 0, .int 0, .int 0, .ref y27, .ref y28, .ref y29, .int 0, .int 0, .int 0, .ref y30, .ref y31, .ref y32, .ref y33, .ref y34, .ref y35])), (y1, .inl (cy 1, 2400, .inl (fun _ => 0))), (y2, .inl (cy 0, 4, .inl (fun _ => 0)))]) [0, 1, 2, 3, 92, 93, 94] rfl
  have hD := hD.sub (ws' := [(x0, .inr (11, [.ref x1, .ref x2, .ref x3, .ref x4, .ref x5, .ref x6, .ref x7])), (x1, .inr (9, [.ref x8, .ref x9, .ref x10, .ref x11, .ref x12, .int 0, .int (-1)])), (x8, .inr (8, [.ref x13, .int 0])), (x13, .inl (cy 1, 600, .inl (fun _ => 0))), (y0, .inr (12, [.int 0, .ref y1, .ref y2, .ref y3, .ref y4, .ref y5, .ref y6, .ref y7, .ref y8, .int 0, .int 0, .int 0, .int 0, .int 0, .long 0, .int 0, .int 0, .int 0, .ref y9, .ref y10, .int 0, .int 0, .int 0, .int 0, .int 0, .int 0, .int 0, .int 0, .int 0, .int 0, .ref y11, .ref y12, .ref y13, .int 0, .int 0, .int 0, .ref y14, .ref y15, .ref y16, .ref y17, .ref y18, .ref y19, .ref y20, .ref y21, .ref y22, .ref y23, .ref y24, .ref y25, .ref y26, .int 0, .int 0, .int 0, .ref y27, .ref y28, .ref y29, .int 0, .int 0, .int 0, .ref y30, .ref y31, .ref y32, .ref y33, .ref y34, .ref y35])), (y1, .inl (cy 1, 2400, .inl (fun _ => 0))), (y2, .inl (cy 0, 4, .inl (fun _ => 0)))]) [0, 1, 2, 3, 92, 93, 94] (by decide) rfl
  refine lv_aload_n hx hb dL_law_176 rfl (lv_at hl 2 rfl) ?_
  refine lv_aload_n hx hb dL_law_177 rfl (lv_at hl 3 rfl) ?_
  refine lv_iload_n hx hb dL_law_178 rfl (lv_at hl 0 rfl) ?_
  refine lv_iconst (v := 1) hx hb dL_law_179 (by decide +kernel) ?_
  refine lv_iadd hx hb dL_law_180 ?_
  refine tp_i 1 (by decide +kernel) ?_
  refine va_sld hx hb hX hbl hbA hS (vi_c (by decide +kernel)) dL_law_181 ?_
  refine tp_i (xs 1) rfl ?_
  refine lv_aload_n hx hb dL_law_182 rfl (lv_at hl 3 rfl) ?_
  refine lv_iload_n hx hb dL_law_183 rfl (lv_at hl 0 rfl) ?_
  refine lv_iconst (v := 2) hx hb dL_law_184 (by decide +kernel) ?_
  refine lv_iadd hx hb dL_law_185 ?_
  refine tp_i 2 (by decide +kernel) ?_
  refine va_sld hx hb hX hbl hbA hS (vi_c (by decide +kernel)) dL_law_186 ?_
  refine tp_i (xs 2) rfl ?_
  refine lv_aload_n hx hb dL_law_187 rfl (lv_at hl 3 rfl) ?_
  refine lv_iload_n hx hb dL_law_188 rfl (lv_at hl 0 rfl) ?_
  refine lv_iconst (v := 3) hx hb dL_law_189 (by decide +kernel) ?_
  refine lv_iadd hx hb dL_law_190 ?_
  refine tp_i 3 (by decide +kernel) ?_
  refine va_sld hx hb hX hbl hbA hS (vi_c (by decide +kernel)) dL_law_191 ?_
  refine tp_i (xs 3) rfl ?_
  refine lv_aload_n hx hb dL_law_192 rfl (lv_at hl 3 rfl) ?_
  refine lv_iload_n hx hb dL_law_193 rfl (lv_at hl 0 rfl) ?_
  refine lv_iconst (v := 4) hx hb dL_law_194 (by decide +kernel) ?_
  refine lv_iadd hx hb dL_law_195 ?_
  refine tp_i 4 (by decide +kernel) ?_
  refine va_sld hx hb hX hbl hbA hS (vi_c (by decide +kernel)) dL_law_196 ?_
  refine tp_i (xs 4) rfl ?_
  refine lv_aload_n hx hb dL_law_197 rfl (lv_at hl 3 rfl) ?_
  refine lv_iload_n hx hb dL_law_198 rfl (lv_at hl 0 rfl) ?_
  refine lv_iconst (v := 5) hx hb dL_law_199 (by decide +kernel) ?_
  refine lv_iadd hx hb dL_law_200 ?_
  refine tp_i 5 (by decide +kernel) ?_
  refine va_sld hx hb hX hbl hbA hS (vi_c (by decide +kernel)) dL_law_201 ?_
  refine tp_i (xs 5) rfl ?_
  have hPc_1 := hP.sub (ws' := [(x0, .inr (11, [.ref x1, .ref x2, .ref x3, .ref x4, .ref x5, .ref x6, .ref x7])), (x1, .inr (9, [.ref x8, .ref x9, .ref x10, .ref x11, .ref x12, .int 0, .int (-1)])), (x8, .inr (8, [.ref x13, .int 0])), (x13, .inl (cy 1, 600, .inl (fun _ => 0)))]) [0, 1, 2, 3] rfl
  have hDc_2 := hD.sub (ws' := [(x0, .inr (11, [.ref x1, .ref x2, .ref x3, .ref x4, .ref x5, .ref x6, .ref x7])), (x1, .inr (9, [.ref x8, .ref x9, .ref x10, .ref x11, .ref x12, .int 0, .int (-1)])), (x8, .inr (8, [.ref x13, .int 0])), (x13, .inl (cy 1, 600, .inl (fun _ => 0)))]) [0, 1, 2, 3] (by decide) rfl
  have hFc_3 := va_free (wc := [(x0, .inr (11, [.ref x1, .ref x2, .ref x3, .ref x4, .ref x5, .ref x6, .ref x7])), (x1, .inr (9, [.ref x8, .ref x9, .ref x10, .ref x11, .ref x12, .int 0, .int (-1)])), (x8, .inr (8, [.ref x13, .int 0])), (x13, .inl (cy 1, 600, .inl (fun _ => 0)))]) hD hS hA [0, 1, 2, 3] rfl
  refine va_calli (va_runV (As := [.int (xs 1), .int (xs 2), .int (xs 3), .int (xs 4), .int (xs 5)]) (rest := []) ⟨hx, hb, hml, hown, hts⟩ (c_X11_feed l D cy x0 x2 x3 x4 x5 x6 x7 x1 x8 x9 x10 x11 x12 x13 (fun _ => 0) (xs 1) (xs 2) (xs 3) (xs 4) (xs 5) H.size) (cwV 5 hts gL_law_X11_feed rfl rfl rfl (by decide +kernel) ⟨Nat.le_of_ble_eq_true rfl, Nat.le_of_ble_eq_true rfl⟩) ⟨pwB, va_recv hK hPc_1 (ci := 11) (q0 := 0) rfl rfl, fun U hU hW => ⟨rfl, PW.of hU hW hKW hPc_1 hDc_2⟩⟩ rfl rfl hl.1 rfl (lv_room (Nat.le_of_ble_eq_true rfl)) dL_law_202 ⟨by decide +kernel, by decide +kernel⟩) hS (fun q _ h => hFc_3 q h) hFc_3 (fun r_5 u t H1 locs ht hvm hw_4 hB hz1 hk1 hS => ?_)
  subst hw_4
  obtain ⟨hP1, hD1⟩ := hB
  rw [ht] at hP1
  obtain ⟨hP, hD⟩ := va_join (wr := [(y0, .inr (12, [.int 0, .ref y1, .ref y2, .ref y3, .ref y4, .ref y5, .ref y6, .ref y7, .ref y8, .int 0, .int 0, .int 0, .int 0, .int 0, .long 0, .int 0, .int 0, .int 0, .ref y9, .ref y10, .int 0, .int 0, .int 0, .int 0, .int 0, .int 0, .int 0, .int 0, .int 0, .int 0, .ref y11, .ref y12, .ref y13, .int 0, .int 0, .int 0, .ref y14, .ref y15, .ref y16, .ref y17, .ref y18, .ref y19, .ref y20, .ref y21, .ref y22, .ref y23, .ref y24, .ref y25, .ref y26, .int 0, .int 0, .int 0, .ref y27, .ref y28, .ref y29, .int 0, .int 0, .int 0, .ref y30, .ref y31, .ref y32, .ref y33, .ref y34, .ref y35])), (y1, .inl (cy 1, 2400, .inl (fun _ => 0))), (y2, .inl (cy 0, 4, .inl (fun _ => 0)))]) (w1 := []) hP hD [0, 1, 2, 3] [4, 5, 6] rfl rfl (by decide) (by decide) hk1 hFc_3 hP1 hD1
  generalize H1 = H at hP hS ⊢
  have hP : va_P D vwCl [(y0, .inr (12, [.int 0, .ref y1, .ref y2, .ref y3, .ref y4, .ref y5, .ref y6, .ref y7, .ref y8, .int 0, .int 0, .int 0, .int 0, .int 0, .long 0, .int 0, .int 0, .int 0, .ref y9, .ref y10, .int 0, .int 0, .int 0, .int 0, .int 0, .int 0, .int 0, .int 0, .int 0, .int 0, .ref y11, .ref y12, .ref y13, .int 0, .int 0, .int 0, .ref y14, .ref y15, .ref y16, .ref y17, .ref y18, .ref y19, .ref y20, .ref y21, .ref y22, .ref y23, .ref y24, .ref y25, .ref y26, .int 0, .int 0, .int 0, .ref y27, .ref y28, .ref y29, .int 0, .int 0, .int 0, .ref y30, .ref y31, .ref y32, .ref y33, .ref y34, .ref y35])), (y1, .inl (cy 1, 2400, .inl (fun _ => 0))), (y2, .inl (cy 0, 4, .inl (fun _ => 0)))] H := hP
  have hD : va_D A [(y0, .inr (12, [.int 0, .ref y1, .ref y2, .ref y3, .ref y4, .ref y5, .ref y6, .ref y7, .ref y8, .int 0, .int 0, .int 0, .int 0, .int 0, .long 0, .int 0, .int 0, .int 0, .ref y9, .ref y10, .int 0, .int 0, .int 0, .int 0, .int 0, .int 0, .int 0, .int 0, .int 0, .int 0, .ref y11, .ref y12, .ref y13, .int 0, .int 0, .int 0, .ref y14, .ref y15, .ref y16, .ref y17, .ref y18, .ref y19, .ref y20, .ref y21, .ref y22, .ref y23, .ref y24, .ref y25, .ref y26, .int 0, .int 0, .int 0, .ref y27, .ref y28, .ref y29, .int 0, .int 0, .int 0, .ref y30, .ref y31, .ref y32, .ref y33, .ref y34, .ref y35])), (y1, .inl (cy 1, 2400, .inl (fun _ => 0))), (y2, .inl (cy 0, 4, .inl (fun _ => 0)))] := hD
  refine lv_aload_n hx hb dL_law_205 rfl (lv_at hl 1 rfl) ?_
  refine lv_aload_n hx hb dL_law_206 rfl (lv_at hl 3 rfl) ?_
  refine lv_iload_n hx hb dL_law_207 rfl (lv_at hl 0 rfl) ?_
  refine lv_iconst (v := 1) hx hb dL_law_208 (by decide +kernel) ?_
  refine lv_iadd hx hb dL_law_209 ?_
  refine tp_i 1 (by decide +kernel) ?_
  refine va_sld hx hb hX hbl hbA hS (vi_c (by decide +kernel)) dL_law_210 ?_
  refine tp_i (xs 1) rfl ?_
  refine lv_aload_n hx hb dL_law_211 rfl (lv_at hl 3 rfl) ?_
  refine lv_iload_n hx hb dL_law_212 rfl (lv_at hl 0 rfl) ?_
  refine lv_iconst (v := 2) hx hb dL_law_213 (by decide +kernel) ?_
  refine lv_iadd hx hb dL_law_214 ?_
  refine tp_i 2 (by decide +kernel) ?_
  refine va_sld hx hb hX hbl hbA hS (vi_c (by decide +kernel)) dL_law_215 ?_
  refine tp_i (xs 2) rfl ?_
  refine lv_aload_n hx hb dL_law_216 rfl (lv_at hl 3 rfl) ?_
  refine lv_iload_n hx hb dL_law_217 rfl (lv_at hl 0 rfl) ?_
  refine lv_iconst (v := 3) hx hb dL_law_218 (by decide +kernel) ?_
  refine lv_iadd hx hb dL_law_219 ?_
  refine tp_i 3 (by decide +kernel) ?_
  refine va_sld hx hb hX hbl hbA hS (vi_c (by decide +kernel)) dL_law_220 ?_
  refine tp_i (xs 3) rfl ?_
  refine lv_aload_n hx hb dL_law_221 rfl (lv_at hl 3 rfl) ?_
  refine lv_iload_n hx hb dL_law_222 rfl (lv_at hl 0 rfl) ?_
  refine lv_iconst (v := 4) hx hb dL_law_223 (by decide +kernel) ?_
  refine lv_iadd hx hb dL_law_224 ?_
  refine tp_i 4 (by decide +kernel) ?_
  refine va_sld hx hb hX hbl hbA hS (vi_c (by decide +kernel)) dL_law_225 ?_
  refine tp_i (xs 4) rfl ?_
  refine lv_aload_n hx hb dL_law_226 rfl (lv_at hl 3 rfl) ?_
  refine lv_iload_n hx hb dL_law_227 rfl (lv_at hl 0 rfl) ?_
  refine lv_iconst (v := 5) hx hb dL_law_228 (by decide +kernel) ?_
  refine lv_iadd hx hb dL_law_229 ?_
  refine tp_i 5 (by decide +kernel) ?_
  refine va_sld hx hb hX hbl hbA hS (vi_c (by decide +kernel)) dL_law_230 ?_
  refine tp_i (xs 5) rfl ?_
  have hPc_6 := hP.sub (ws' := [(y0, .inr (12, [.int 0, .ref y1, .ref y2, .ref y3, .ref y4, .ref y5, .ref y6, .ref y7, .ref y8, .int 0, .int 0, .int 0, .int 0, .int 0, .long 0, .int 0, .int 0, .int 0, .ref y9, .ref y10, .int 0, .int 0, .int 0, .int 0, .int 0, .int 0, .int 0, .int 0, .int 0, .int 0, .ref y11, .ref y12, .ref y13, .int 0, .int 0, .int 0, .ref y14, .ref y15, .ref y16, .ref y17, .ref y18, .ref y19, .ref y20, .ref y21, .ref y22, .ref y23, .ref y24, .ref y25, .ref y26, .int 0, .int 0, .int 0, .ref y27, .ref y28, .ref y29, .int 0, .int 0, .int 0, .ref y30, .ref y31, .ref y32, .ref y33, .ref y34, .ref y35])), (y1, .inl (cy 1, 2400, .inl (fun _ => 0))), (y2, .inl (cy 0, 4, .inl (fun _ => 0)))]) [0, 1, 2] rfl
  have hDc_7 := hD.sub (ws' := [(y0, .inr (12, [.int 0, .ref y1, .ref y2, .ref y3, .ref y4, .ref y5, .ref y6, .ref y7, .ref y8, .int 0, .int 0, .int 0, .int 0, .int 0, .long 0, .int 0, .int 0, .int 0, .ref y9, .ref y10, .int 0, .int 0, .int 0, .int 0, .int 0, .int 0, .int 0, .int 0, .int 0, .int 0, .ref y11, .ref y12, .ref y13, .int 0, .int 0, .int 0, .ref y14, .ref y15, .ref y16, .ref y17, .ref y18, .ref y19, .ref y20, .ref y21, .ref y22, .ref y23, .ref y24, .ref y25, .ref y26, .int 0, .int 0, .int 0, .ref y27, .ref y28, .ref y29, .int 0, .int 0, .int 0, .ref y30, .ref y31, .ref y32, .ref y33, .ref y34, .ref y35])), (y1, .inl (cy 1, 2400, .inl (fun _ => 0))), (y2, .inl (cy 0, 4, .inl (fun _ => 0)))]) [0, 1, 2] (by decide) rfl
  have hFc_8 := va_free (wc := [(y0, .inr (12, [.int 0, .ref y1, .ref y2, .ref y3, .ref y4, .ref y5, .ref y6, .ref y7, .ref y8, .int 0, .int 0, .int 0, .int 0, .int 0, .long 0, .int 0, .int 0, .int 0, .ref y9, .ref y10, .int 0, .int 0, .int 0, .int 0, .int 0, .int 0, .int 0, .int 0, .int 0, .int 0, .ref y11, .ref y12, .ref y13, .int 0, .int 0, .int 0, .ref y14, .ref y15, .ref y16, .ref y17, .ref y18, .ref y19, .ref y20, .ref y21, .ref y22, .ref y23, .ref y24, .ref y25, .ref y26, .int 0, .int 0, .int 0, .ref y27, .ref y28, .ref y29, .int 0, .int 0, .int 0, .ref y30, .ref y31, .ref y32, .ref y33, .ref y34, .ref y35])), (y1, .inl (cy 1, 2400, .inl (fun _ => 0))), (y2, .inl (cy 0, 4, .inl (fun _ => 0)))]) hD hS hA [0, 1, 2] rfl
  refine va_calli (va_runV (As := [.int (xs 1), .int (xs 2), .int (xs 3), .int (xs 4), .int (xs 5)]) (rest := [.int 20]) ⟨hx, hb, hml, hown, hts⟩ (c_X12_feed l D cy y0 y1 y2 y3 y4 y5 y6 y7 y8 y9 y10 y11 y12 y13 y14 y15 y16 y17 y18 y19 y20 y21 y22 y23 y24 y25 y26 y27 y28 y29 y30 y31 y32 y33 y34 y35 (fun _ => 0) (xs 1) (xs 2) (xs 3) (xs 4) (xs 5) H.size) (cwV 5 hts gL_law_X12_feed rfl rfl rfl (by decide +kernel) ⟨Nat.le_of_ble_eq_true rfl, Nat.le_of_ble_eq_true rfl⟩) ⟨pwB, va_recv hK hPc_6 (ci := 12) (q0 := 0) rfl rfl, fun U hU hW => ⟨rfl, PW.of hU hW hKW hPc_6 hDc_7⟩⟩ rfl rfl hl.1 rfl (lv_room (Nat.le_of_ble_eq_true rfl)) dL_law_231 ⟨by decide +kernel, by decide +kernel⟩) hS (fun q _ h => hFc_8 q h) hFc_8 (fun r_10 u t H1 locs ht hvm hw_9 hB hz1 hk1 hS => ?_)
  subst hw_9
  obtain ⟨hP1, hD1⟩ := hB
  rw [ht] at hP1
  obtain ⟨hP, hD⟩ := va_join (wr := []) (w1 := []) hP hD [0, 1, 2] [] rfl rfl (by decide) (by decide) hk1 hFc_8 hP1 hD1
  generalize H1 = H at hP hS ⊢
  have hP : va_P D vwCl [] H := hP
  have hD : va_D A [] := hD
  refine lv_icmp_eq (tgt := 1550) hx hb dL_law_234 (by decide) (fun _ => ?_) (fun c_11 => absurd (by decide +kernel) c_11)
  exact lw_tail l C0 hAe hS (by decide +kernel) (by decide +kernel) ls (lv_sub hl [0, 3] rfl)
set_option maxHeartbeats 4000000 in
set_option maxRecDepth 100000 in
theorem lw_c1 {p : Program} {e : Env} {s : State} {m : MethodId} {below : List Frame} {meth : Method} {c : Code} (l : Launch) {b : Nat} {xs : Nat → Int32} (C0 : lw_At p s m meth c b 6 xs)  {A : Nat → Prop} (hAe : A = fun q : Nat => s.heap.size ≤ q) {D : va_G} {cy : Nat → ClassId} (hKW : KW D cy s) {x0 x1 x2 x3 x4 x5 x6 x7 x8 x9 x10 x11 x12 x13 x14 x15 x16 x17 x18 x19 x20 x21 x22 x23 x24 x25 x26 x27 x28 x29 x30 x31 x32 x33 x34 x35 x36 x37 x38 x39 x40 x41 x42 x43 x44 x45 x46 x47 x48 x49 x50 x51 x52 x53 x54 x55 x56 x57 x58 x59 x60 x61 x62 x63 x64 x65 x66 x67 x68 x69 x70 x71 x72 x73 x74 x75 x76 x77 x78 x79 x80 x81 x82 x83 x84 x85 x86 x87 x88 x89 x90 x91 y0 y1 y2 y3 y4 y5 y6 y7 y8 y9 y10 y11 y12 y13 y14 y15 y16 y17 y18 y19 y20 y21 y22 y23 y24 y25 y26 y27 y28 y29 y30 y31 y32 y33 y34 y35 : Nat} {H : Heap} {locs : List Loc} (hP : va_P D vwCl (WL cy x0 x1 x2 x3 x4 x5 x6 x7 x8 x9 x10 x11 x12 x13 x14 x15 x16 x17 x18 x19 x20 x21 x22 x23 x24 x25 x26 x27 x28 x29 x30 x31 x32 x33 x34 x35 x36 x37 x38 x39 x40 x41 x42 x43 x44 x45 x46 x47 x48 x49 x50 x51 x52 x53 x54 x55 x56 x57 x58 x59 x60 x61 x62 x63 x64 x65 x66 x67 x68 x69 x70 x71 x72 x73 x74 x75 x76 x77 x78 x79 x80 x81 x82 x83 x84 x85 x86 x87 x88 x89 x90 x91 y0 y1 y2 y3 y4 y5 y6 y7 y8 y9 y10 y11 y12 y13 y14 y15 y16 y17 y18 y19 y20 y21 y22 y23 y24 y25 y26 y27 y28 y29 y30 y31 y32 y33 y34 y35) H) (hD : va_D A (WL cy x0 x1 x2 x3 x4 x5 x6 x7 x8 x9 x10 x11 x12 x13 x14 x15 x16 x17 x18 x19 x20 x21 x22 x23 x24 x25 x26 x27 x28 x29 x30 x31 x32 x33 x34 x35 x36 x37 x38 x39 x40 x41 x42 x43 x44 x45 x46 x47 x48 x49 x50 x51 x52 x53 x54 x55 x56 x57 x58 x59 x60 x61 x62 x63 x64 x65 x66 x67 x68 x69 x70 x71 x72 x73 x74 x75 x76 x77 x78 x79 x80 x81 x82 x83 x84 x85 x86 x87 x88 x89 x90 x91 y0 y1 y2 y3 y4 y5 y6 y7 y8 y9 y10 y11 y12 y13 y14 y15 y16 y17 y18 y19 y20 y21 y22 y23 y24 y25 y26 y27 y28 y29 y30 y31 y32 y33 y34 y35)) (hS : va_S A s.heap H locs) (ls : Array Slot) (hl : lv_has ls 4 [(3, .int 0), (2, .ref y0), (1, .ref x0), (0, .ref b)]) : W p l e room_1 s m #[Value.ref b] below meth c H locs 128 11575 (lw_Z below #[Value.ref b] s) (F0 m 239 ls []) := by
  obtain ⟨hx, hb, hr, hml, hown, hts0, hX, hbl, hlocks, hgv⟩ := id C0
  have hts : ∀ w ∈ wsL_law, w.before #[Value.ref b] s = true := fun w h => hts0 w (wsL_law_in w h)
  have hown : s.vm.findClass RL = some m.cls := hown
  have hK := hKW.1
  have hA : ∀ q : Nat, s.heap.size ≤ q → A q := fun _ h => by rw [hAe]; exact h
  have hbA : ¬ A b := by rw [hAe]; exact Nat.not_le.mpr hbl
  have hP := hP.sub (ws' := [(x0, .inr (11, [.ref x1, .ref x2, .ref x3, .ref x4, .ref x5, .ref x6, .ref x7])), (x1, .inr (9, [.ref x8, .ref x9, .ref x10, .ref x11, .ref x12, .int 0, .int (-1)])), (x8, .inr (8, [.ref x13, .int 0])), (y0, .inr (12, [.int 0, .ref y1, .ref y2, .ref y3, .ref y4, .ref y5, .ref y6, .ref y7, .ref y8, .int 0, .int 0, .int 0, .int 0, .int 0, .long 0, .int 0, .int 0, .int 0, .ref y9, .ref y10, .int 0, .int 0, .int 0, .int 0, .int 0, .int 0, .int 0, .int 0, .int 0, .int 0, .ref y11, .ref y12, .ref y13, .int 0, .int 0, .int 0, .ref y14, .ref y15, .ref y16, .ref y17, .ref y18, .ref y19, .ref y20, .ref y21, .ref y22, .ref y23, .ref y24, .ref y25, .ref y26, .int 0, .int 0, .int 0, .ref y27, .ref y28, .ref y29, .int 0, .int 0, .int 0, .ref y30, .ref y31, .ref y32, .ref y33, .ref y34, .ref y35])), (y2, .inl (cy 0, 4, .inl (fun _ => 0)))]) [0, 1, 2, 92, 94] rfl
  have hD := hD.sub (ws' := [(x0, .inr (11, [.ref x1, .ref x2, .ref x3, .ref x4, .ref x5, .ref x6, .ref x7])), (x1, .inr (9, [.ref x8, .ref x9, .ref x10, .ref x11, .ref x12, .int 0, .int (-1)])), (x8, .inr (8, [.ref x13, .int 0])), (y0, .inr (12, [.int 0, .ref y1, .ref y2, .ref y3, .ref y4, .ref y5, .ref y6, .ref y7, .ref y8, .int 0, .int 0, .int 0, .int 0, .int 0, .long 0, .int 0, .int 0, .int 0, .ref y9, .ref y10, .int 0, .int 0, .int 0, .int 0, .int 0, .int 0, .int 0, .int 0, .int 0, .int 0, .ref y11, .ref y12, .ref y13, .int 0, .int 0, .int 0, .ref y14, .ref y15, .ref y16, .ref y17, .ref y18, .ref y19, .ref y20, .ref y21, .ref y22, .ref y23, .ref y24, .ref y25, .ref y26, .int 0, .int 0, .int 0, .ref y27, .ref y28, .ref y29, .int 0, .int 0, .int 0, .ref y30, .ref y31, .ref y32, .ref y33, .ref y34, .ref y35])), (y2, .inl (cy 0, 4, .inl (fun _ => 0)))]) [0, 1, 2, 92, 94] (by decide) rfl
  refine lv_aload_n hx hb dL_law_239 rfl (lv_at hl 2 rfl) ?_
  refine lv_aload_n hx hb dL_law_240 rfl (lv_at hl 3 rfl) ?_
  refine lv_iload_n hx hb dL_law_241 rfl (lv_at hl 0 rfl) ?_
  refine lv_iconst (v := 1) hx hb dL_law_242 (by decide +kernel) ?_
  refine lv_iadd hx hb dL_law_243 ?_
  refine tp_i 1 (by decide +kernel) ?_
  refine va_sld hx hb hX hbl hbA hS (vi_c (by decide +kernel)) dL_law_244 ?_
  refine tp_i (xs 1) rfl ?_
  have hPc_1 := hP.sub (ws' := [(x0, .inr (11, [.ref x1, .ref x2, .ref x3, .ref x4, .ref x5, .ref x6, .ref x7])), (x1, .inr (9, [.ref x8, .ref x9, .ref x10, .ref x11, .ref x12, .int 0, .int (-1)])), (x8, .inr (8, [.ref x13, .int 0]))]) [0, 1, 2] rfl
  have hDc_2 := hD.sub (ws' := [(x0, .inr (11, [.ref x1, .ref x2, .ref x3, .ref x4, .ref x5, .ref x6, .ref x7])), (x1, .inr (9, [.ref x8, .ref x9, .ref x10, .ref x11, .ref x12, .int 0, .int (-1)])), (x8, .inr (8, [.ref x13, .int 0]))]) [0, 1, 2] (by decide) rfl
  have hFc_3 := va_free (wc := [(x0, .inr (11, [.ref x1, .ref x2, .ref x3, .ref x4, .ref x5, .ref x6, .ref x7])), (x1, .inr (9, [.ref x8, .ref x9, .ref x10, .ref x11, .ref x12, .int 0, .int (-1)])), (x8, .inr (8, [.ref x13, .int 0]))]) hD hS hA [0, 1, 2] rfl
  refine va_calli (va_runV (As := [.int (xs 1)]) (rest := []) ⟨hx, hb, hml, hown, hts⟩ (c_X11_end l D cy x0 x2 x3 x4 x5 x6 x7 x1 x8 x9 x10 x11 x12 x13 (xs 1) H.size) (cwV 1 hts gL_law_X11_end rfl rfl rfl (by decide +kernel) ⟨Nat.le_of_ble_eq_true rfl, Nat.le_of_ble_eq_true rfl⟩) ⟨pwB, va_recv hK hPc_1 (ci := 11) (q0 := 0) rfl rfl, fun U hU hW => ⟨rfl, PW.of hU hW hKW hPc_1 hDc_2⟩⟩ rfl rfl hl.1 rfl (lv_room (Nat.le_of_ble_eq_true rfl)) dL_law_245 ⟨by decide +kernel, by decide +kernel⟩) hS (fun q _ h => hFc_3 q h) hFc_3 (fun r_5 u t H1 locs ht hvm hw_4 hB hz1 hk1 hS => ?_)
  subst hw_4
  obtain ⟨hP1, hD1⟩ := hB
  rw [ht] at hP1
  obtain ⟨hP, hD⟩ := va_join (wr := [(y0, .inr (12, [.int 0, .ref y1, .ref y2, .ref y3, .ref y4, .ref y5, .ref y6, .ref y7, .ref y8, .int 0, .int 0, .int 0, .int 0, .int 0, .long 0, .int 0, .int 0, .int 0, .ref y9, .ref y10, .int 0, .int 0, .int 0, .int 0, .int 0, .int 0, .int 0, .int 0, .int 0, .int 0, .ref y11, .ref y12, .ref y13, .int 0, .int 0, .int 0, .ref y14, .ref y15, .ref y16, .ref y17, .ref y18, .ref y19, .ref y20, .ref y21, .ref y22, .ref y23, .ref y24, .ref y25, .ref y26, .int 0, .int 0, .int 0, .ref y27, .ref y28, .ref y29, .int 0, .int 0, .int 0, .ref y30, .ref y31, .ref y32, .ref y33, .ref y34, .ref y35])), (y2, .inl (cy 0, 4, .inl (fun _ => 0)))]) (w1 := []) hP hD [0, 1, 2] [3, 4] rfl rfl (by decide) (by decide) hk1 hFc_3 hP1 hD1
  generalize H1 = H at hP hS ⊢
  have hP : va_P D vwCl [(y0, .inr (12, [.int 0, .ref y1, .ref y2, .ref y3, .ref y4, .ref y5, .ref y6, .ref y7, .ref y8, .int 0, .int 0, .int 0, .int 0, .int 0, .long 0, .int 0, .int 0, .int 0, .ref y9, .ref y10, .int 0, .int 0, .int 0, .int 0, .int 0, .int 0, .int 0, .int 0, .int 0, .int 0, .ref y11, .ref y12, .ref y13, .int 0, .int 0, .int 0, .ref y14, .ref y15, .ref y16, .ref y17, .ref y18, .ref y19, .ref y20, .ref y21, .ref y22, .ref y23, .ref y24, .ref y25, .ref y26, .int 0, .int 0, .int 0, .ref y27, .ref y28, .ref y29, .int 0, .int 0, .int 0, .ref y30, .ref y31, .ref y32, .ref y33, .ref y34, .ref y35])), (y2, .inl (cy 0, 4, .inl (fun _ => 0)))] H := hP
  have hD : va_D A [(y0, .inr (12, [.int 0, .ref y1, .ref y2, .ref y3, .ref y4, .ref y5, .ref y6, .ref y7, .ref y8, .int 0, .int 0, .int 0, .int 0, .int 0, .long 0, .int 0, .int 0, .int 0, .ref y9, .ref y10, .int 0, .int 0, .int 0, .int 0, .int 0, .int 0, .int 0, .int 0, .int 0, .int 0, .ref y11, .ref y12, .ref y13, .int 0, .int 0, .int 0, .ref y14, .ref y15, .ref y16, .ref y17, .ref y18, .ref y19, .ref y20, .ref y21, .ref y22, .ref y23, .ref y24, .ref y25, .ref y26, .int 0, .int 0, .int 0, .ref y27, .ref y28, .ref y29, .int 0, .int 0, .int 0, .ref y30, .ref y31, .ref y32, .ref y33, .ref y34, .ref y35])), (y2, .inl (cy 0, 4, .inl (fun _ => 0)))] := hD
  refine lv_aload_n hx hb dL_law_248 rfl (lv_at hl 1 rfl) ?_
  refine lv_aload_n hx hb dL_law_249 rfl (lv_at hl 3 rfl) ?_
  refine lv_iload_n hx hb dL_law_250 rfl (lv_at hl 0 rfl) ?_
  refine lv_iconst (v := 1) hx hb dL_law_251 (by decide +kernel) ?_
  refine lv_iadd hx hb dL_law_252 ?_
  refine tp_i 1 (by decide +kernel) ?_
  refine va_sld hx hb hX hbl hbA hS (vi_c (by decide +kernel)) dL_law_253 ?_
  refine tp_i (xs 1) rfl ?_
  have hPc_6 := hP.sub (ws' := [(y0, .inr (12, [.int 0, .ref y1, .ref y2, .ref y3, .ref y4, .ref y5, .ref y6, .ref y7, .ref y8, .int 0, .int 0, .int 0, .int 0, .int 0, .long 0, .int 0, .int 0, .int 0, .ref y9, .ref y10, .int 0, .int 0, .int 0, .int 0, .int 0, .int 0, .int 0, .int 0, .int 0, .int 0, .ref y11, .ref y12, .ref y13, .int 0, .int 0, .int 0, .ref y14, .ref y15, .ref y16, .ref y17, .ref y18, .ref y19, .ref y20, .ref y21, .ref y22, .ref y23, .ref y24, .ref y25, .ref y26, .int 0, .int 0, .int 0, .ref y27, .ref y28, .ref y29, .int 0, .int 0, .int 0, .ref y30, .ref y31, .ref y32, .ref y33, .ref y34, .ref y35])), (y2, .inl (cy 0, 4, .inl (fun _ => 0)))]) [0, 1] rfl
  have hDc_7 := hD.sub (ws' := [(y0, .inr (12, [.int 0, .ref y1, .ref y2, .ref y3, .ref y4, .ref y5, .ref y6, .ref y7, .ref y8, .int 0, .int 0, .int 0, .int 0, .int 0, .long 0, .int 0, .int 0, .int 0, .ref y9, .ref y10, .int 0, .int 0, .int 0, .int 0, .int 0, .int 0, .int 0, .int 0, .int 0, .int 0, .ref y11, .ref y12, .ref y13, .int 0, .int 0, .int 0, .ref y14, .ref y15, .ref y16, .ref y17, .ref y18, .ref y19, .ref y20, .ref y21, .ref y22, .ref y23, .ref y24, .ref y25, .ref y26, .int 0, .int 0, .int 0, .ref y27, .ref y28, .ref y29, .int 0, .int 0, .int 0, .ref y30, .ref y31, .ref y32, .ref y33, .ref y34, .ref y35])), (y2, .inl (cy 0, 4, .inl (fun _ => 0)))]) [0, 1] (by decide) rfl
  have hFc_8 := va_free (wc := [(y0, .inr (12, [.int 0, .ref y1, .ref y2, .ref y3, .ref y4, .ref y5, .ref y6, .ref y7, .ref y8, .int 0, .int 0, .int 0, .int 0, .int 0, .long 0, .int 0, .int 0, .int 0, .ref y9, .ref y10, .int 0, .int 0, .int 0, .int 0, .int 0, .int 0, .int 0, .int 0, .int 0, .int 0, .ref y11, .ref y12, .ref y13, .int 0, .int 0, .int 0, .ref y14, .ref y15, .ref y16, .ref y17, .ref y18, .ref y19, .ref y20, .ref y21, .ref y22, .ref y23, .ref y24, .ref y25, .ref y26, .int 0, .int 0, .int 0, .ref y27, .ref y28, .ref y29, .int 0, .int 0, .int 0, .ref y30, .ref y31, .ref y32, .ref y33, .ref y34, .ref y35])), (y2, .inl (cy 0, 4, .inl (fun _ => 0)))]) hD hS hA [0, 1] rfl
  refine va_calli (va_runV (As := [.int (xs 1)]) (rest := [.int (if (xs 1) = 0 then 0 else -1)]) ⟨hx, hb, hml, hown, hts⟩ (c_X12_end l D cy y0 y1 y2 y3 y4 y5 y6 y7 y8 y9 y10 y11 y12 y13 y14 y15 y16 y17 y18 y19 y20 y21 y22 y23 y24 y25 y26 y27 y28 y29 y30 y31 y32 y33 y34 y35 (xs 1) H.size) (cwV 1 hts gL_law_X12_end rfl rfl rfl (by decide +kernel) ⟨Nat.le_of_ble_eq_true rfl, Nat.le_of_ble_eq_true rfl⟩) ⟨pwB, va_recv hK hPc_6 (ci := 12) (q0 := 0) rfl rfl, fun U hU hW => ⟨rfl, PW.of hU hW hKW hPc_6 hDc_7⟩⟩ rfl rfl hl.1 rfl (lv_room (Nat.le_of_ble_eq_true rfl)) dL_law_254 ⟨by decide +kernel, by decide +kernel⟩) hS (fun q _ h => hFc_8 q h) hFc_8 (fun r_10 u t H1 locs ht hvm hw_9 hB hz1 hk1 hS => ?_)
  subst hw_9
  obtain ⟨hP1, hD1⟩ := hB
  rw [ht] at hP1
  obtain ⟨hP, hD⟩ := va_join (wr := []) (w1 := []) hP hD [0, 1] [] rfl rfl (by decide) (by decide) hk1 hFc_8 hP1 hD1
  generalize H1 = H at hP hS ⊢
  have hP : va_P D vwCl [] H := hP
  have hD : va_D A [] := hD
  refine lv_icmp_eq (tgt := 1550) hx hb dL_law_257 (by decide) (fun c_11 => ?_) (fun c_11 => absurd rfl c_11)
  exact lw_tail l C0 hAe hS (by decide +kernel) (by decide +kernel) ls (lv_sub hl [0, 3] rfl)
