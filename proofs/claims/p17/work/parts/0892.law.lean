set_option maxHeartbeats 4000000 in
theorem lwc_0 {p : Program} {l : Launch} {e : Env} {s : State} {m : MethodId} {below : List Frame} {meth : Method} {c : Code} {b N : Nat} {xs : Nat → Int32} {Q : State → Prop} {H : Heap} {locs : List Loc} {cells slots : Nat} {ls : Array Slot} {qa qr i : Nat} {D : va_G} {cy : Nat → ClassId} {tb adK adV : Nat → Nat} {fv : Option Nat} (X : lwX l p s m meth c b N xs D cy tb adK adV fv) (hi : i + 6 ≤ N) (hI : lwI lwF s D cy adK qa qr H) (hS : va_S (fun q => s.heap.size ≤ q) s.heap H locs) (hcs : cells ≤ 600000 ∧ slots ≤ 7302250) (hl : lwL ls qa qr i b)
    (K : ∀ (H1 : Heap) (locs1 : List Loc), lwI lwF s D cy adK qa qr H1 → va_S (fun q => s.heap.size ≤ q) s.heap H1 locs1 → W p l e room_1 s m #[Value.ref b] below meth c H1 locs1 (cells) (slots) Q (F0 m 1550 ls [])) : W p l e room_1 s m #[Value.ref b] below meth c H locs cells slots Q (F0 m 176 ls []) := by
  obtain ⟨hx, hb, -, -, -, -, -, -, -, -⟩ := id X.1
  obtain ⟨η, ζ, L, M, Θ, Ξ, h, g, hB, hN, hNR, hH, hG, ⟨ea, er⟩, ⟨R, RP⟩⟩ := hI
  obtain ⟨bb, bm, bl, -⟩ := cT_b hH hN.2.2.2.1 R
  obtain ⟨gb, g1, g4⟩ := rBd_of hG hNR
  obtain ⟨v, h2, g2, e1, e2, R2⟩ := RR_feed (n := 6) (m := 6) (x1 := (xs (i + 1)).toInt) (x2 := (xs (i + 2)).toInt) (x3 := (xs (i + 3)).toInt) (x4 := (xs (i + 4)).toInt) (x5 := (xs (i + 5)).toInt) ⟨by decide, by decide⟩ R bl bm
  have k2 := fr2_feed (by decide) R.1 bm e1
  have w2 : lwF → cW h2 g2 := fun f => ⟨frW_feed (by decide) R.1 bm e1 (RP f).1, frH_feed (by decide) R.2.1 g1 e2 (RP f).2.1, frD_feed (by decide) R.1 bm e1 (RP f).2.2⟩
  refine lv_aload_n hx hb dL_176 rfl (lv_at hl 2 rfl) ?_
  refine lw_arg X.1 X.2.1 hS hl 1 hi (by decide) (by decide +kernel) dL_177 dL_178 dL_179 dL_180 dL_181 ?_
  refine lw_arg X.1 X.2.1 hS hl 2 hi (by decide) (by decide +kernel) dL_182 dL_183 dL_184 dL_185 dL_186 ?_
  refine lw_arg X.1 X.2.1 hS hl 3 hi (by decide) (by decide +kernel) dL_187 dL_188 dL_189 dL_190 dL_191 ?_
  refine lw_arg X.1 X.2.1 hS hl 4 hi (by decide) (by decide +kernel) dL_192 dL_193 dL_194 dL_195 dL_196 ?_
  refine lw_arg X.1 X.2.1 hS hl 5 hi (by decide) (by decide +kernel) dL_197 dL_198 dL_199 dL_200 dL_201 ?_
  refine lwCf (As := [(xs (i + 1)).toInt, (xs (i + 2)).toInt, (xs (i + 3)).toInt, (xs (i + 4)).toInt, (xs (i + 5)).toInt]) X (m_X11_feed l) (ycv_of yw_X11_feed 13 dL_202 zlL_13 rfl (by decide +kernel) (by decide +kernel) (zk_ex (kk := 63) (ts := [0, 0, 0, 0, 0]) _ _ rfl (zkK ⟨63, by decide⟩) rfl rfl rfl)) rfl (fun _ hx => by
      simp only [List.mem_cons, List.not_mem_nil, or_false] at hx
      rcases hx with rfl | rfl | rfl | rfl | rfl <;> exact ⟨z_lo _, z_hi _⟩) hB hN hH hG ea e1 hS hcs hl (rest := []) (by decide) (by simp only [List.map_cons, List.map_nil, List.reverse_cons, List.reverse_nil, List.nil_append, List.cons_append, z_ofi]) (fun H8 locs8 hH8 hG8 hS8 => ?_)
  refine lv_pop hx hb dL_205 rfl ?_
  refine lv_aload_n hx hb dL_206 rfl (lv_at hl 1 rfl) ?_
  refine lw_arg X.1 X.2.1 hS8 hl 1 hi (by decide) (by decide +kernel) dL_207 dL_208 dL_209 dL_210 dL_211 ?_
  refine lw_arg X.1 X.2.1 hS8 hl 2 hi (by decide) (by decide +kernel) dL_212 dL_213 dL_214 dL_215 dL_216 ?_
  refine lw_arg X.1 X.2.1 hS8 hl 3 hi (by decide) (by decide +kernel) dL_217 dL_218 dL_219 dL_220 dL_221 ?_
  refine lw_arg X.1 X.2.1 hS8 hl 4 hi (by decide) (by decide +kernel) dL_222 dL_223 dL_224 dL_225 dL_226 ?_
  refine lw_arg X.1 X.2.1 hS8 hl 5 hi (by decide) (by decide +kernel) dL_227 dL_228 dL_229 dL_230 dL_231 ?_
  refine lwRf (As := [(xs (i + 1)).toInt, (xs (i + 2)).toInt, (xs (i + 3)).toInt, (xs (i + 4)).toInt, (xs (i + 5)).toInt]) X (m_X12_feed l) (ycv_of yw_X12_feed 17 dL_232 zlL_17 rfl (by decide +kernel) (by decide +kernel) (zk_ex (kk := 35) (ts := [0, 0, 0, 0, 0]) _ _ rfl (zkR ⟨35, by decide⟩) rfl rfl rfl)) rfl (fun _ hx => by
      simp only [List.mem_cons, List.not_mem_nil, or_false] at hx
      rcases hx with rfl | rfl | rfl | rfl | rfl <;> exact ⟨z_lo _, z_hi _⟩) hB hNR hH8 hG8 er e2 hS8 hcs hl (rest := []) (by decide) (by simp only [List.map_cons, List.map_nil, List.reverse_cons, List.reverse_nil, List.nil_append, List.cons_append, z_ofi]) (fun H9 locs9 hH9 hG9 hS9 => ?_)
  refine lv_pop hx hb dL_235 rfl ?_
  refine lv_goto (tgt := 1550) hx hb dL_236 (by decide) ?_
  exact K H9 locs9 ⟨η, ζ, L, M, Θ, Ξ, h2, g2, hB, hN.keep k2, hNR, hH9, hG9, ⟨ea, er⟩, ⟨R2, fun f => w2 f⟩⟩ hS9
set_option maxHeartbeats 4000000 in
theorem lwc_1 {p : Program} {l : Launch} {e : Env} {s : State} {m : MethodId} {below : List Frame} {meth : Method} {c : Code} {b N : Nat} {xs : Nat → Int32} {Q : State → Prop} {H : Heap} {locs : List Loc} {cells slots : Nat} {ls : Array Slot} {qa qr i : Nat} {D : va_G} {cy : Nat → ClassId} {tb adK adV : Nat → Nat} {fv : Option Nat} (X : lwX l p s m meth c b N xs D cy tb adK adV fv) (hi : i + 6 ≤ N) (hI : lwI lwF s D cy adK qa qr H) (hS : va_S (fun q => s.heap.size ≤ q) s.heap H locs) (hcs : cells ≤ 600000 ∧ slots ≤ 7302250) (hl : lwL ls qa qr i b)
    (K : ∀ (H1 : Heap) (locs1 : List Loc), lwI lwF s D cy adK qa qr H1 → va_S (fun q => s.heap.size ≤ q) s.heap H1 locs1 → W p l e room_1 s m #[Value.ref b] below meth c H1 locs1 (cells) (slots) Q (F0 m 1550 ls [])) : W p l e room_1 s m #[Value.ref b] below meth c H locs cells slots Q (F0 m 239 ls []) := by
  obtain ⟨hx, hb, -, -, -, -, -, -, -, -⟩ := id X.1
  obtain ⟨η, ζ, L, M, Θ, Ξ, h, g, hB, hN, hNR, hH, hG, ⟨ea, er⟩, ⟨R, RP⟩⟩ := hI
  obtain ⟨bb, bm, bl, -⟩ := cT_b hH hN.2.2.2.1 R
  obtain ⟨gb, g1, g4⟩ := rBd_of hG hNR
  obtain ⟨v, h2, g2, e1, e2, R2⟩ := RR_end (n := 6) (m := 6) (x := (xs (i + 1)).toInt) R bl bm
  have k2 := fr2_end R.1 bm e1
  have w2 : lwF → cW h2 g2 := fun f => ⟨frW_end R.1 bm e1 (RP f).1, frH_end R.2.1 g1 e2 (RP f).2.1, frD_end R.1 bm e1 (RP f).2.2⟩
  refine lv_aload_n hx hb dL_239 rfl (lv_at hl 2 rfl) ?_
  refine lw_arg X.1 X.2.1 hS hl 1 hi (by decide) (by decide +kernel) dL_240 dL_241 dL_242 dL_243 dL_244 ?_
  refine lwCf (As := [(xs (i + 1)).toInt]) X (m_X11_end l) (ycv_of yw_X11_end 18 dL_245 zlL_18 rfl (by decide +kernel) (by decide +kernel) (zk_ex (kk := 63) (ts := [0]) _ _ rfl (zkK ⟨63, by decide⟩) rfl rfl rfl)) rfl (fun _ hx => by
      simp only [List.mem_cons, List.not_mem_nil, or_false] at hx
      rcases hx with rfl <;> exact ⟨z_lo _, z_hi _⟩) hB hN hH hG ea e1 hS hcs hl (rest := []) (by decide) (by simp only [List.map_cons, List.map_nil, List.reverse_cons, List.reverse_nil, List.nil_append, List.cons_append, z_ofi]) (fun H8 locs8 hH8 hG8 hS8 => ?_)
  refine lv_pop hx hb dL_248 rfl ?_
  refine lv_aload_n hx hb dL_249 rfl (lv_at hl 1 rfl) ?_
  refine lw_arg X.1 X.2.1 hS8 hl 1 hi (by decide) (by decide +kernel) dL_250 dL_251 dL_252 dL_253 dL_254 ?_
  refine lwRf (As := [(xs (i + 1)).toInt]) X (m_X12_end l) (ycv_of yw_X12_end 22 dL_255 zlL_22 rfl (by decide +kernel) (by decide +kernel) (zk_ex (kk := 35) (ts := [0]) _ _ rfl (zkR ⟨35, by decide⟩) rfl rfl rfl)) rfl (fun _ hx => by
      simp only [List.mem_cons, List.not_mem_nil, or_false] at hx
      rcases hx with rfl <;> exact ⟨z_lo _, z_hi _⟩) hB hNR hH8 hG8 er e2 hS8 hcs hl (rest := []) (by decide) (by simp only [List.map_cons, List.map_nil, List.reverse_cons, List.reverse_nil, List.nil_append, List.cons_append, z_ofi]) (fun H9 locs9 hH9 hG9 hS9 => ?_)
  refine lv_pop hx hb dL_258 rfl ?_
  refine lv_goto (tgt := 1550) hx hb dL_259 (by decide) ?_
  exact K H9 locs9 ⟨η, ζ, L, M, Θ, Ξ, h2, g2, hB, hN.keep k2, hNR, hH9, hG9, ⟨ea, er⟩, ⟨R2, fun f => w2 f⟩⟩ hS9
set_option maxHeartbeats 4000000 in
theorem lwc_2 {p : Program} {l : Launch} {e : Env} {s : State} {m : MethodId} {below : List Frame} {meth : Method} {c : Code} {b N : Nat} {xs : Nat → Int32} {Q : State → Prop} {H : Heap} {locs : List Loc} {cells slots : Nat} {ls : Array Slot} {qa qr i : Nat} {D : va_G} {cy : Nat → ClassId} {tb adK adV : Nat → Nat} {fv : Option Nat} (X : lwX l p s m meth c b N xs D cy tb adK adV fv) (hi : i + 6 ≤ N) (hI : lwI lwF s D cy adK qa qr H) (hS : va_S (fun q => s.heap.size ≤ q) s.heap H locs) (hcs : cells ≤ 600000 ∧ slots ≤ 7302250) (hl : lwL ls qa qr i b)
    (K : ∀ (H1 : Heap) (locs1 : List Loc), lwI lwF s D cy adK qa qr H1 → va_S (fun q => s.heap.size ≤ q) s.heap H1 locs1 → W p l e room_1 s m #[Value.ref b] below meth c H1 locs1 (cells) (slots) Q (F0 m 1550 ls [])) : W p l e room_1 s m #[Value.ref b] below meth c H locs cells slots Q (F0 m 262 ls []) := by
  obtain ⟨hx, hb, -, -, -, -, -, -, -, -⟩ := id X.1
  obtain ⟨η, ζ, L, M, Θ, Ξ, h, g, hB, hN, hNR, hH, hG, ⟨ea, er⟩, ⟨R, RP⟩⟩ := hI
  obtain ⟨bb, bm, bl, -⟩ := cT_b hH hN.2.2.2.1 R
  obtain ⟨gb, g1, g4⟩ := rBd_of hG hNR
  obtain ⟨v, h2, g2, e1, e2, R2⟩ := RR_text (n := 2800) (m := 2600) (sort := (xs (i + 1)).toInt) (at_ := (xs (i + 2)).toInt) ⟨by decide, by decide⟩ R bl bm g4
  have k2 := fr2_text (by decide) R.1 bm (fun j hj => by rw [show h 6 j = g 4 j by have := R.2.2.1.2.2.1 j hj; rw [show 0 + 6 = 6 from rfl, show 3 * 0 + j = j by omega] at this; exact this]; exact g4 j (by omega)) e1
  have w2 : lwF → cW h2 g2 := fun f => ⟨frW_text (by decide) R.1 bm (fun j hj => by rw [show h 6 j = g 4 j by have := R.2.2.1.2.2.1 j hj; rw [show 0 + 6 = 6 from rfl, show 3 * 0 + j = j by omega] at this; exact this]; exact g4 j (by omega)) e1 (RP f).1, frH_text (by decide) R.2.1 g1 g4 e2 (RP f).2.1, frD_text (by decide) R.1 bm (fun j hj => by rw [show h 6 j = g 4 j by have := R.2.2.1.2.2.1 j hj; rw [show 0 + 6 = 6 from rfl, show 3 * 0 + j = j by omega] at this; exact this]; exact g4 j (by omega)) e1 (RP f).2.2⟩
  refine lv_aload_n hx hb dL_262 rfl (lv_at hl 2 rfl) ?_
  refine lw_arg X.1 X.2.1 hS hl 1 hi (by decide) (by decide +kernel) dL_263 dL_264 dL_265 dL_266 dL_267 ?_
  refine lw_arg X.1 X.2.1 hS hl 2 hi (by decide) (by decide +kernel) dL_268 dL_269 dL_270 dL_271 dL_272 ?_
  refine lwCf (As := [(xs (i + 1)).toInt, (xs (i + 2)).toInt]) X (m_X11_text l) (ycv_of yw_X11_text 23 dL_273 zlL_23 rfl (by decide +kernel) (by decide +kernel) (zk_ex (kk := 63) (ts := [0, 0]) _ _ rfl (zkK ⟨63, by decide⟩) rfl rfl rfl)) rfl (fun _ hx => by
      simp only [List.mem_cons, List.not_mem_nil, or_false] at hx
      rcases hx with rfl | rfl <;> exact ⟨z_lo _, z_hi _⟩) hB hN hH hG ea e1 hS hcs hl (rest := []) (by decide) (by simp only [List.map_cons, List.map_nil, List.reverse_cons, List.reverse_nil, List.nil_append, List.cons_append, z_ofi]) (fun H8 locs8 hH8 hG8 hS8 => ?_)
  refine lv_pop hx hb dL_276 rfl ?_
  refine lv_aload_n hx hb dL_277 rfl (lv_at hl 1 rfl) ?_
  refine lw_arg X.1 X.2.1 hS8 hl 1 hi (by decide) (by decide +kernel) dL_278 dL_279 dL_280 dL_281 dL_282 ?_
  refine lw_arg X.1 X.2.1 hS8 hl 2 hi (by decide) (by decide +kernel) dL_283 dL_284 dL_285 dL_286 dL_287 ?_
  refine lwRf (As := [(xs (i + 1)).toInt, (xs (i + 2)).toInt]) X (m_X12_text l) (ycv_of yw_X12_text 27 dL_288 zlL_27 rfl (by decide +kernel) (by decide +kernel) (zk_ex (kk := 35) (ts := [0, 0]) _ _ rfl (zkR ⟨35, by decide⟩) rfl rfl rfl)) rfl (fun _ hx => by
      simp only [List.mem_cons, List.not_mem_nil, or_false] at hx
      rcases hx with rfl | rfl <;> exact ⟨z_lo _, z_hi _⟩) hB hNR hH8 hG8 er e2 hS8 hcs hl (rest := []) (by decide) (by simp only [List.map_cons, List.map_nil, List.reverse_cons, List.reverse_nil, List.nil_append, List.cons_append, z_ofi]) (fun H9 locs9 hH9 hG9 hS9 => ?_)
  refine lv_pop hx hb dL_291 rfl ?_
  refine lv_goto (tgt := 1550) hx hb dL_292 (by decide) ?_
  exact K H9 locs9 ⟨η, ζ, L, M, Θ, Ξ, h2, g2, hB, hN.keep k2, hNR, hH9, hG9, ⟨ea, er⟩, ⟨R2, fun f => w2 f⟩⟩ hS9
set_option maxHeartbeats 4000000 in
theorem lwc_29 {p : Program} {l : Launch} {e : Env} {s : State} {m : MethodId} {below : List Frame} {meth : Method} {c : Code} {b N : Nat} {xs : Nat → Int32} {Q : State → Prop} {H : Heap} {locs : List Loc} {cells slots : Nat} {ls : Array Slot} {qa qr i : Nat} {D : va_G} {cy : Nat → ClassId} {tb adK adV : Nat → Nat} {fv : Option Nat} (X : lwX l p s m meth c b N xs D cy tb adK adV fv) (hi : i + 6 ≤ N) (hI : lwI lwF s D cy adK qa qr H) (hS : va_S (fun q => s.heap.size ≤ q) s.heap H locs) (hcs : cells ≤ 600000 ∧ slots ≤ 7302250) (hl : lwL ls qa qr i b)
    (K : ∀ (H1 : Heap) (locs1 : List Loc), lwI lwF s D cy adK qa qr H1 → va_S (fun q => s.heap.size ≤ q) s.heap H1 locs1 → W p l e room_1 s m #[Value.ref b] below meth c H1 locs1 (cells) (slots) Q (F0 m 1550 ls [])) : W p l e room_1 s m #[Value.ref b] below meth c H locs cells slots Q (F0 m 1481 ls []) := by
  obtain ⟨hx, hb, -, -, -, -, -, -, -, -⟩ := id X.1
  obtain ⟨η, ζ, L, M, Θ, Ξ, h, g, hB, hN, hNR, hH, hG, ⟨ea, er⟩, ⟨R, RP⟩⟩ := hI
  obtain ⟨bb, bm, bl, -⟩ := cT_b hH hN.2.2.2.1 R
  obtain ⟨gb, g1, g4⟩ := rBd_of hG hNR
  obtain ⟨v, h2, g2, e1, e2, R2, kk⟩ := RR_count (n := 6) (m := 6) (x := (xs (i + 1)).toInt) R bl bm.2
  have k2 : ∀ k, h2 2 k = h 2 k := fun k => kk 2 k
  have w2 : lwF → cW h2 g2 := fun f => ((RP f).c ((RP f).p.fr (fun a j _ => kk a j)) ((RP f).2.2.fr (fun a j _ => kk a j))).r (frK_count R.2.1 e2)
  refine lv_aload_n hx hb dL_1481 rfl (lv_at hl 2 rfl) ?_
  refine lw_arg X.1 X.2.1 hS hl 1 hi (by decide) (by decide +kernel) dL_1482 dL_1483 dL_1484 dL_1485 dL_1486 ?_
  refine lwCf (As := [(xs (i + 1)).toInt]) X (m_X11_count l) (ycv_of yw_X11_count 136 dL_1487 zlL_136 rfl (by decide +kernel) (by decide +kernel) (zk_ex (kk := 63) (ts := [0]) _ _ rfl (zkK ⟨63, by decide⟩) rfl rfl rfl)) rfl (fun _ hx => by
      simp only [List.mem_cons, List.not_mem_nil, or_false] at hx
      rcases hx with rfl <;> exact ⟨z_lo _, z_hi _⟩) hB hN hH hG ea e1 hS hcs hl (rest := []) (by decide) (by simp only [List.map_cons, List.map_nil, List.reverse_cons, List.reverse_nil, List.nil_append, List.cons_append, z_ofi]) (fun H8 locs8 hH8 hG8 hS8 => ?_)
  refine lv_pop hx hb dL_1490 rfl ?_
  refine lv_aload_n hx hb dL_1491 rfl (lv_at hl 1 rfl) ?_
  refine lw_arg X.1 X.2.1 hS8 hl 1 hi (by decide) (by decide +kernel) dL_1492 dL_1493 dL_1494 dL_1495 dL_1496 ?_
  refine lwRf (As := [(xs (i + 1)).toInt]) X (m_X12_count l) (ycv_of yw_X12_count 139 dL_1497 zlL_139 rfl (by decide +kernel) (by decide +kernel) (zk_ex (kk := 35) (ts := [0]) _ _ rfl (zkR ⟨35, by decide⟩) rfl rfl rfl)) rfl (fun _ hx => by
      simp only [List.mem_cons, List.not_mem_nil, or_false] at hx
      rcases hx with rfl <;> exact ⟨z_lo _, z_hi _⟩) hB hNR hH8 hG8 er e2 hS8 hcs hl (rest := []) (by decide) (by simp only [List.map_cons, List.map_nil, List.reverse_cons, List.reverse_nil, List.nil_append, List.cons_append, z_ofi]) (fun H9 locs9 hH9 hG9 hS9 => ?_)
  refine lv_pop hx hb dL_1500 rfl ?_
  refine lv_goto (tgt := 1550) hx hb dL_1501 (by decide) ?_
  exact K H9 locs9 ⟨η, ζ, L, M, Θ, Ξ, h2, g2, hB, hN.keep k2, hNR, hH9, hG9, ⟨ea, er⟩, ⟨R2, fun f => w2 f⟩⟩ hS9
set_option maxHeartbeats 4000000 in
theorem lwc_3 {p : Program} {l : Launch} {e : Env} {s : State} {m : MethodId} {below : List Frame} {meth : Method} {c : Code} {b N : Nat} {xs : Nat → Int32} {Q : State → Prop} {H : Heap} {locs : List Loc} {cells slots : Nat} {ls : Array Slot} {qa qr i : Nat} {D : va_G} {cy : Nat → ClassId} {tb adK adV : Nat → Nat} {fv : Option Nat} (X : lwX l p s m meth c b N xs D cy tb adK adV fv) (hi : i + 6 ≤ N) (hI : lwI lwF s D cy adK qa qr H) (hS : va_S (fun q => s.heap.size ≤ q) s.heap H locs) (hcs : cells ≤ 600000 ∧ slots ≤ 7302250) (hl : lwL ls qa qr i b)
    (K : ∀ (H1 : Heap) (locs1 : List Loc), lwI lwF s D cy adK qa qr H1 → va_S (fun q => s.heap.size ≤ q) s.heap H1 locs1 → W p l e room_1 s m #[Value.ref b] below meth c H1 locs1 (cells) (slots) Q (F0 m 1550 ls [])) : W p l e room_1 s m #[Value.ref b] below meth c H locs cells slots Q (F0 m 295 ls []) := by
  obtain ⟨hx, hb, -, -, -, -, -, -, -, -⟩ := id X.1
  obtain ⟨η, ζ, L, M, Θ, Ξ, h, g, hB, hN, hNR, hH, hG, ⟨ea, er⟩, ⟨R, RP⟩⟩ := hI
  obtain ⟨bb, bm, bl, -⟩ := cT_b hH hN.2.2.2.1 R
  obtain ⟨gb, g1, g4⟩ := rBd_of hG hNR
  obtain ⟨v, h2, g2, e1, e2, R2, kk⟩ := RR_fault (n := 6) (m := 6) (x := (xs (i + 1)).toInt) R bl bm.2
  have k2 : ∀ k, h2 2 k = h 2 k := fun k => kk 2 k
  have w2 : lwF → cW h2 g2 := fun f => ((RP f).c ((RP f).p.fr (fun a j _ => kk a j)) ((RP f).2.2.fr (fun a j _ => kk a j))).r (frK_fault R.2.1 e2)
  refine lv_aload_n hx hb dL_295 rfl (lv_at hl 2 rfl) ?_
  refine lw_arg X.1 X.2.1 hS hl 1 hi (by decide) (by decide +kernel) dL_296 dL_297 dL_298 dL_299 dL_300 ?_
  refine lwCf (As := [(xs (i + 1)).toInt]) X (m_X11_fault l) (ycv_of yw_X11_fault 28 dL_301 zlL_28 rfl (by decide +kernel) (by decide +kernel) (zk_ex (kk := 63) (ts := [0]) _ _ rfl (zkK ⟨63, by decide⟩) rfl rfl rfl)) rfl (fun _ hx => by
      simp only [List.mem_cons, List.not_mem_nil, or_false] at hx
      rcases hx with rfl <;> exact ⟨z_lo _, z_hi _⟩) hB hN hH hG ea e1 hS hcs hl (rest := []) (by decide) (by simp only [List.map_cons, List.map_nil, List.reverse_cons, List.reverse_nil, List.nil_append, List.cons_append, z_ofi]) (fun H8 locs8 hH8 hG8 hS8 => ?_)
  refine lv_pop hx hb dL_304 rfl ?_
  refine lv_aload_n hx hb dL_305 rfl (lv_at hl 1 rfl) ?_
  refine lw_arg X.1 X.2.1 hS8 hl 1 hi (by decide) (by decide +kernel) dL_306 dL_307 dL_308 dL_309 dL_310 ?_
  refine lwRf (As := [(xs (i + 1)).toInt]) X (m_X12_fault l) (ycv_of yw_X12_fault 31 dL_311 zlL_31 rfl (by decide +kernel) (by decide +kernel) (zk_ex (kk := 35) (ts := [0]) _ _ rfl (zkR ⟨35, by decide⟩) rfl rfl rfl)) rfl (fun _ hx => by
      simp only [List.mem_cons, List.not_mem_nil, or_false] at hx
      rcases hx with rfl <;> exact ⟨z_lo _, z_hi _⟩) hB hNR hH8 hG8 er e2 hS8 hcs hl (rest := []) (by decide) (by simp only [List.map_cons, List.map_nil, List.reverse_cons, List.reverse_nil, List.nil_append, List.cons_append, z_ofi]) (fun H9 locs9 hH9 hG9 hS9 => ?_)
  refine lv_pop hx hb dL_314 rfl ?_
  refine lv_goto (tgt := 1550) hx hb dL_315 (by decide) ?_
  exact K H9 locs9 ⟨η, ζ, L, M, Θ, Ξ, h2, g2, hB, hN.keep k2, hNR, hH9, hG9, ⟨ea, er⟩, ⟨R2, fun f => w2 f⟩⟩ hS9
set_option maxHeartbeats 4000000 in
theorem lwc_4 {p : Program} {l : Launch} {e : Env} {s : State} {m : MethodId} {below : List Frame} {meth : Method} {c : Code} {b N : Nat} {xs : Nat → Int32} {Q : State → Prop} {H : Heap} {locs : List Loc} {cells slots : Nat} {ls : Array Slot} {qa qr i : Nat} {D : va_G} {cy : Nat → ClassId} {tb adK adV : Nat → Nat} {fv : Option Nat} (X : lwX l p s m meth c b N xs D cy tb adK adV fv) (hi : i + 6 ≤ N) (hI : lwI lwF s D cy adK qa qr H) (hS : va_S (fun q => s.heap.size ≤ q) s.heap H locs) (hcs : cells ≤ 600000 ∧ slots ≤ 7302250) (hl : lwL ls qa qr i b)
    (K : ∀ (H1 : Heap) (locs1 : List Loc), lwI lwF s D cy adK qa qr H1 → va_S (fun q => s.heap.size ≤ q) s.heap H1 locs1 → W p l e room_1 s m #[Value.ref b] below meth c H1 locs1 (cells) (slots) Q (F0 m 1550 ls [])) : W p l e room_1 s m #[Value.ref b] below meth c H locs cells slots Q (F0 m 318 ls []) := by
  obtain ⟨hx, hb, -, -, -, -, -, -, -, -⟩ := id X.1
  obtain ⟨η, ζ, L, M, Θ, Ξ, h, g, hB, hN, hNR, hH, hG, ⟨ea, er⟩, ⟨R, RP⟩⟩ := hI
  obtain ⟨bb, bm, bl, -⟩ := cT_b hH hN.2.2.2.1 R
  obtain ⟨gb, g1, g4⟩ := rBd_of hG hNR
  obtain ⟨v, h2, g2, e1, e2, R2, kk⟩ := RR_sea (n := 300) (m := 300) (x := (xs (i + 1)).toInt) (w := (xs (i + 2)).toInt) (by decide) R bl bm.2 (rQ_of hG hNR) g4
  have k2 : ∀ k, h2 2 k = h 2 k := fun k => kk 2 k
  have w2 : lwF → cW h2 g2 := fun f => ((RP f).c ((RP f).p.fr (fun a j _ => kk a j)) ((RP f).2.2.fr (fun a j _ => kk a j))).r (frK_sea (h := h) (by decide) R (rQ_of hG hNR) g4 e2)
  refine lv_aload_n hx hb dL_318 rfl (lv_at hl 2 rfl) ?_
  refine lw_arg X.1 X.2.1 hS hl 1 hi (by decide) (by decide +kernel) dL_319 dL_320 dL_321 dL_322 dL_323 ?_
  refine lw_arg X.1 X.2.1 hS hl 2 hi (by decide) (by decide +kernel) dL_324 dL_325 dL_326 dL_327 dL_328 ?_
  refine lwCf (As := [(xs (i + 1)).toInt, (xs (i + 2)).toInt]) X (m_X11_sea l) (ycv_of yw_X11_sea 32 dL_329 zlL_32 rfl (by decide +kernel) (by decide +kernel) (zk_ex (kk := 63) (ts := [0, 0]) _ _ rfl (zkK ⟨63, by decide⟩) rfl rfl rfl)) rfl (fun _ hx => by
      simp only [List.mem_cons, List.not_mem_nil, or_false] at hx
      rcases hx with rfl | rfl <;> exact ⟨z_lo _, z_hi _⟩) hB hN hH hG ea e1 hS hcs hl (rest := []) (by decide) (by simp only [List.map_cons, List.map_nil, List.reverse_cons, List.reverse_nil, List.nil_append, List.cons_append, z_ofi]) (fun H8 locs8 hH8 hG8 hS8 => ?_)
  refine lv_pop hx hb dL_332 rfl ?_
  refine lv_aload_n hx hb dL_333 rfl (lv_at hl 1 rfl) ?_
  refine lw_arg X.1 X.2.1 hS8 hl 1 hi (by decide) (by decide +kernel) dL_334 dL_335 dL_336 dL_337 dL_338 ?_
  refine lw_arg X.1 X.2.1 hS8 hl 2 hi (by decide) (by decide +kernel) dL_339 dL_340 dL_341 dL_342 dL_343 ?_
  refine lwRf (As := [(xs (i + 1)).toInt, (xs (i + 2)).toInt]) X (m_X12_sea l) (ycv_of yw_X12_sea 35 dL_344 zlL_35 rfl (by decide +kernel) (by decide +kernel) (zk_ex (kk := 35) (ts := [0, 0]) _ _ rfl (zkR ⟨35, by decide⟩) rfl rfl rfl)) rfl (fun _ hx => by
      simp only [List.mem_cons, List.not_mem_nil, or_false] at hx
      rcases hx with rfl | rfl <;> exact ⟨z_lo _, z_hi _⟩) hB hNR hH8 hG8 er e2 hS8 hcs hl (rest := []) (by decide) (by simp only [List.map_cons, List.map_nil, List.reverse_cons, List.reverse_nil, List.nil_append, List.cons_append, z_ofi]) (fun H9 locs9 hH9 hG9 hS9 => ?_)
  refine lv_pop hx hb dL_347 rfl ?_
  refine lv_goto (tgt := 1550) hx hb dL_348 (by decide) ?_
  exact K H9 locs9 ⟨η, ζ, L, M, Θ, Ξ, h2, g2, hB, hN.keep k2, hNR, hH9, hG9, ⟨ea, er⟩, ⟨R2, fun f => w2 f⟩⟩ hS9
set_option maxHeartbeats 4000000 in
theorem lwc_5 {p : Program} {l : Launch} {e : Env} {s : State} {m : MethodId} {below : List Frame} {meth : Method} {c : Code} {b N : Nat} {xs : Nat → Int32} {Q : State → Prop} {H : Heap} {locs : List Loc} {cells slots : Nat} {ls : Array Slot} {qa qr i : Nat} {D : va_G} {cy : Nat → ClassId} {tb adK adV : Nat → Nat} {fv : Option Nat} (X : lwX l p s m meth c b N xs D cy tb adK adV fv) (hi : i + 6 ≤ N) (hI : lwI lwF s D cy adK qa qr H) (hS : va_S (fun q => s.heap.size ≤ q) s.heap H locs) (hcs : cells ≤ 600000 ∧ slots ≤ 7302250) (hl : lwL ls qa qr i b)
    (K : ∀ (H1 : Heap) (locs1 : List Loc), lwI lwF s D cy adK qa qr H1 → va_S (fun q => s.heap.size ≤ q) s.heap H1 locs1 → W p l e room_1 s m #[Value.ref b] below meth c H1 locs1 (cells) (slots) Q (F0 m 1550 ls [])) : W p l e room_1 s m #[Value.ref b] below meth c H locs cells slots Q (F0 m 351 ls []) := by
  obtain ⟨hx, hb, -, -, -, -, -, -, -, -⟩ := id X.1
  obtain ⟨η, ζ, L, M, Θ, Ξ, h, g, hB, hN, hNR, hH, hG, ⟨ea, er⟩, ⟨R, RP⟩⟩ := hI
  obtain ⟨bb, bm, bl, -⟩ := cT_b hH hN.2.2.2.1 R
  obtain ⟨gb, g1, g4⟩ := rBd_of hG hNR
  obtain ⟨v, h2, g2, e1, e2, R2, kk⟩ := RR_shoal (n := 300) (m := 300) (x := (xs (i + 1)).toInt) (k := (xs (i + 2)).toInt) (w := (xs (i + 3)).toInt) (by decide) R bl bm.2 (rQ_of hG hNR) g4
  have k2 : ∀ k, h2 2 k = h 2 k := fun k => kk 2 k
  have w2 : lwF → cW h2 g2 := fun f => ((RP f).c ((RP f).p.fr (fun a j _ => kk a j)) ((RP f).2.2.fr (fun a j _ => kk a j))).r (frK_shoal (h := h) (by decide) R (rQ_of hG hNR) g4 e2)
  refine lv_aload_n hx hb dL_351 rfl (lv_at hl 2 rfl) ?_
  refine lw_arg X.1 X.2.1 hS hl 1 hi (by decide) (by decide +kernel) dL_352 dL_353 dL_354 dL_355 dL_356 ?_
  refine lw_arg X.1 X.2.1 hS hl 2 hi (by decide) (by decide +kernel) dL_357 dL_358 dL_359 dL_360 dL_361 ?_
  refine lw_arg X.1 X.2.1 hS hl 3 hi (by decide) (by decide +kernel) dL_362 dL_363 dL_364 dL_365 dL_366 ?_
  refine lwCf (As := [(xs (i + 1)).toInt, (xs (i + 2)).toInt, (xs (i + 3)).toInt]) X (m_X11_shoal l) (ycv_of yw_X11_shoal 36 dL_367 zlL_36 rfl (by decide +kernel) (by decide +kernel) (zk_ex (kk := 63) (ts := [0, 0, 0]) _ _ rfl (zkK ⟨63, by decide⟩) rfl rfl rfl)) rfl (fun _ hx => by
      simp only [List.mem_cons, List.not_mem_nil, or_false] at hx
      rcases hx with rfl | rfl | rfl <;> exact ⟨z_lo _, z_hi _⟩) hB hN hH hG ea e1 hS hcs hl (rest := []) (by decide) (by simp only [List.map_cons, List.map_nil, List.reverse_cons, List.reverse_nil, List.nil_append, List.cons_append, z_ofi]) (fun H8 locs8 hH8 hG8 hS8 => ?_)
  refine lv_pop hx hb dL_370 rfl ?_
  refine lv_aload_n hx hb dL_371 rfl (lv_at hl 1 rfl) ?_
  refine lw_arg X.1 X.2.1 hS8 hl 1 hi (by decide) (by decide +kernel) dL_372 dL_373 dL_374 dL_375 dL_376 ?_
  refine lw_arg X.1 X.2.1 hS8 hl 2 hi (by decide) (by decide +kernel) dL_377 dL_378 dL_379 dL_380 dL_381 ?_
  refine lw_arg X.1 X.2.1 hS8 hl 3 hi (by decide) (by decide +kernel) dL_382 dL_383 dL_384 dL_385 dL_386 ?_
  refine lwRf (As := [(xs (i + 1)).toInt, (xs (i + 2)).toInt, (xs (i + 3)).toInt]) X (m_X12_shoal l) (ycv_of yw_X12_shoal 40 dL_387 zlL_40 rfl (by decide +kernel) (by decide +kernel) (zk_ex (kk := 35) (ts := [0, 0, 0]) _ _ rfl (zkR ⟨35, by decide⟩) rfl rfl rfl)) rfl (fun _ hx => by
      simp only [List.mem_cons, List.not_mem_nil, or_false] at hx
      rcases hx with rfl | rfl | rfl <;> exact ⟨z_lo _, z_hi _⟩) hB hNR hH8 hG8 er e2 hS8 hcs hl (rest := []) (by decide) (by simp only [List.map_cons, List.map_nil, List.reverse_cons, List.reverse_nil, List.nil_append, List.cons_append, z_ofi]) (fun H9 locs9 hH9 hG9 hS9 => ?_)
  refine lv_pop hx hb dL_390 rfl ?_
  refine lv_goto (tgt := 1550) hx hb dL_391 (by decide) ?_
  exact K H9 locs9 ⟨η, ζ, L, M, Θ, Ξ, h2, g2, hB, hN.keep k2, hNR, hH9, hG9, ⟨ea, er⟩, ⟨R2, fun f => w2 f⟩⟩ hS9
set_option maxHeartbeats 4000000 in
theorem lwc_6 {p : Program} {l : Launch} {e : Env} {s : State} {m : MethodId} {below : List Frame} {meth : Method} {c : Code} {b N : Nat} {xs : Nat → Int32} {Q : State → Prop} {H : Heap} {locs : List Loc} {cells slots : Nat} {ls : Array Slot} {qa qr i : Nat} {D : va_G} {cy : Nat → ClassId} {tb adK adV : Nat → Nat} {fv : Option Nat} (X : lwX l p s m meth c b N xs D cy tb adK adV fv) (hi : i + 6 ≤ N) (hI : lwI lwF s D cy adK qa qr H) (hS : va_S (fun q => s.heap.size ≤ q) s.heap H locs) (hcs : cells ≤ 600000 ∧ slots ≤ 7302250) (hl : lwL ls qa qr i b)
    (K : ∀ (H1 : Heap) (locs1 : List Loc), lwI lwF s D cy adK qa qr H1 → va_S (fun q => s.heap.size ≤ q) s.heap H1 locs1 → W p l e room_1 s m #[Value.ref b] below meth c H1 locs1 (cells) (slots) Q (F0 m 1550 ls [])) : W p l e room_1 s m #[Value.ref b] below meth c H locs cells slots Q (F0 m 394 ls []) := by
  obtain ⟨hx, hb, -, -, -, -, -, -, -, -⟩ := id X.1
  obtain ⟨η, ζ, L, M, Θ, Ξ, h, g, hB, hN, hNR, hH, hG, ⟨ea, er⟩, ⟨R, RP⟩⟩ := hI
  obtain ⟨bb, bm, bl, -⟩ := cT_b hH hN.2.2.2.1 R
  obtain ⟨gb, g1, g4⟩ := rBd_of hG hNR
  obtain ⟨v, h2, g2, e1, e2, R2, kk⟩ := RR_boat (n := 300) (m := 300) (x := (xs (i + 1)).toInt) (k := (xs (i + 2)).toInt) (w := (xs (i + 3)).toInt) (by decide) R bl bm.2 (rQ_of hG hNR) g4
  have k2 : ∀ k, h2 2 k = h 2 k := fun k => kk 2 k
  have w2 : lwF → cW h2 g2 := fun f => ((RP f).c ((RP f).p.fr (fun a j _ => kk a j)) ((RP f).2.2.fr (fun a j _ => kk a j))).r (frK_boat (h := h) (by decide) R (rQ_of hG hNR) g4 e2)
  refine lv_aload_n hx hb dL_394 rfl (lv_at hl 2 rfl) ?_
  refine lw_arg X.1 X.2.1 hS hl 1 hi (by decide) (by decide +kernel) dL_395 dL_396 dL_397 dL_398 dL_399 ?_
  refine lw_arg X.1 X.2.1 hS hl 2 hi (by decide) (by decide +kernel) dL_400 dL_401 dL_402 dL_403 dL_404 ?_
  refine lw_arg X.1 X.2.1 hS hl 3 hi (by decide) (by decide +kernel) dL_405 dL_406 dL_407 dL_408 dL_409 ?_
  refine lwCf (As := [(xs (i + 1)).toInt, (xs (i + 2)).toInt, (xs (i + 3)).toInt]) X (m_X11_boat l) (ycv_of yw_X11_boat 41 dL_410 zlL_41 rfl (by decide +kernel) (by decide +kernel) (zk_ex (kk := 63) (ts := [0, 0, 0]) _ _ rfl (zkK ⟨63, by decide⟩) rfl rfl rfl)) rfl (fun _ hx => by
      simp only [List.mem_cons, List.not_mem_nil, or_false] at hx
      rcases hx with rfl | rfl | rfl <;> exact ⟨z_lo _, z_hi _⟩) hB hN hH hG ea e1 hS hcs hl (rest := []) (by decide) (by simp only [List.map_cons, List.map_nil, List.reverse_cons, List.reverse_nil, List.nil_append, List.cons_append, z_ofi]) (fun H8 locs8 hH8 hG8 hS8 => ?_)
  refine lv_pop hx hb dL_413 rfl ?_
  refine lv_aload_n hx hb dL_414 rfl (lv_at hl 1 rfl) ?_
  refine lw_arg X.1 X.2.1 hS8 hl 1 hi (by decide) (by decide +kernel) dL_415 dL_416 dL_417 dL_418 dL_419 ?_
  refine lw_arg X.1 X.2.1 hS8 hl 2 hi (by decide) (by decide +kernel) dL_420 dL_421 dL_422 dL_423 dL_424 ?_
  refine lw_arg X.1 X.2.1 hS8 hl 3 hi (by decide) (by decide +kernel) dL_425 dL_426 dL_427 dL_428 dL_429 ?_
  refine lwRf (As := [(xs (i + 1)).toInt, (xs (i + 2)).toInt, (xs (i + 3)).toInt]) X (m_X12_boat l) (ycv_of yw_X12_boat 44 dL_430 zlL_44 rfl (by decide +kernel) (by decide +kernel) (zk_ex (kk := 35) (ts := [0, 0, 0]) _ _ rfl (zkR ⟨35, by decide⟩) rfl rfl rfl)) rfl (fun _ hx => by
      simp only [List.mem_cons, List.not_mem_nil, or_false] at hx
      rcases hx with rfl | rfl | rfl <;> exact ⟨z_lo _, z_hi _⟩) hB hNR hH8 hG8 er e2 hS8 hcs hl (rest := []) (by decide) (by simp only [List.map_cons, List.map_nil, List.reverse_cons, List.reverse_nil, List.nil_append, List.cons_append, z_ofi]) (fun H9 locs9 hH9 hG9 hS9 => ?_)
  refine lv_pop hx hb dL_433 rfl ?_
  refine lv_goto (tgt := 1550) hx hb dL_434 (by decide) ?_
  exact K H9 locs9 ⟨η, ζ, L, M, Θ, Ξ, h2, g2, hB, hN.keep k2, hNR, hH9, hG9, ⟨ea, er⟩, ⟨R2, fun f => w2 f⟩⟩ hS9
set_option maxHeartbeats 4000000 in
theorem lwc_7 {p : Program} {l : Launch} {e : Env} {s : State} {m : MethodId} {below : List Frame} {meth : Method} {c : Code} {b N : Nat} {xs : Nat → Int32} {Q : State → Prop} {H : Heap} {locs : List Loc} {cells slots : Nat} {ls : Array Slot} {qa qr i : Nat} {D : va_G} {cy : Nat → ClassId} {tb adK adV : Nat → Nat} {fv : Option Nat} (X : lwX l p s m meth c b N xs D cy tb adK adV fv) (hi : i + 6 ≤ N) (hI : lwI lwF s D cy adK qa qr H) (hS : va_S (fun q => s.heap.size ≤ q) s.heap H locs) (hcs : cells ≤ 600000 ∧ slots ≤ 7302250) (hl : lwL ls qa qr i b)
    (K : ∀ (H1 : Heap) (locs1 : List Loc), lwI lwF s D cy adK qa qr H1 → va_S (fun q => s.heap.size ≤ q) s.heap H1 locs1 → W p l e room_1 s m #[Value.ref b] below meth c H1 locs1 (cells) (slots) Q (F0 m 1550 ls [])) : W p l e room_1 s m #[Value.ref b] below meth c H locs cells slots Q (F0 m 437 ls []) := by
  obtain ⟨hx, hb, -, -, -, -, -, -, -, -⟩ := id X.1
  obtain ⟨η, ζ, L, M, Θ, Ξ, h, g, hB, hN, hNR, hH, hG, ⟨ea, er⟩, ⟨R, RP⟩⟩ := hI
  obtain ⟨bb, bm, bl, -⟩ := cT_b hH hN.2.2.2.1 R
  obtain ⟨gb, g1, g4⟩ := rBd_of hG hNR
  obtain ⟨v, h2, g2, e1, e2, R2, kk⟩ := RR_far (n := 300) (m := 300) (x := (xs (i + 1)).toInt) (k := (xs (i + 2)).toInt) (w := (xs (i + 3)).toInt) (by decide) R bl bm.2 (rQ_of hG hNR) g4
  have k2 : ∀ k, h2 2 k = h 2 k := fun k => kk 2 k
  have w2 : lwF → cW h2 g2 := fun f => ((RP f).c ((RP f).p.fr (fun a j _ => kk a j)) ((RP f).2.2.fr (fun a j _ => kk a j))).r (frK_far (h := h) (by decide) R (rQ_of hG hNR) g4 e2)
  refine lv_aload_n hx hb dL_437 rfl (lv_at hl 2 rfl) ?_
  refine lw_arg X.1 X.2.1 hS hl 1 hi (by decide) (by decide +kernel) dL_438 dL_439 dL_440 dL_441 dL_442 ?_
  refine lw_arg X.1 X.2.1 hS hl 2 hi (by decide) (by decide +kernel) dL_443 dL_444 dL_445 dL_446 dL_447 ?_
  refine lw_arg X.1 X.2.1 hS hl 3 hi (by decide) (by decide +kernel) dL_448 dL_449 dL_450 dL_451 dL_452 ?_
  refine lwCf (As := [(xs (i + 1)).toInt, (xs (i + 2)).toInt, (xs (i + 3)).toInt]) X (m_X11_far l) (ycv_of yw_X11_far 45 dL_453 zlL_45 rfl (by decide +kernel) (by decide +kernel) (zk_ex (kk := 63) (ts := [0, 0, 0]) _ _ rfl (zkK ⟨63, by decide⟩) rfl rfl rfl)) rfl (fun _ hx => by
      simp only [List.mem_cons, List.not_mem_nil, or_false] at hx
      rcases hx with rfl | rfl | rfl <;> exact ⟨z_lo _, z_hi _⟩) hB hN hH hG ea e1 hS hcs hl (rest := []) (by decide) (by simp only [List.map_cons, List.map_nil, List.reverse_cons, List.reverse_nil, List.nil_append, List.cons_append, z_ofi]) (fun H8 locs8 hH8 hG8 hS8 => ?_)
  refine lv_pop hx hb dL_456 rfl ?_
  refine lv_aload_n hx hb dL_457 rfl (lv_at hl 1 rfl) ?_
  refine lw_arg X.1 X.2.1 hS8 hl 1 hi (by decide) (by decide +kernel) dL_458 dL_459 dL_460 dL_461 dL_462 ?_
  refine lw_arg X.1 X.2.1 hS8 hl 2 hi (by decide) (by decide +kernel) dL_463 dL_464 dL_465 dL_466 dL_467 ?_
  refine lw_arg X.1 X.2.1 hS8 hl 3 hi (by decide) (by decide +kernel) dL_468 dL_469 dL_470 dL_471 dL_472 ?_
  refine lwRf (As := [(xs (i + 1)).toInt, (xs (i + 2)).toInt, (xs (i + 3)).toInt]) X (m_X12_far l) (ycv_of yw_X12_far 48 dL_473 zlL_48 rfl (by decide +kernel) (by decide +kernel) (zk_ex (kk := 35) (ts := [0, 0, 0]) _ _ rfl (zkR ⟨35, by decide⟩) rfl rfl rfl)) rfl (fun _ hx => by
      simp only [List.mem_cons, List.not_mem_nil, or_false] at hx
      rcases hx with rfl | rfl | rfl <;> exact ⟨z_lo _, z_hi _⟩) hB hNR hH8 hG8 er e2 hS8 hcs hl (rest := []) (by decide) (by simp only [List.map_cons, List.map_nil, List.reverse_cons, List.reverse_nil, List.nil_append, List.cons_append, z_ofi]) (fun H9 locs9 hH9 hG9 hS9 => ?_)
  refine lv_pop hx hb dL_476 rfl ?_
  refine lv_goto (tgt := 1550) hx hb dL_477 (by decide) ?_
  exact K H9 locs9 ⟨η, ζ, L, M, Θ, Ξ, h2, g2, hB, hN.keep k2, hNR, hH9, hG9, ⟨ea, er⟩, ⟨R2, fun f => w2 f⟩⟩ hS9
set_option maxHeartbeats 4000000 in
theorem lwc_8 {p : Program} {l : Launch} {e : Env} {s : State} {m : MethodId} {below : List Frame} {meth : Method} {c : Code} {b N : Nat} {xs : Nat → Int32} {Q : State → Prop} {H : Heap} {locs : List Loc} {cells slots : Nat} {ls : Array Slot} {qa qr i : Nat} {D : va_G} {cy : Nat → ClassId} {tb adK adV : Nat → Nat} {fv : Option Nat} (X : lwX l p s m meth c b N xs D cy tb adK adV fv) (hi : i + 6 ≤ N) (hI : lwI lwF s D cy adK qa qr H) (hS : va_S (fun q => s.heap.size ≤ q) s.heap H locs) (hcs : cells ≤ 600000 ∧ slots ≤ 7302250) (hl : lwL ls qa qr i b)
    (K : ∀ (H1 : Heap) (locs1 : List Loc), lwI lwF s D cy adK qa qr H1 → va_S (fun q => s.heap.size ≤ q) s.heap H1 locs1 → W p l e room_1 s m #[Value.ref b] below meth c H1 locs1 (cells) (slots) Q (F0 m 1550 ls [])) : W p l e room_1 s m #[Value.ref b] below meth c H locs cells slots Q (F0 m 480 ls []) := by
  obtain ⟨hx, hb, -, -, -, -, -, -, -, -⟩ := id X.1
  obtain ⟨η, ζ, L, M, Θ, Ξ, h, g, hB, hN, hNR, hH, hG, ⟨ea, er⟩, ⟨R, RP⟩⟩ := hI
  obtain ⟨bb, bm, bl, -⟩ := cT_b hH hN.2.2.2.1 R
  obtain ⟨gb, g1, g4⟩ := rBd_of hG hNR
  obtain ⟨v, v2, h2, g2, e1, e2, R2, kk, kw⟩ := RR_hears (n := 60) (m := 800) (x := (xs (i + 1)).toInt) (y := (xs (i + 2)).toInt) (z := (xs (i + 3)).toInt) (by decide) (by decide) R (RP trivial).p bl bm.2 (rQ_of hG hNR) g4
  have k2 : ∀ k, h2 2 k = h 2 k := fun k => kk 2 k
  have w2 : lwF → cW h2 g2 := fun f => ((RP f).c ((RP f).p.fr (fun a j _ => kk a j)) ((RP f).2.2.fr (fun a j _ => kk a j))).r kw
  refine lv_aload_n hx hb dL_480 rfl (lv_at hl 2 rfl) ?_
  refine lw_arg X.1 X.2.1 hS hl 1 hi (by decide) (by decide +kernel) dL_481 dL_482 dL_483 dL_484 dL_485 ?_
  refine lw_arg X.1 X.2.1 hS hl 2 hi (by decide) (by decide +kernel) dL_486 dL_487 dL_488 dL_489 dL_490 ?_
  refine lw_arg X.1 X.2.1 hS hl 3 hi (by decide) (by decide +kernel) dL_491 dL_492 dL_493 dL_494 dL_495 ?_
  refine lwCf (As := [(xs (i + 1)).toInt, (xs (i + 2)).toInt, (xs (i + 3)).toInt]) X (m_X11_hears l) (ycv_of yw_X11_hears 49 dL_496 zlL_49 rfl (by decide +kernel) (by decide +kernel) (zk_ex (kk := 63) (ts := [0, 0, 0]) _ _ rfl (zkK ⟨63, by decide⟩) rfl rfl rfl)) rfl (fun _ hx => by
      simp only [List.mem_cons, List.not_mem_nil, or_false] at hx
      rcases hx with rfl | rfl | rfl <;> exact ⟨z_lo _, z_hi _⟩) hB hN hH hG ea e1 hS hcs hl (rest := []) (by decide) (by simp only [List.map_cons, List.map_nil, List.reverse_cons, List.reverse_nil, List.nil_append, List.cons_append, z_ofi]) (fun H8 locs8 hH8 hG8 hS8 => ?_)
  refine lv_pop hx hb dL_499 rfl ?_
  refine lv_aload_n hx hb dL_500 rfl (lv_at hl 1 rfl) ?_
  refine lw_arg X.1 X.2.1 hS8 hl 1 hi (by decide) (by decide +kernel) dL_501 dL_502 dL_503 dL_504 dL_505 ?_
  refine lw_arg X.1 X.2.1 hS8 hl 2 hi (by decide) (by decide +kernel) dL_506 dL_507 dL_508 dL_509 dL_510 ?_
  refine lw_arg X.1 X.2.1 hS8 hl 3 hi (by decide) (by decide +kernel) dL_511 dL_512 dL_513 dL_514 dL_515 ?_
  refine lwRf (As := [(xs (i + 1)).toInt, (xs (i + 2)).toInt, (xs (i + 3)).toInt]) X (m_X12_hears l) (ycv_of yw_X12_hears 52 dL_516 zlL_52 rfl (by decide +kernel) (by decide +kernel) (zk_ex (kk := 35) (ts := [0, 0, 0]) _ _ rfl (zkR ⟨35, by decide⟩) rfl rfl rfl)) rfl (fun _ hx => by
      simp only [List.mem_cons, List.not_mem_nil, or_false] at hx
      rcases hx with rfl | rfl | rfl <;> exact ⟨z_lo _, z_hi _⟩) hB hNR hH8 hG8 er e2 hS8 hcs hl (rest := []) (by decide) (by simp only [List.map_cons, List.map_nil, List.reverse_cons, List.reverse_nil, List.nil_append, List.cons_append, z_ofi]) (fun H9 locs9 hH9 hG9 hS9 => ?_)
  refine lv_pop hx hb dL_519 rfl ?_
  refine lv_goto (tgt := 1550) hx hb dL_520 (by decide) ?_
  exact K H9 locs9 ⟨η, ζ, L, M, Θ, Ξ, h2, g2, hB, hN.keep k2, hNR, hH9, hG9, ⟨ea, er⟩, ⟨R2, fun f => w2 f⟩⟩ hS9
set_option maxHeartbeats 4000000 in
theorem lwc_9 {p : Program} {l : Launch} {e : Env} {s : State} {m : MethodId} {below : List Frame} {meth : Method} {c : Code} {b N : Nat} {xs : Nat → Int32} {Q : State → Prop} {H : Heap} {locs : List Loc} {cells slots : Nat} {ls : Array Slot} {qa qr i : Nat} {D : va_G} {cy : Nat → ClassId} {tb adK adV : Nat → Nat} {fv : Option Nat} (X : lwX l p s m meth c b N xs D cy tb adK adV fv) (hi : i + 6 ≤ N) (hI : lwI lwF s D cy adK qa qr H) (hS : va_S (fun q => s.heap.size ≤ q) s.heap H locs) (hcs : cells ≤ 600000 ∧ slots ≤ 7302250) (hl : lwL ls qa qr i b)
    (K : ∀ (H1 : Heap) (locs1 : List Loc), lwI lwF s D cy adK qa qr H1 → va_S (fun q => s.heap.size ≤ q) s.heap H1 locs1 → W p l e room_1 s m #[Value.ref b] below meth c H1 locs1 (cells) (slots) Q (F0 m 1550 ls [])) : W p l e room_1 s m #[Value.ref b] below meth c H locs cells slots Q (F0 m 523 ls []) := by
  obtain ⟨hx, hb, -, -, -, -, -, -, -, -⟩ := id X.1
  obtain ⟨η, ζ, L, M, Θ, Ξ, h, g, hB, hN, hNR, hH, hG, ⟨ea, er⟩, ⟨R, RP⟩⟩ := hI
  obtain ⟨bb, bm, bl, -⟩ := cT_b hH hN.2.2.2.1 R
  obtain ⟨gb, g1, g4⟩ := rBd_of hG hNR
  obtain ⟨v, h2, g2, e1, e2, R2, kk⟩ := RR_loud (n := 300) (m := 300) (x := (xs (i + 1)).toInt) (by decide) (by decide) R (RP trivial).p.1 bl bm.2 (rQ_of hG hNR) g4
  have k2 : ∀ k, h2 2 k = h 2 k := fun k => kk 2 k
  have w2 : lwF → cW h2 g2 := fun f => ((RP f).c ((RP f).p.fr (fun a j _ => kk a j)) ((RP f).2.2.fr (fun a j _ => kk a j))).r (frK_loud (h := h) (by decide) R (rQ_of hG hNR) g4 e2)
  refine lv_aload_n hx hb dL_523 rfl (lv_at hl 2 rfl) ?_
  refine lw_arg X.1 X.2.1 hS hl 1 hi (by decide) (by decide +kernel) dL_524 dL_525 dL_526 dL_527 dL_528 ?_
  refine lwCf (As := [(xs (i + 1)).toInt]) X (m_X11_loud l) (ycv_of yw_X11_loud 53 dL_529 zlL_53 rfl (by decide +kernel) (by decide +kernel) (zk_ex (kk := 63) (ts := [0]) _ _ rfl (zkK ⟨63, by decide⟩) rfl rfl rfl)) rfl (fun _ hx => by
      simp only [List.mem_cons, List.not_mem_nil, or_false] at hx
      rcases hx with rfl <;> exact ⟨z_lo _, z_hi _⟩) hB hN hH hG ea e1 hS hcs hl (rest := []) (by decide) (by simp only [List.map_cons, List.map_nil, List.reverse_cons, List.reverse_nil, List.nil_append, List.cons_append, z_ofi]) (fun H8 locs8 hH8 hG8 hS8 => ?_)
  refine lv_pop hx hb dL_532 rfl ?_
  refine lv_aload_n hx hb dL_533 rfl (lv_at hl 1 rfl) ?_
  refine lw_arg X.1 X.2.1 hS8 hl 1 hi (by decide) (by decide +kernel) dL_534 dL_535 dL_536 dL_537 dL_538 ?_
  refine lwRf (As := [(xs (i + 1)).toInt]) X (m_X12_loud l) (ycv_of yw_X12_loud 56 dL_539 zlL_56 rfl (by decide +kernel) (by decide +kernel) (zk_ex (kk := 35) (ts := [0]) _ _ rfl (zkR ⟨35, by decide⟩) rfl rfl rfl)) rfl (fun _ hx => by
      simp only [List.mem_cons, List.not_mem_nil, or_false] at hx
      rcases hx with rfl <;> exact ⟨z_lo _, z_hi _⟩) hB hNR hH8 hG8 er e2 hS8 hcs hl (rest := []) (by decide) (by simp only [List.map_cons, List.map_nil, List.reverse_cons, List.reverse_nil, List.nil_append, List.cons_append, z_ofi]) (fun H9 locs9 hH9 hG9 hS9 => ?_)
  refine lv_pop hx hb dL_542 rfl ?_
  refine lv_goto (tgt := 1550) hx hb dL_543 (by decide) ?_
  exact K H9 locs9 ⟨η, ζ, L, M, Θ, Ξ, h2, g2, hB, hN.keep k2, hNR, hH9, hG9, ⟨ea, er⟩, ⟨R2, fun f => w2 f⟩⟩ hS9
set_option maxHeartbeats 4000000 in
theorem lwc_10 {p : Program} {l : Launch} {e : Env} {s : State} {m : MethodId} {below : List Frame} {meth : Method} {c : Code} {b N : Nat} {xs : Nat → Int32} {Q : State → Prop} {H : Heap} {locs : List Loc} {cells slots : Nat} {ls : Array Slot} {qa qr i : Nat} {D : va_G} {cy : Nat → ClassId} {tb adK adV : Nat → Nat} {fv : Option Nat} (X : lwX l p s m meth c b N xs D cy tb adK adV fv) (hi : i + 6 ≤ N) (hI : lwI lwF s D cy adK qa qr H) (hS : va_S (fun q => s.heap.size ≤ q) s.heap H locs) (hcs : cells ≤ 600000 ∧ slots ≤ 7302250) (hl : lwL ls qa qr i b)
    (K : ∀ (H1 : Heap) (locs1 : List Loc), lwI lwF s D cy adK qa qr H1 → va_S (fun q => s.heap.size ≤ q) s.heap H1 locs1 → W p l e room_1 s m #[Value.ref b] below meth c H1 locs1 (cells) (slots) Q (F0 m 1550 ls [])) : W p l e room_1 s m #[Value.ref b] below meth c H locs cells slots Q (F0 m 546 ls []) := by
  obtain ⟨hx, hb, -, -, -, -, -, -, -, -⟩ := id X.1
  obtain ⟨η, ζ, L, M, Θ, Ξ, h, g, hB, hN, hNR, hH, hG, ⟨ea, er⟩, ⟨R, RP⟩⟩ := hI
  obtain ⟨bb, bm, bl, -⟩ := cT_b hH hN.2.2.2.1 R
  obtain ⟨gb, g1, g4⟩ := rBd_of hG hNR
  obtain ⟨v, h2, g2, e1, e2, R2, kk⟩ := RR_deed (n := 300) (m := 300) (x := (xs (i + 1)).toInt) (k := (xs (i + 2)).toInt) (w := (xs (i + 3)).toInt) R bl bm.2 g4
  have k2 : ∀ k, h2 2 k = h 2 k := fun k => kk 2 k
  have w2 : lwF → cW h2 g2 := fun f => ((RP f).c ((RP f).p.fr (fun a j _ => kk a j)) ((RP f).2.2.fr (fun a j _ => kk a j))).r (frK_deed R g4 e2)
  refine lv_aload_n hx hb dL_546 rfl (lv_at hl 2 rfl) ?_
  refine lw_arg X.1 X.2.1 hS hl 1 hi (by decide) (by decide +kernel) dL_547 dL_548 dL_549 dL_550 dL_551 ?_
  refine lw_arg X.1 X.2.1 hS hl 2 hi (by decide) (by decide +kernel) dL_552 dL_553 dL_554 dL_555 dL_556 ?_
  refine lw_arg X.1 X.2.1 hS hl 3 hi (by decide) (by decide +kernel) dL_557 dL_558 dL_559 dL_560 dL_561 ?_
  refine lwCf (As := [(xs (i + 1)).toInt, (xs (i + 2)).toInt, (xs (i + 3)).toInt]) X (m_X11_deed l) (ycv_of yw_X11_deed 57 dL_562 zlL_57 rfl (by decide +kernel) (by decide +kernel) (zk_ex (kk := 63) (ts := [0, 0, 0]) _ _ rfl (zkK ⟨63, by decide⟩) rfl rfl rfl)) rfl (fun _ hx => by
      simp only [List.mem_cons, List.not_mem_nil, or_false] at hx
      rcases hx with rfl | rfl | rfl <;> exact ⟨z_lo _, z_hi _⟩) hB hN hH hG ea e1 hS hcs hl (rest := []) (by decide) (by simp only [List.map_cons, List.map_nil, List.reverse_cons, List.reverse_nil, List.nil_append, List.cons_append, z_ofi]) (fun H8 locs8 hH8 hG8 hS8 => ?_)
  refine lv_pop hx hb dL_565 rfl ?_
  refine lv_aload_n hx hb dL_566 rfl (lv_at hl 1 rfl) ?_
  refine lw_arg X.1 X.2.1 hS8 hl 1 hi (by decide) (by decide +kernel) dL_567 dL_568 dL_569 dL_570 dL_571 ?_
  refine lw_arg X.1 X.2.1 hS8 hl 2 hi (by decide) (by decide +kernel) dL_572 dL_573 dL_574 dL_575 dL_576 ?_
  refine lw_arg X.1 X.2.1 hS8 hl 3 hi (by decide) (by decide +kernel) dL_577 dL_578 dL_579 dL_580 dL_581 ?_
  refine lwRf (As := [(xs (i + 1)).toInt, (xs (i + 2)).toInt, (xs (i + 3)).toInt]) X (m_X12_deed l) (ycv_of yw_X12_deed 60 dL_582 zlL_60 rfl (by decide +kernel) (by decide +kernel) (zk_ex (kk := 35) (ts := [0, 0, 0]) _ _ rfl (zkR ⟨35, by decide⟩) rfl rfl rfl)) rfl (fun _ hx => by
      simp only [List.mem_cons, List.not_mem_nil, or_false] at hx
      rcases hx with rfl | rfl | rfl <;> exact ⟨z_lo _, z_hi _⟩) hB hNR hH8 hG8 er e2 hS8 hcs hl (rest := []) (by decide) (by simp only [List.map_cons, List.map_nil, List.reverse_cons, List.reverse_nil, List.nil_append, List.cons_append, z_ofi]) (fun H9 locs9 hH9 hG9 hS9 => ?_)
  refine lv_pop hx hb dL_585 rfl ?_
  refine lv_goto (tgt := 1550) hx hb dL_586 (by decide) ?_
  exact K H9 locs9 ⟨η, ζ, L, M, Θ, Ξ, h2, g2, hB, hN.keep k2, hNR, hH9, hG9, ⟨ea, er⟩, ⟨R2, fun f => w2 f⟩⟩ hS9
set_option maxHeartbeats 4000000 in
theorem lwc_11 {p : Program} {l : Launch} {e : Env} {s : State} {m : MethodId} {below : List Frame} {meth : Method} {c : Code} {b N : Nat} {xs : Nat → Int32} {Q : State → Prop} {H : Heap} {locs : List Loc} {cells slots : Nat} {ls : Array Slot} {qa qr i : Nat} {D : va_G} {cy : Nat → ClassId} {tb adK adV : Nat → Nat} {fv : Option Nat} (X : lwX l p s m meth c b N xs D cy tb adK adV fv) (hi : i + 6 ≤ N) (hI : lwI lwF s D cy adK qa qr H) (hS : va_S (fun q => s.heap.size ≤ q) s.heap H locs) (hcs : cells ≤ 600000 ∧ slots ≤ 7302250) (hl : lwL ls qa qr i b)
    (K : ∀ (H1 : Heap) (locs1 : List Loc), lwI lwF s D cy adK qa qr H1 → va_S (fun q => s.heap.size ≤ q) s.heap H1 locs1 → W p l e room_1 s m #[Value.ref b] below meth c H1 locs1 (cells) (slots) Q (F0 m 1550 ls [])) : W p l e room_1 s m #[Value.ref b] below meth c H locs cells slots Q (F0 m 589 ls []) := by
  obtain ⟨hx, hb, -, -, -, -, -, -, -, -⟩ := id X.1
  obtain ⟨η, ζ, L, M, Θ, Ξ, h, g, hB, hN, hNR, hH, hG, ⟨ea, er⟩, ⟨R, RP⟩⟩ := hI
  obtain ⟨bb, bm, bl, -⟩ := cT_b hH hN.2.2.2.1 R
  obtain ⟨gb, g1, g4⟩ := rBd_of hG hNR
  obtain ⟨v, h2, g2, e1, e2, dk⟩ := RR_stop (n := 300) (m := 300) (x := (xs (i + 1)).toInt) (y := (xs (i + 2)).toInt) (by decide) (by decide) R (RP trivial).2.1 (RP trivial).2.2.1.2 (RP trivial).2.2.1.1 bl bm.2 (rQ_of hG hNR) g4
  have R2 := dk.1
  have k2 : ∀ k, h2 2 k = h 2 k := fun k => dk.2.2.1 2 k (by omega)
  have w2 : lwF → cW h2 g2 := fun f => (RP f).d dk
  refine lv_aload_n hx hb dL_589 rfl (lv_at hl 2 rfl) ?_
  refine lw_arg X.1 X.2.1 hS hl 1 hi (by decide) (by decide +kernel) dL_590 dL_591 dL_592 dL_593 dL_594 ?_
  refine lw_arg X.1 X.2.1 hS hl 2 hi (by decide) (by decide +kernel) dL_595 dL_596 dL_597 dL_598 dL_599 ?_
  refine lwCf (As := [(xs (i + 1)).toInt, (xs (i + 2)).toInt]) X (m_X11_stop l) (ycv_of yw_X11_stop 61 dL_600 zlL_61 rfl (by decide +kernel) (by decide +kernel) (zk_ex (kk := 63) (ts := [0, 0]) _ _ rfl (zkK ⟨63, by decide⟩) rfl rfl rfl)) rfl (fun _ hx => by
      simp only [List.mem_cons, List.not_mem_nil, or_false] at hx
      rcases hx with rfl | rfl <;> exact ⟨z_lo _, z_hi _⟩) hB hN hH hG ea e1 hS hcs hl (rest := []) (by decide) (by simp only [List.map_cons, List.map_nil, List.reverse_cons, List.reverse_nil, List.nil_append, List.cons_append, z_ofi]) (fun H8 locs8 hH8 hG8 hS8 => ?_)
  refine lv_pop hx hb dL_603 rfl ?_
  refine lv_aload_n hx hb dL_604 rfl (lv_at hl 1 rfl) ?_
  refine lw_arg X.1 X.2.1 hS8 hl 1 hi (by decide) (by decide +kernel) dL_605 dL_606 dL_607 dL_608 dL_609 ?_
  refine lw_arg X.1 X.2.1 hS8 hl 2 hi (by decide) (by decide +kernel) dL_610 dL_611 dL_612 dL_613 dL_614 ?_
  refine lwRf (As := [(xs (i + 1)).toInt, (xs (i + 2)).toInt]) X (m_X12_stop l) (ycv_of yw_X12_stop 64 dL_615 zlL_64 rfl (by decide +kernel) (by decide +kernel) (zk_ex (kk := 35) (ts := [0, 0]) _ _ rfl (zkR ⟨35, by decide⟩) rfl rfl rfl)) rfl (fun _ hx => by
      simp only [List.mem_cons, List.not_mem_nil, or_false] at hx
      rcases hx with rfl | rfl <;> exact ⟨z_lo _, z_hi _⟩) hB hNR hH8 hG8 er e2 hS8 hcs hl (rest := []) (by decide) (by simp only [List.map_cons, List.map_nil, List.reverse_cons, List.reverse_nil, List.nil_append, List.cons_append, z_ofi]) (fun H9 locs9 hH9 hG9 hS9 => ?_)
  refine lv_pop hx hb dL_618 rfl ?_
  refine lv_goto (tgt := 1550) hx hb dL_619 (by decide) ?_
  exact K H9 locs9 ⟨η, ζ, L, M, Θ, Ξ, h2, g2, hB, hN.keep k2, hNR, hH9, hG9, ⟨ea, er⟩, ⟨R2, fun f => w2 f⟩⟩ hS9
set_option maxHeartbeats 4000000 in
theorem lwc_12 {p : Program} {l : Launch} {e : Env} {s : State} {m : MethodId} {below : List Frame} {meth : Method} {c : Code} {b N : Nat} {xs : Nat → Int32} {Q : State → Prop} {H : Heap} {locs : List Loc} {cells slots : Nat} {ls : Array Slot} {qa qr i : Nat} {D : va_G} {cy : Nat → ClassId} {tb adK adV : Nat → Nat} {fv : Option Nat} (X : lwX l p s m meth c b N xs D cy tb adK adV fv) (hi : i + 6 ≤ N) (hI : lwI lwF s D cy adK qa qr H) (hS : va_S (fun q => s.heap.size ≤ q) s.heap H locs) (hcs : cells ≤ 600000 ∧ slots ≤ 7302250) (hl : lwL ls qa qr i b)
    (K : ∀ (H1 : Heap) (locs1 : List Loc), lwI lwF s D cy adK qa qr H1 → va_S (fun q => s.heap.size ≤ q) s.heap H1 locs1 → W p l e room_1 s m #[Value.ref b] below meth c H1 locs1 (cells) (slots) Q (F0 m 1550 ls [])) : W p l e room_1 s m #[Value.ref b] below meth c H locs cells slots Q (F0 m 622 ls []) := by
  obtain ⟨hx, hb, -, -, -, -, -, -, -, -⟩ := id X.1
  obtain ⟨η, ζ, L, M, Θ, Ξ, h, g, hB, hN, hNR, hH, hG, ⟨ea, er⟩, ⟨R, RP⟩⟩ := hI
  obtain ⟨bb, bm, bl, -⟩ := cT_b hH hN.2.2.2.1 R
  obtain ⟨gb, g1, g4⟩ := rBd_of hG hNR
  obtain ⟨v, h2, g2, e1, e2, dk⟩ := RR_state (n := 300) (m := 300) (x := (xs (i + 1)).toInt) (y := (xs (i + 2)).toInt) (z := (xs (i + 3)).toInt) (k := (xs (i + 4)).toInt) (w := (xs (i + 5)).toInt) (by decide) (by decide) R (RP trivial).2.1 (RP trivial).2.2.1.2 (RP trivial).2.2.1.1 bl bm.2 (rQ_of hG hNR) g4
  have R2 := dk.1
  have k2 : ∀ k, h2 2 k = h 2 k := fun k => dk.2.2.1 2 k (by omega)
  have w2 : lwF → cW h2 g2 := fun f => (RP f).d dk
  refine lv_aload_n hx hb dL_622 rfl (lv_at hl 2 rfl) ?_
  refine lw_arg X.1 X.2.1 hS hl 1 hi (by decide) (by decide +kernel) dL_623 dL_624 dL_625 dL_626 dL_627 ?_
  refine lw_arg X.1 X.2.1 hS hl 2 hi (by decide) (by decide +kernel) dL_628 dL_629 dL_630 dL_631 dL_632 ?_
  refine lw_arg X.1 X.2.1 hS hl 3 hi (by decide) (by decide +kernel) dL_633 dL_634 dL_635 dL_636 dL_637 ?_
  refine lw_arg X.1 X.2.1 hS hl 4 hi (by decide) (by decide +kernel) dL_638 dL_639 dL_640 dL_641 dL_642 ?_
  refine lw_arg X.1 X.2.1 hS hl 5 hi (by decide) (by decide +kernel) dL_643 dL_644 dL_645 dL_646 dL_647 ?_
  refine lwCf (As := [(xs (i + 1)).toInt, (xs (i + 2)).toInt, (xs (i + 3)).toInt, (xs (i + 4)).toInt, (xs (i + 5)).toInt]) X (m_X11_state l) (ycv_of yw_X11_state 65 dL_648 zlL_65 rfl (by decide +kernel) (by decide +kernel) (zk_ex (kk := 63) (ts := [0, 0, 0, 0, 0]) _ _ rfl (zkK ⟨63, by decide⟩) rfl rfl rfl)) rfl (fun _ hx => by
      simp only [List.mem_cons, List.not_mem_nil, or_false] at hx
      rcases hx with rfl | rfl | rfl | rfl | rfl <;> exact ⟨z_lo _, z_hi _⟩) hB hN hH hG ea e1 hS hcs hl (rest := []) (by decide) (by simp only [List.map_cons, List.map_nil, List.reverse_cons, List.reverse_nil, List.nil_append, List.cons_append, z_ofi]) (fun H8 locs8 hH8 hG8 hS8 => ?_)
  refine lv_pop hx hb dL_651 rfl ?_
  refine lv_aload_n hx hb dL_652 rfl (lv_at hl 1 rfl) ?_
  refine lw_arg X.1 X.2.1 hS8 hl 1 hi (by decide) (by decide +kernel) dL_653 dL_654 dL_655 dL_656 dL_657 ?_
  refine lw_arg X.1 X.2.1 hS8 hl 2 hi (by decide) (by decide +kernel) dL_658 dL_659 dL_660 dL_661 dL_662 ?_
  refine lw_arg X.1 X.2.1 hS8 hl 3 hi (by decide) (by decide +kernel) dL_663 dL_664 dL_665 dL_666 dL_667 ?_
  refine lw_arg X.1 X.2.1 hS8 hl 4 hi (by decide) (by decide +kernel) dL_668 dL_669 dL_670 dL_671 dL_672 ?_
  refine lw_arg X.1 X.2.1 hS8 hl 5 hi (by decide) (by decide +kernel) dL_673 dL_674 dL_675 dL_676 dL_677 ?_
  refine lwRf (As := [(xs (i + 1)).toInt, (xs (i + 2)).toInt, (xs (i + 3)).toInt, (xs (i + 4)).toInt, (xs (i + 5)).toInt]) X (m_X12_state l) (ycv_of yw_X12_state 68 dL_678 zlL_68 rfl (by decide +kernel) (by decide +kernel) (zk_ex (kk := 35) (ts := [0, 0, 0, 0, 0]) _ _ rfl (zkR ⟨35, by decide⟩) rfl rfl rfl)) rfl (fun _ hx => by
      simp only [List.mem_cons, List.not_mem_nil, or_false] at hx
      rcases hx with rfl | rfl | rfl | rfl | rfl <;> exact ⟨z_lo _, z_hi _⟩) hB hNR hH8 hG8 er e2 hS8 hcs hl (rest := []) (by decide) (by simp only [List.map_cons, List.map_nil, List.reverse_cons, List.reverse_nil, List.nil_append, List.cons_append, z_ofi]) (fun H9 locs9 hH9 hG9 hS9 => ?_)
  refine lv_pop hx hb dL_681 rfl ?_
  refine lv_goto (tgt := 1550) hx hb dL_682 (by decide) ?_
  exact K H9 locs9 ⟨η, ζ, L, M, Θ, Ξ, h2, g2, hB, hN.keep k2, hNR, hH9, hG9, ⟨ea, er⟩, ⟨R2, fun f => w2 f⟩⟩ hS9
set_option maxHeartbeats 4000000 in
theorem lwc_13 {p : Program} {l : Launch} {e : Env} {s : State} {m : MethodId} {below : List Frame} {meth : Method} {c : Code} {b N : Nat} {xs : Nat → Int32} {Q : State → Prop} {H : Heap} {locs : List Loc} {cells slots : Nat} {ls : Array Slot} {qa qr i : Nat} {D : va_G} {cy : Nat → ClassId} {tb adK adV : Nat → Nat} {fv : Option Nat} (X : lwX l p s m meth c b N xs D cy tb adK adV fv) (hi : i + 6 ≤ N) (hI : lwI lwF s D cy adK qa qr H) (hS : va_S (fun q => s.heap.size ≤ q) s.heap H locs) (hcs : cells ≤ 600000 ∧ slots ≤ 7302250) (hl : lwL ls qa qr i b)
    (K : ∀ (H1 : Heap) (locs1 : List Loc), lwI lwF s D cy adK qa qr H1 → va_S (fun q => s.heap.size ≤ q) s.heap H1 locs1 → W p l e room_1 s m #[Value.ref b] below meth c H1 locs1 (cells) (slots) Q (F0 m 1550 ls [])) : W p l e room_1 s m #[Value.ref b] below meth c H locs cells slots Q (F0 m 685 ls []) := by
  obtain ⟨hx, hb, -, -, -, -, -, -, -, -⟩ := id X.1
  obtain ⟨η, ζ, L, M, Θ, Ξ, h, g, hB, hN, hNR, hH, hG, ⟨ea, er⟩, ⟨R, RP⟩⟩ := hI
  obtain ⟨bb, bm, bl, -⟩ := cT_b hH hN.2.2.2.1 R
  obtain ⟨gb, g1, g4⟩ := rBd_of hG hNR
  obtain ⟨v, h2, g2, e1, e2, dk⟩ := RR_has (n := 300) (m := 300) (x := (xs (i + 1)).toInt) (y := (xs (i + 2)).toInt) (z := (xs (i + 3)).toInt) (k := (xs (i + 4)).toInt) (w := (xs (i + 5)).toInt) (by decide) (by decide) R (RP trivial).2.1 (RP trivial).2.2.1.2 (RP trivial).2.2.1.1 bl bm.2 (rQ_of hG hNR) g4
  have R2 := dk.1
  have k2 : ∀ k, h2 2 k = h 2 k := fun k => dk.2.2.1 2 k (by omega)
  have w2 : lwF → cW h2 g2 := fun f => (RP f).d dk
  refine lv_aload_n hx hb dL_685 rfl (lv_at hl 2 rfl) ?_
  refine lw_arg X.1 X.2.1 hS hl 1 hi (by decide) (by decide +kernel) dL_686 dL_687 dL_688 dL_689 dL_690 ?_
  refine lw_arg X.1 X.2.1 hS hl 2 hi (by decide) (by decide +kernel) dL_691 dL_692 dL_693 dL_694 dL_695 ?_
  refine lw_arg X.1 X.2.1 hS hl 3 hi (by decide) (by decide +kernel) dL_696 dL_697 dL_698 dL_699 dL_700 ?_
  refine lw_arg X.1 X.2.1 hS hl 4 hi (by decide) (by decide +kernel) dL_701 dL_702 dL_703 dL_704 dL_705 ?_
  refine lw_arg X.1 X.2.1 hS hl 5 hi (by decide) (by decide +kernel) dL_706 dL_707 dL_708 dL_709 dL_710 ?_
  refine lwCf (As := [(xs (i + 1)).toInt, (xs (i + 2)).toInt, (xs (i + 3)).toInt, (xs (i + 4)).toInt, (xs (i + 5)).toInt]) X (m_X11_has l) (ycv_of yw_X11_has 69 dL_711 zlL_69 rfl (by decide +kernel) (by decide +kernel) (zk_ex (kk := 63) (ts := [0, 0, 0, 0, 0]) _ _ rfl (zkK ⟨63, by decide⟩) rfl rfl rfl)) rfl (fun _ hx => by
      simp only [List.mem_cons, List.not_mem_nil, or_false] at hx
      rcases hx with rfl | rfl | rfl | rfl | rfl <;> exact ⟨z_lo _, z_hi _⟩) hB hN hH hG ea e1 hS hcs hl (rest := []) (by decide) (by simp only [List.map_cons, List.map_nil, List.reverse_cons, List.reverse_nil, List.nil_append, List.cons_append, z_ofi]) (fun H8 locs8 hH8 hG8 hS8 => ?_)
  refine lv_pop hx hb dL_714 rfl ?_
  refine lv_aload_n hx hb dL_715 rfl (lv_at hl 1 rfl) ?_
  refine lw_arg X.1 X.2.1 hS8 hl 1 hi (by decide) (by decide +kernel) dL_716 dL_717 dL_718 dL_719 dL_720 ?_
  refine lw_arg X.1 X.2.1 hS8 hl 2 hi (by decide) (by decide +kernel) dL_721 dL_722 dL_723 dL_724 dL_725 ?_
  refine lw_arg X.1 X.2.1 hS8 hl 3 hi (by decide) (by decide +kernel) dL_726 dL_727 dL_728 dL_729 dL_730 ?_
  refine lw_arg X.1 X.2.1 hS8 hl 4 hi (by decide) (by decide +kernel) dL_731 dL_732 dL_733 dL_734 dL_735 ?_
  refine lw_arg X.1 X.2.1 hS8 hl 5 hi (by decide) (by decide +kernel) dL_736 dL_737 dL_738 dL_739 dL_740 ?_
  refine lwRf (As := [(xs (i + 1)).toInt, (xs (i + 2)).toInt, (xs (i + 3)).toInt, (xs (i + 4)).toInt, (xs (i + 5)).toInt]) X (m_X12_has l) (ycv_of yw_X12_has 72 dL_741 zlL_72 rfl (by decide +kernel) (by decide +kernel) (zk_ex (kk := 35) (ts := [0, 0, 0, 0, 0]) _ _ rfl (zkR ⟨35, by decide⟩) rfl rfl rfl)) rfl (fun _ hx => by
      simp only [List.mem_cons, List.not_mem_nil, or_false] at hx
      rcases hx with rfl | rfl | rfl | rfl | rfl <;> exact ⟨z_lo _, z_hi _⟩) hB hNR hH8 hG8 er e2 hS8 hcs hl (rest := []) (by decide) (by simp only [List.map_cons, List.map_nil, List.reverse_cons, List.reverse_nil, List.nil_append, List.cons_append, z_ofi]) (fun H9 locs9 hH9 hG9 hS9 => ?_)
  refine lv_pop hx hb dL_744 rfl ?_
  refine lv_goto (tgt := 1550) hx hb dL_745 (by decide) ?_
  exact K H9 locs9 ⟨η, ζ, L, M, Θ, Ξ, h2, g2, hB, hN.keep k2, hNR, hH9, hG9, ⟨ea, er⟩, ⟨R2, fun f => w2 f⟩⟩ hS9
set_option maxHeartbeats 4000000 in
theorem lwc_14 {p : Program} {l : Launch} {e : Env} {s : State} {m : MethodId} {below : List Frame} {meth : Method} {c : Code} {b N : Nat} {xs : Nat → Int32} {Q : State → Prop} {H : Heap} {locs : List Loc} {cells slots : Nat} {ls : Array Slot} {qa qr i : Nat} {D : va_G} {cy : Nat → ClassId} {tb adK adV : Nat → Nat} {fv : Option Nat} (X : lwX l p s m meth c b N xs D cy tb adK adV fv) (hi : i + 6 ≤ N) (hI : lwI lwF s D cy adK qa qr H) (hS : va_S (fun q => s.heap.size ≤ q) s.heap H locs) (hcs : cells ≤ 600000 ∧ slots ≤ 7302250) (hl : lwL ls qa qr i b)
    (K : ∀ (H1 : Heap) (locs1 : List Loc), lwI lwF s D cy adK qa qr H1 → va_S (fun q => s.heap.size ≤ q) s.heap H1 locs1 → W p l e room_1 s m #[Value.ref b] below meth c H1 locs1 (cells) (slots) Q (F0 m 1550 ls [])) : W p l e room_1 s m #[Value.ref b] below meth c H locs cells slots Q (F0 m 748 ls []) := by
  obtain ⟨hx, hb, -, -, -, -, -, -, -, -⟩ := id X.1
  obtain ⟨η, ζ, L, M, Θ, Ξ, h, g, hB, hN, hNR, hH, hG, ⟨ea, er⟩, ⟨R, RP⟩⟩ := hI
  obtain ⟨bb, bm, bl, -⟩ := cT_b hH hN.2.2.2.1 R
  obtain ⟨gb, g1, g4⟩ := rBd_of hG hNR
  by_cases hz : xs (i + 4) = 0
  · obtain ⟨v, h2, g2, e1, e2, dk⟩ := RR_claimed (n := 300) (m := 300) (x := (xs (i + 1)).toInt) (y := (xs (i + 2)).toInt) (k := (xs (i + 3)).toInt) (w := (0 : Int32).toInt) (by decide) (by decide) ⟨z_lo _, z_hi _⟩ R (RP trivial).2.1 (RP trivial).2.2.1.2 (RP trivial).2.2.1.1 bl bm.2 (rQ_of hG hNR) g4
    have R2 := dk.1
    have k2 : ∀ k, h2 2 k = h 2 k := fun k => dk.2.2.1 2 k (by omega)
    have w2 : lwF → cW h2 g2 := fun f => (RP f).d dk
    refine lv_aload_n hx hb dL_748 rfl (lv_at hl 2 rfl) ?_
    refine lw_arg X.1 X.2.1 hS hl 1 hi (by decide) (by decide +kernel) dL_749 dL_750 dL_751 dL_752 dL_753 ?_
    refine lw_arg X.1 X.2.1 hS hl 2 hi (by decide) (by decide +kernel) dL_754 dL_755 dL_756 dL_757 dL_758 ?_
    refine lw_arg X.1 X.2.1 hS hl 3 hi (by decide) (by decide +kernel) dL_759 dL_760 dL_761 dL_762 dL_763 ?_
    refine lw_arg X.1 X.2.1 hS hl 4 hi (by decide) (by decide +kernel) dL_764 dL_765 dL_766 dL_767 dL_768 ?_
    refine lv_if_eq (tgt := 776) hx hb dL_769 (by decide) (fun _ => ?_) (fun c => absurd hz c)
    refine lv_iconst (v := 0) hx hb dL_776 (by decide +kernel) ?_
    refine lwCf (As := [(xs (i + 1)).toInt, (xs (i + 2)).toInt, (xs (i + 3)).toInt, (0 : Int32).toInt]) X (m_X11_claimed l) (ycv_of yw_X11_claimed 73 dL_777 zlL_73 rfl (by decide +kernel) (by decide +kernel) (zk_ex (kk := 63) (ts := [0, 0, 0, 0]) _ _ rfl (zkK ⟨63, by decide⟩) rfl rfl rfl)) rfl (fun _ hx => by
      simp only [List.mem_cons, List.not_mem_nil, or_false] at hx
      rcases hx with rfl | rfl | rfl | rfl <;> exact ⟨z_lo _, z_hi _⟩) hB hN hH hG ea e1 hS hcs hl (rest := []) (by decide) (by simp only [List.map_cons, List.map_nil, List.reverse_cons, List.reverse_nil, List.nil_append, List.cons_append, z_ofi]) (fun H8 locs8 hH8 hG8 hS8 => ?_)
    refine lv_pop hx hb dL_780 rfl ?_
    refine lv_aload_n hx hb dL_781 rfl (lv_at hl 1 rfl) ?_
    refine lw_arg X.1 X.2.1 hS8 hl 1 hi (by decide) (by decide +kernel) dL_782 dL_783 dL_784 dL_785 dL_786 ?_
    refine lw_arg X.1 X.2.1 hS8 hl 2 hi (by decide) (by decide +kernel) dL_787 dL_788 dL_789 dL_790 dL_791 ?_
    refine lw_arg X.1 X.2.1 hS8 hl 3 hi (by decide) (by decide +kernel) dL_792 dL_793 dL_794 dL_795 dL_796 ?_
    refine lw_arg X.1 X.2.1 hS8 hl 4 hi (by decide) (by decide +kernel) dL_797 dL_798 dL_799 dL_800 dL_801 ?_
    refine lv_if_eq (tgt := 809) hx hb dL_802 (by decide) (fun _ => ?_) (fun c => absurd hz c)
    refine lv_iconst (v := 0) hx hb dL_809 (by decide +kernel) ?_
    refine lwRf (As := [(xs (i + 1)).toInt, (xs (i + 2)).toInt, (xs (i + 3)).toInt, (0 : Int32).toInt]) X (m_X12_claimed l) (ycv_of yw_X12_claimed 77 dL_810 zlL_77 rfl (by decide +kernel) (by decide +kernel) (zk_ex (kk := 35) (ts := [0, 0, 0, 0]) _ _ rfl (zkR ⟨35, by decide⟩) rfl rfl rfl)) rfl (fun _ hx => by
      simp only [List.mem_cons, List.not_mem_nil, or_false] at hx
      rcases hx with rfl | rfl | rfl | rfl <;> exact ⟨z_lo _, z_hi _⟩) hB hNR hH8 hG8 er e2 hS8 hcs hl (rest := []) (by decide) (by simp only [List.map_cons, List.map_nil, List.reverse_cons, List.reverse_nil, List.nil_append, List.cons_append, z_ofi]) (fun H9 locs9 hH9 hG9 hS9 => ?_)
    refine lv_pop hx hb dL_813 rfl ?_
    refine lv_goto (tgt := 1550) hx hb dL_814 (by decide) ?_
    exact K H9 locs9 ⟨η, ζ, L, M, Θ, Ξ, h2, g2, hB, hN.keep k2, hNR, hH9, hG9, ⟨ea, er⟩, ⟨R2, fun f => w2 f⟩⟩ hS9
  · obtain ⟨v, h2, g2, e1, e2, dk⟩ := RR_claimed (n := 300) (m := 300) (x := (xs (i + 1)).toInt) (y := (xs (i + 2)).toInt) (k := (xs (i + 3)).toInt) (w := (1 : Int32).toInt) (by decide) (by decide) ⟨z_lo _, z_hi _⟩ R (RP trivial).2.1 (RP trivial).2.2.1.2 (RP trivial).2.2.1.1 bl bm.2 (rQ_of hG hNR) g4
    have R2 := dk.1
    have k2 : ∀ k, h2 2 k = h 2 k := fun k => dk.2.2.1 2 k (by omega)
    have w2 : lwF → cW h2 g2 := fun f => (RP f).d dk
    refine lv_aload_n hx hb dL_748 rfl (lv_at hl 2 rfl) ?_
    refine lw_arg X.1 X.2.1 hS hl 1 hi (by decide) (by decide +kernel) dL_749 dL_750 dL_751 dL_752 dL_753 ?_
    refine lw_arg X.1 X.2.1 hS hl 2 hi (by decide) (by decide +kernel) dL_754 dL_755 dL_756 dL_757 dL_758 ?_
    refine lw_arg X.1 X.2.1 hS hl 3 hi (by decide) (by decide +kernel) dL_759 dL_760 dL_761 dL_762 dL_763 ?_
    refine lw_arg X.1 X.2.1 hS hl 4 hi (by decide) (by decide +kernel) dL_764 dL_765 dL_766 dL_767 dL_768 ?_
    refine lv_if_eq (tgt := 776) hx hb dL_769 (by decide) (fun c => absurd c hz) (fun _ => ?_)
    refine lv_iconst (v := 1) hx hb dL_772 (by decide +kernel) ?_
    refine lv_goto (tgt := 777) hx hb dL_773 (by decide) ?_
    refine lwCf (As := [(xs (i + 1)).toInt, (xs (i + 2)).toInt, (xs (i + 3)).toInt, (1 : Int32).toInt]) X (m_X11_claimed l) (ycv_of yw_X11_claimed 73 dL_777 zlL_73 rfl (by decide +kernel) (by decide +kernel) (zk_ex (kk := 63) (ts := [0, 0, 0, 0]) _ _ rfl (zkK ⟨63, by decide⟩) rfl rfl rfl)) rfl (fun _ hx => by
      simp only [List.mem_cons, List.not_mem_nil, or_false] at hx
      rcases hx with rfl | rfl | rfl | rfl <;> exact ⟨z_lo _, z_hi _⟩) hB hN hH hG ea e1 hS hcs hl (rest := []) (by decide) (by simp only [List.map_cons, List.map_nil, List.reverse_cons, List.reverse_nil, List.nil_append, List.cons_append, z_ofi]) (fun H8 locs8 hH8 hG8 hS8 => ?_)
    refine lv_pop hx hb dL_780 rfl ?_
    refine lv_aload_n hx hb dL_781 rfl (lv_at hl 1 rfl) ?_
    refine lw_arg X.1 X.2.1 hS8 hl 1 hi (by decide) (by decide +kernel) dL_782 dL_783 dL_784 dL_785 dL_786 ?_
    refine lw_arg X.1 X.2.1 hS8 hl 2 hi (by decide) (by decide +kernel) dL_787 dL_788 dL_789 dL_790 dL_791 ?_
    refine lw_arg X.1 X.2.1 hS8 hl 3 hi (by decide) (by decide +kernel) dL_792 dL_793 dL_794 dL_795 dL_796 ?_
    refine lw_arg X.1 X.2.1 hS8 hl 4 hi (by decide) (by decide +kernel) dL_797 dL_798 dL_799 dL_800 dL_801 ?_
    refine lv_if_eq (tgt := 809) hx hb dL_802 (by decide) (fun c => absurd c hz) (fun _ => ?_)
    refine lv_iconst (v := 1) hx hb dL_805 (by decide +kernel) ?_
    refine lv_goto (tgt := 810) hx hb dL_806 (by decide) ?_
    refine lwRf (As := [(xs (i + 1)).toInt, (xs (i + 2)).toInt, (xs (i + 3)).toInt, (1 : Int32).toInt]) X (m_X12_claimed l) (ycv_of yw_X12_claimed 77 dL_810 zlL_77 rfl (by decide +kernel) (by decide +kernel) (zk_ex (kk := 35) (ts := [0, 0, 0, 0]) _ _ rfl (zkR ⟨35, by decide⟩) rfl rfl rfl)) rfl (fun _ hx => by
      simp only [List.mem_cons, List.not_mem_nil, or_false] at hx
      rcases hx with rfl | rfl | rfl | rfl <;> exact ⟨z_lo _, z_hi _⟩) hB hNR hH8 hG8 er e2 hS8 hcs hl (rest := []) (by decide) (by simp only [List.map_cons, List.map_nil, List.reverse_cons, List.reverse_nil, List.nil_append, List.cons_append, z_ofi]) (fun H9 locs9 hH9 hG9 hS9 => ?_)
    refine lv_pop hx hb dL_813 rfl ?_
    refine lv_goto (tgt := 1550) hx hb dL_814 (by decide) ?_
    exact K H9 locs9 ⟨η, ζ, L, M, Θ, Ξ, h2, g2, hB, hN.keep k2, hNR, hH9, hG9, ⟨ea, er⟩, ⟨R2, fun f => w2 f⟩⟩ hS9
set_option maxHeartbeats 4000000 in
theorem lwc_15 {p : Program} {l : Launch} {e : Env} {s : State} {m : MethodId} {below : List Frame} {meth : Method} {c : Code} {b N : Nat} {xs : Nat → Int32} {Q : State → Prop} {H : Heap} {locs : List Loc} {cells slots : Nat} {ls : Array Slot} {qa qr i : Nat} {D : va_G} {cy : Nat → ClassId} {tb adK adV : Nat → Nat} {fv : Option Nat} (X : lwX l p s m meth c b N xs D cy tb adK adV fv) (hi : i + 6 ≤ N) (hI : lwI lwF s D cy adK qa qr H) (hS : va_S (fun q => s.heap.size ≤ q) s.heap H locs) (hcs : cells ≤ 600000 ∧ slots ≤ 7302250) (hl : lwL ls qa qr i b)
    (K : ∀ (H1 : Heap) (locs1 : List Loc), lwI lwF s D cy adK qa qr H1 → va_S (fun q => s.heap.size ≤ q) s.heap H1 locs1 → W p l e room_1 s m #[Value.ref b] below meth c H1 locs1 (cells) (slots) Q (F0 m 1550 ls [])) : W p l e room_1 s m #[Value.ref b] below meth c H locs cells slots Q (F0 m 817 ls []) := by
  obtain ⟨hx, hb, -, -, -, -, -, -, -, -⟩ := id X.1
  obtain ⟨η, ζ, L, M, Θ, Ξ, h, g, hB, hN, hNR, hH, hG, ⟨ea, er⟩, ⟨R, RP⟩⟩ := hI
  obtain ⟨bb, bm, bl, -⟩ := cT_b hH hN.2.2.2.1 R
  obtain ⟨gb, g1, g4⟩ := rBd_of hG hNR
  obtain ⟨v, h2, g2, e1, e2, dk⟩ := RR_shares (n := 300) (m := 300) (x := (xs (i + 1)).toInt) (y := (xs (i + 2)).toInt) (k := (xs (i + 3)).toInt) (w := (xs (i + 4)).toInt) (by decide) (by decide) ⟨z_lo _, z_hi _⟩ R (RP trivial).2.1 (RP trivial).2.2.1.2 (RP trivial).2.2.1.1 bl bm.2 (rQ_of hG hNR) g4
  have R2 := dk.1
  have k2 : ∀ k, h2 2 k = h 2 k := fun k => dk.2.2.1 2 k (by omega)
  have w2 : lwF → cW h2 g2 := fun f => (RP f).d dk
  refine lv_aload_n hx hb dL_817 rfl (lv_at hl 2 rfl) ?_
  refine lw_arg X.1 X.2.1 hS hl 1 hi (by decide) (by decide +kernel) dL_818 dL_819 dL_820 dL_821 dL_822 ?_
  refine lw_arg X.1 X.2.1 hS hl 2 hi (by decide) (by decide +kernel) dL_823 dL_824 dL_825 dL_826 dL_827 ?_
  refine lw_arg X.1 X.2.1 hS hl 3 hi (by decide) (by decide +kernel) dL_828 dL_829 dL_830 dL_831 dL_832 ?_
  refine lw_arg X.1 X.2.1 hS hl 4 hi (by decide) (by decide +kernel) dL_833 dL_834 dL_835 dL_836 dL_837 ?_
  refine lwCf (As := [(xs (i + 1)).toInt, (xs (i + 2)).toInt, (xs (i + 3)).toInt, (xs (i + 4)).toInt]) X (m_X11_shares l) (ycv_of yw_X11_shares 78 dL_838 zlL_78 rfl (by decide +kernel) (by decide +kernel) (zk_ex (kk := 63) (ts := [0, 0, 0, 0]) _ _ rfl (zkK ⟨63, by decide⟩) rfl rfl rfl)) rfl (fun _ hx => by
      simp only [List.mem_cons, List.not_mem_nil, or_false] at hx
      rcases hx with rfl | rfl | rfl | rfl <;> exact ⟨z_lo _, z_hi _⟩) hB hN hH hG ea e1 hS hcs hl (rest := []) (by decide) (by simp only [List.map_cons, List.map_nil, List.reverse_cons, List.reverse_nil, List.nil_append, List.cons_append, z_ofi]) (fun H8 locs8 hH8 hG8 hS8 => ?_)
  refine lv_aload_n hx hb dL_841 rfl (lv_at hl 1 rfl) ?_
  refine lw_arg X.1 X.2.1 hS8 hl 1 hi (by decide) (by decide +kernel) dL_842 dL_843 dL_844 dL_845 dL_846 ?_
  refine lw_arg X.1 X.2.1 hS8 hl 2 hi (by decide) (by decide +kernel) dL_847 dL_848 dL_849 dL_850 dL_851 ?_
  refine lw_arg X.1 X.2.1 hS8 hl 3 hi (by decide) (by decide +kernel) dL_852 dL_853 dL_854 dL_855 dL_856 ?_
  refine lw_arg X.1 X.2.1 hS8 hl 4 hi (by decide) (by decide +kernel) dL_857 dL_858 dL_859 dL_860 dL_861 ?_
  refine lwRf (As := [(xs (i + 1)).toInt, (xs (i + 2)).toInt, (xs (i + 3)).toInt, (xs (i + 4)).toInt]) X (m_X12_shares l) (ycv_of yw_X12_shares 82 dL_862 zlL_82 rfl (by decide +kernel) (by decide +kernel) (zk_ex (kk := 35) (ts := [0, 0, 0, 0]) _ _ rfl (zkR ⟨35, by decide⟩) rfl rfl rfl)) rfl (fun _ hx => by
      simp only [List.mem_cons, List.not_mem_nil, or_false] at hx
      rcases hx with rfl | rfl | rfl | rfl <;> exact ⟨z_lo _, z_hi _⟩) hB hNR hH8 hG8 er e2 hS8 hcs hl (rest := [.int (Int32.ofInt v)]) (by simp [Value.category]) (by simp only [List.map_cons, List.map_nil, List.reverse_cons, List.reverse_nil, List.nil_append, List.cons_append, z_ofi]) (fun H9 locs9 hH9 hG9 hS9 => ?_)
  refine lv_icmp_eq (tgt := 1550) hx hb dL_865 (by decide) (fun _ => ?_) (fun hne => absurd rfl hne)
  exact K H9 locs9 ⟨η, ζ, L, M, Θ, Ξ, h2, g2, hB, hN.keep k2, hNR, hH9, hG9, ⟨ea, er⟩, ⟨R2, fun f => w2 f⟩⟩ hS9
set_option maxHeartbeats 4000000 in
theorem lwc_16 {p : Program} {l : Launch} {e : Env} {s : State} {m : MethodId} {below : List Frame} {meth : Method} {c : Code} {b N : Nat} {xs : Nat → Int32} {Q : State → Prop} {H : Heap} {locs : List Loc} {cells slots : Nat} {ls : Array Slot} {qa qr i : Nat} {D : va_G} {cy : Nat → ClassId} {tb adK adV : Nat → Nat} {fv : Option Nat} (X : lwX l p s m meth c b N xs D cy tb adK adV fv) (hi : i + 6 ≤ N) (hI : lwI lwF s D cy adK qa qr H) (hS : va_S (fun q => s.heap.size ≤ q) s.heap H locs) (hcs : cells ≤ 600000 ∧ slots ≤ 7302250) (hl : lwL ls qa qr i b)
    (K : ∀ (H1 : Heap) (locs1 : List Loc), lwI lwF s D cy adK qa qr H1 → va_S (fun q => s.heap.size ≤ q) s.heap H1 locs1 → W p l e room_1 s m #[Value.ref b] below meth c H1 locs1 (cells) (slots) Q (F0 m 1550 ls [])) : W p l e room_1 s m #[Value.ref b] below meth c H locs cells slots Q (F0 m 870 ls []) := by
  obtain ⟨hx, hb, -, -, -, -, -, -, -, -⟩ := id X.1
  obtain ⟨η, ζ, L, M, Θ, Ξ, h, g, hB, hN, hNR, hH, hG, ⟨ea, er⟩, ⟨R, RP⟩⟩ := hI
  obtain ⟨bb, bm, bl, -⟩ := cT_b hH hN.2.2.2.1 R
  obtain ⟨gb, g1, g4⟩ := rBd_of hG hNR
  obtain ⟨v, h2, g2, e1, e2, dk⟩ := RR_twice (n := 300) (m := 300) (x := (xs (i + 1)).toInt) (y := (xs (i + 2)).toInt) (by decide) (by decide) R (RP trivial).2.1 (RP trivial).2.2.1.2 (RP trivial).2.2.1.1 bl bm.2 (rQ_of hG hNR) g4
  have R2 := dk.1
  have k2 : ∀ k, h2 2 k = h 2 k := fun k => dk.2.2.1 2 k (by omega)
  have w2 : lwF → cW h2 g2 := fun f => (RP f).d dk
  refine lv_aload_n hx hb dL_870 rfl (lv_at hl 2 rfl) ?_
  refine lw_arg X.1 X.2.1 hS hl 1 hi (by decide) (by decide +kernel) dL_871 dL_872 dL_873 dL_874 dL_875 ?_
  refine lw_arg X.1 X.2.1 hS hl 2 hi (by decide) (by decide +kernel) dL_876 dL_877 dL_878 dL_879 dL_880 ?_
  refine lwCf (As := [(xs (i + 1)).toInt, (xs (i + 2)).toInt]) X (m_X11_twice l) (ycv_of yw_X11_twice 83 dL_881 zlL_83 rfl (by decide +kernel) (by decide +kernel) (zk_ex (kk := 63) (ts := [0, 0]) _ _ rfl (zkK ⟨63, by decide⟩) rfl rfl rfl)) rfl (fun _ hx => by
      simp only [List.mem_cons, List.not_mem_nil, or_false] at hx
      rcases hx with rfl | rfl <;> exact ⟨z_lo _, z_hi _⟩) hB hN hH hG ea e1 hS hcs hl (rest := []) (by decide) (by simp only [List.map_cons, List.map_nil, List.reverse_cons, List.reverse_nil, List.nil_append, List.cons_append, z_ofi]) (fun H8 locs8 hH8 hG8 hS8 => ?_)
  refine lv_pop hx hb dL_884 rfl ?_
  refine lv_aload_n hx hb dL_885 rfl (lv_at hl 1 rfl) ?_
  refine lw_arg X.1 X.2.1 hS8 hl 1 hi (by decide) (by decide +kernel) dL_886 dL_887 dL_888 dL_889 dL_890 ?_
  refine lw_arg X.1 X.2.1 hS8 hl 2 hi (by decide) (by decide +kernel) dL_891 dL_892 dL_893 dL_894 dL_895 ?_
  refine lwRf (As := [(xs (i + 1)).toInt, (xs (i + 2)).toInt]) X (m_X12_twice l) (ycv_of yw_X12_twice 86 dL_896 zlL_86 rfl (by decide +kernel) (by decide +kernel) (zk_ex (kk := 35) (ts := [0, 0]) _ _ rfl (zkR ⟨35, by decide⟩) rfl rfl rfl)) rfl (fun _ hx => by
      simp only [List.mem_cons, List.not_mem_nil, or_false] at hx
      rcases hx with rfl | rfl <;> exact ⟨z_lo _, z_hi _⟩) hB hNR hH8 hG8 er e2 hS8 hcs hl (rest := []) (by decide) (by simp only [List.map_cons, List.map_nil, List.reverse_cons, List.reverse_nil, List.nil_append, List.cons_append, z_ofi]) (fun H9 locs9 hH9 hG9 hS9 => ?_)
  refine lv_pop hx hb dL_899 rfl ?_
  refine lv_goto (tgt := 1550) hx hb dL_900 (by decide) ?_
  exact K H9 locs9 ⟨η, ζ, L, M, Θ, Ξ, h2, g2, hB, hN.keep k2, hNR, hH9, hG9, ⟨ea, er⟩, ⟨R2, fun f => w2 f⟩⟩ hS9
set_option maxHeartbeats 4000000 in
theorem lwc_17 {p : Program} {l : Launch} {e : Env} {s : State} {m : MethodId} {below : List Frame} {meth : Method} {c : Code} {b N : Nat} {xs : Nat → Int32} {Q : State → Prop} {H : Heap} {locs : List Loc} {cells slots : Nat} {ls : Array Slot} {qa qr i : Nat} {D : va_G} {cy : Nat → ClassId} {tb adK adV : Nat → Nat} {fv : Option Nat} (X : lwX l p s m meth c b N xs D cy tb adK adV fv) (hi : i + 6 ≤ N) (hI : lwI lwF s D cy adK qa qr H) (hS : va_S (fun q => s.heap.size ≤ q) s.heap H locs) (hcs : cells ≤ 600000 ∧ slots ≤ 7302250) (hl : lwL ls qa qr i b)
    (K : ∀ (H1 : Heap) (locs1 : List Loc), lwI lwF s D cy adK qa qr H1 → va_S (fun q => s.heap.size ≤ q) s.heap H1 locs1 → W p l e room_1 s m #[Value.ref b] below meth c H1 locs1 (cells) (slots) Q (F0 m 1550 ls [])) : W p l e room_1 s m #[Value.ref b] below meth c H locs cells slots Q (F0 m 903 ls []) := by
  obtain ⟨hx, hb, -, -, -, -, -, -, -, -⟩ := id X.1
  obtain ⟨η, ζ, L, M, Θ, Ξ, h, g, hB, hN, hNR, hH, hG, ⟨ea, er⟩, ⟨R, RP⟩⟩ := hI
  obtain ⟨bb, bm, bl, -⟩ := cT_b hH hN.2.2.2.1 R
  obtain ⟨gb, g1, g4⟩ := rBd_of hG hNR
  obtain ⟨v, h2, g2, e1, e2, dk⟩ := RR_soon (n := 300) (m := 40000) (x := (xs (i + 1)).toInt) (y := (xs (i + 2)).toInt) (z := (xs (i + 3)).toInt) (w := (xs (i + 4)).toInt) (by decide) (by decide) ⟨z_lo _, z_hi _⟩ R (RP trivial).2.1 (RP trivial).2.2.2.1 (RP trivial).2.2.2.2.1 bl bm.2 (rQ_of hG hNR) g4
  have R2 := dk.1
  have k2 : ∀ k, h2 2 k = h 2 k := fun k => dk.2.2.1 2 k (by omega)
  have w2 : lwF → cW h2 g2 := fun f => (RP f).e dk
  refine lv_aload_n hx hb dL_903 rfl (lv_at hl 2 rfl) ?_
  refine lw_arg X.1 X.2.1 hS hl 1 hi (by decide) (by decide +kernel) dL_904 dL_905 dL_906 dL_907 dL_908 ?_
  refine lw_arg X.1 X.2.1 hS hl 2 hi (by decide) (by decide +kernel) dL_909 dL_910 dL_911 dL_912 dL_913 ?_
  refine lw_arg X.1 X.2.1 hS hl 3 hi (by decide) (by decide +kernel) dL_914 dL_915 dL_916 dL_917 dL_918 ?_
  refine lw_arg X.1 X.2.1 hS hl 4 hi (by decide) (by decide +kernel) dL_919 dL_920 dL_921 dL_922 dL_923 ?_
  refine lwCf (As := [(xs (i + 1)).toInt, (xs (i + 2)).toInt, (xs (i + 3)).toInt, (xs (i + 4)).toInt]) X (m_X11_soon l) (ycv_of yw_X11_soon 87 dL_924 zlL_87 rfl (by decide +kernel) (by decide +kernel) (zk_ex (kk := 63) (ts := [0, 0, 0, 0]) _ _ rfl (zkK ⟨63, by decide⟩) rfl rfl rfl)) rfl (fun _ hx => by
      simp only [List.mem_cons, List.not_mem_nil, or_false] at hx
      rcases hx with rfl | rfl | rfl | rfl <;> exact ⟨z_lo _, z_hi _⟩) hB hN hH hG ea e1 hS hcs hl (rest := []) (by decide) (by simp only [List.map_cons, List.map_nil, List.reverse_cons, List.reverse_nil, List.nil_append, List.cons_append, z_ofi]) (fun H8 locs8 hH8 hG8 hS8 => ?_)
  refine lv_pop hx hb dL_927 rfl ?_
  refine lv_aload_n hx hb dL_928 rfl (lv_at hl 1 rfl) ?_
  refine lw_arg X.1 X.2.1 hS8 hl 1 hi (by decide) (by decide +kernel) dL_929 dL_930 dL_931 dL_932 dL_933 ?_
  refine lw_arg X.1 X.2.1 hS8 hl 2 hi (by decide) (by decide +kernel) dL_934 dL_935 dL_936 dL_937 dL_938 ?_
  refine lw_arg X.1 X.2.1 hS8 hl 3 hi (by decide) (by decide +kernel) dL_939 dL_940 dL_941 dL_942 dL_943 ?_
  refine lw_arg X.1 X.2.1 hS8 hl 4 hi (by decide) (by decide +kernel) dL_944 dL_945 dL_946 dL_947 dL_948 ?_
  refine lwRf (As := [(xs (i + 1)).toInt, (xs (i + 2)).toInt, (xs (i + 3)).toInt, (xs (i + 4)).toInt]) X (m_X12_soon l) (ycv_of yw_X12_soon 90 dL_949 zlL_90 rfl (by decide +kernel) (by decide +kernel) (zk_ex (kk := 35) (ts := [0, 0, 0, 0]) _ _ rfl (zkR ⟨35, by decide⟩) rfl rfl rfl)) rfl (fun _ hx => by
      simp only [List.mem_cons, List.not_mem_nil, or_false] at hx
      rcases hx with rfl | rfl | rfl | rfl <;> exact ⟨z_lo _, z_hi _⟩) hB hNR hH8 hG8 er e2 hS8 hcs hl (rest := []) (by decide) (by simp only [List.map_cons, List.map_nil, List.reverse_cons, List.reverse_nil, List.nil_append, List.cons_append, z_ofi]) (fun H9 locs9 hH9 hG9 hS9 => ?_)
  refine lv_pop hx hb dL_952 rfl ?_
  refine lv_goto (tgt := 1550) hx hb dL_953 (by decide) ?_
  exact K H9 locs9 ⟨η, ζ, L, M, Θ, Ξ, h2, g2, hB, hN.keep k2, hNR, hH9, hG9, ⟨ea, er⟩, ⟨R2, fun f => w2 f⟩⟩ hS9
set_option maxHeartbeats 4000000 in
theorem lwc_18 {p : Program} {l : Launch} {e : Env} {s : State} {m : MethodId} {below : List Frame} {meth : Method} {c : Code} {b N : Nat} {xs : Nat → Int32} {Q : State → Prop} {H : Heap} {locs : List Loc} {cells slots : Nat} {ls : Array Slot} {qa qr i : Nat} {D : va_G} {cy : Nat → ClassId} {tb adK adV : Nat → Nat} {fv : Option Nat} (X : lwX l p s m meth c b N xs D cy tb adK adV fv) (hi : i + 6 ≤ N) (hI : lwI lwF s D cy adK qa qr H) (hS : va_S (fun q => s.heap.size ≤ q) s.heap H locs) (hcs : cells ≤ 600000 ∧ slots ≤ 7302250) (hl : lwL ls qa qr i b)
    (K : ∀ (H1 : Heap) (locs1 : List Loc), lwI lwF s D cy adK qa qr H1 → va_S (fun q => s.heap.size ≤ q) s.heap H1 locs1 → W p l e room_1 s m #[Value.ref b] below meth c H1 locs1 (cells) (slots) Q (F0 m 1550 ls [])) : W p l e room_1 s m #[Value.ref b] below meth c H locs cells slots Q (F0 m 956 ls []) := by
  obtain ⟨hx, hb, -, -, -, -, -, -, -, -⟩ := id X.1
  obtain ⟨η, ζ, L, M, Θ, Ξ, h, g, hB, hN, hNR, hH, hG, ⟨ea, er⟩, ⟨R, RP⟩⟩ := hI
  obtain ⟨bb, bm, bl, -⟩ := cT_b hH hN.2.2.2.1 R
  obtain ⟨gb, g1, g4⟩ := rBd_of hG hNR
  by_cases hz : xs (i + 3) = 0
  · obtain ⟨v, h2, g2, e1, e2, dk⟩ := RR_berth (n := 300) (m := 300) (x := (xs (i + 1)).toInt) (y := (xs (i + 2)).toInt) (w := (0 : Int32).toInt) (by decide) (by decide) R (RP trivial).2.2.2.1 (RP trivial).2.2.2.2.1 bl bm.2 (rQ_of hG hNR) g4
    have R2 := dk.1
    have k2 : ∀ k, h2 2 k = h 2 k := fun k => dk.2.2.1 2 k (by omega)
    have w2 : lwF → cW h2 g2 := fun f => (RP f).e dk
    refine lv_aload_n hx hb dL_956 rfl (lv_at hl 2 rfl) ?_
    refine lw_arg X.1 X.2.1 hS hl 1 hi (by decide) (by decide +kernel) dL_957 dL_958 dL_959 dL_960 dL_961 ?_
    refine lw_arg X.1 X.2.1 hS hl 2 hi (by decide) (by decide +kernel) dL_962 dL_963 dL_964 dL_965 dL_966 ?_
    refine lw_arg X.1 X.2.1 hS hl 3 hi (by decide) (by decide +kernel) dL_967 dL_968 dL_969 dL_970 dL_971 ?_
    refine lv_if_eq (tgt := 979) hx hb dL_972 (by decide) (fun _ => ?_) (fun c => absurd hz c)
    refine lv_iconst (v := 0) hx hb dL_979 (by decide +kernel) ?_
    refine lwCf (As := [(xs (i + 1)).toInt, (xs (i + 2)).toInt, (0 : Int32).toInt]) X (m_X11_berth l) (ycv_of yw_X11_berth 91 dL_980 zlL_91 rfl (by decide +kernel) (by decide +kernel) (zk_ex (kk := 63) (ts := [0, 0, 0]) _ _ rfl (zkK ⟨63, by decide⟩) rfl rfl rfl)) rfl (fun _ hx => by
      simp only [List.mem_cons, List.not_mem_nil, or_false] at hx
      rcases hx with rfl | rfl | rfl <;> exact ⟨z_lo _, z_hi _⟩) hB hN hH hG ea e1 hS hcs hl (rest := []) (by decide) (by simp only [List.map_cons, List.map_nil, List.reverse_cons, List.reverse_nil, List.nil_append, List.cons_append, z_ofi]) (fun H8 locs8 hH8 hG8 hS8 => ?_)
    refine lv_pop hx hb dL_983 rfl ?_
    refine lv_aload_n hx hb dL_984 rfl (lv_at hl 1 rfl) ?_
    refine lw_arg X.1 X.2.1 hS8 hl 1 hi (by decide) (by decide +kernel) dL_985 dL_986 dL_987 dL_988 dL_989 ?_
    refine lw_arg X.1 X.2.1 hS8 hl 2 hi (by decide) (by decide +kernel) dL_990 dL_991 dL_992 dL_993 dL_994 ?_
    refine lw_arg X.1 X.2.1 hS8 hl 3 hi (by decide) (by decide +kernel) dL_995 dL_996 dL_997 dL_998 dL_999 ?_
    refine lv_if_eq (tgt := 1007) hx hb dL_1000 (by decide) (fun _ => ?_) (fun c => absurd hz c)
    refine lv_iconst (v := 0) hx hb dL_1007 (by decide +kernel) ?_
    refine lwRf (As := [(xs (i + 1)).toInt, (xs (i + 2)).toInt, (0 : Int32).toInt]) X (m_X12_berth l) (ycv_of yw_X12_berth 95 dL_1008 zlL_95 rfl (by decide +kernel) (by decide +kernel) (zk_ex (kk := 35) (ts := [0, 0, 0]) _ _ rfl (zkR ⟨35, by decide⟩) rfl rfl rfl)) rfl (fun _ hx => by
      simp only [List.mem_cons, List.not_mem_nil, or_false] at hx
      rcases hx with rfl | rfl | rfl <;> exact ⟨z_lo _, z_hi _⟩) hB hNR hH8 hG8 er e2 hS8 hcs hl (rest := []) (by decide) (by simp only [List.map_cons, List.map_nil, List.reverse_cons, List.reverse_nil, List.nil_append, List.cons_append, z_ofi]) (fun H9 locs9 hH9 hG9 hS9 => ?_)
    refine lv_pop hx hb dL_1011 rfl ?_
    refine lv_goto (tgt := 1550) hx hb dL_1012 (by decide) ?_
    exact K H9 locs9 ⟨η, ζ, L, M, Θ, Ξ, h2, g2, hB, hN.keep k2, hNR, hH9, hG9, ⟨ea, er⟩, ⟨R2, fun f => w2 f⟩⟩ hS9
  · obtain ⟨v, h2, g2, e1, e2, dk⟩ := RR_berth (n := 300) (m := 300) (x := (xs (i + 1)).toInt) (y := (xs (i + 2)).toInt) (w := (1 : Int32).toInt) (by decide) (by decide) R (RP trivial).2.2.2.1 (RP trivial).2.2.2.2.1 bl bm.2 (rQ_of hG hNR) g4
    have R2 := dk.1
    have k2 : ∀ k, h2 2 k = h 2 k := fun k => dk.2.2.1 2 k (by omega)
    have w2 : lwF → cW h2 g2 := fun f => (RP f).e dk
    refine lv_aload_n hx hb dL_956 rfl (lv_at hl 2 rfl) ?_
    refine lw_arg X.1 X.2.1 hS hl 1 hi (by decide) (by decide +kernel) dL_957 dL_958 dL_959 dL_960 dL_961 ?_
    refine lw_arg X.1 X.2.1 hS hl 2 hi (by decide) (by decide +kernel) dL_962 dL_963 dL_964 dL_965 dL_966 ?_
    refine lw_arg X.1 X.2.1 hS hl 3 hi (by decide) (by decide +kernel) dL_967 dL_968 dL_969 dL_970 dL_971 ?_
    refine lv_if_eq (tgt := 979) hx hb dL_972 (by decide) (fun c => absurd c hz) (fun _ => ?_)
    refine lv_iconst (v := 1) hx hb dL_975 (by decide +kernel) ?_
    refine lv_goto (tgt := 980) hx hb dL_976 (by decide) ?_
    refine lwCf (As := [(xs (i + 1)).toInt, (xs (i + 2)).toInt, (1 : Int32).toInt]) X (m_X11_berth l) (ycv_of yw_X11_berth 91 dL_980 zlL_91 rfl (by decide +kernel) (by decide +kernel) (zk_ex (kk := 63) (ts := [0, 0, 0]) _ _ rfl (zkK ⟨63, by decide⟩) rfl rfl rfl)) rfl (fun _ hx => by
      simp only [List.mem_cons, List.not_mem_nil, or_false] at hx
      rcases hx with rfl | rfl | rfl <;> exact ⟨z_lo _, z_hi _⟩) hB hN hH hG ea e1 hS hcs hl (rest := []) (by decide) (by simp only [List.map_cons, List.map_nil, List.reverse_cons, List.reverse_nil, List.nil_append, List.cons_append, z_ofi]) (fun H8 locs8 hH8 hG8 hS8 => ?_)
    refine lv_pop hx hb dL_983 rfl ?_
    refine lv_aload_n hx hb dL_984 rfl (lv_at hl 1 rfl) ?_
    refine lw_arg X.1 X.2.1 hS8 hl 1 hi (by decide) (by decide +kernel) dL_985 dL_986 dL_987 dL_988 dL_989 ?_
    refine lw_arg X.1 X.2.1 hS8 hl 2 hi (by decide) (by decide +kernel) dL_990 dL_991 dL_992 dL_993 dL_994 ?_
    refine lw_arg X.1 X.2.1 hS8 hl 3 hi (by decide) (by decide +kernel) dL_995 dL_996 dL_997 dL_998 dL_999 ?_
    refine lv_if_eq (tgt := 1007) hx hb dL_1000 (by decide) (fun c => absurd c hz) (fun _ => ?_)
    refine lv_iconst (v := 1) hx hb dL_1003 (by decide +kernel) ?_
    refine lv_goto (tgt := 1008) hx hb dL_1004 (by decide) ?_
    refine lwRf (As := [(xs (i + 1)).toInt, (xs (i + 2)).toInt, (1 : Int32).toInt]) X (m_X12_berth l) (ycv_of yw_X12_berth 95 dL_1008 zlL_95 rfl (by decide +kernel) (by decide +kernel) (zk_ex (kk := 35) (ts := [0, 0, 0]) _ _ rfl (zkR ⟨35, by decide⟩) rfl rfl rfl)) rfl (fun _ hx => by
      simp only [List.mem_cons, List.not_mem_nil, or_false] at hx
      rcases hx with rfl | rfl | rfl <;> exact ⟨z_lo _, z_hi _⟩) hB hNR hH8 hG8 er e2 hS8 hcs hl (rest := []) (by decide) (by simp only [List.map_cons, List.map_nil, List.reverse_cons, List.reverse_nil, List.nil_append, List.cons_append, z_ofi]) (fun H9 locs9 hH9 hG9 hS9 => ?_)
    refine lv_pop hx hb dL_1011 rfl ?_
    refine lv_goto (tgt := 1550) hx hb dL_1012 (by decide) ?_
    exact K H9 locs9 ⟨η, ζ, L, M, Θ, Ξ, h2, g2, hB, hN.keep k2, hNR, hH9, hG9, ⟨ea, er⟩, ⟨R2, fun f => w2 f⟩⟩ hS9
set_option maxHeartbeats 4000000 in
theorem lwc_19 {p : Program} {l : Launch} {e : Env} {s : State} {m : MethodId} {below : List Frame} {meth : Method} {c : Code} {b N : Nat} {xs : Nat → Int32} {Q : State → Prop} {H : Heap} {locs : List Loc} {cells slots : Nat} {ls : Array Slot} {qa qr i : Nat} {D : va_G} {cy : Nat → ClassId} {tb adK adV : Nat → Nat} {fv : Option Nat} (X : lwX l p s m meth c b N xs D cy tb adK adV fv) (hi : i + 6 ≤ N) (hI : lwI lwF s D cy adK qa qr H) (hS : va_S (fun q => s.heap.size ≤ q) s.heap H locs) (hcs : cells ≤ 600000 ∧ slots ≤ 7302250) (hl : lwL ls qa qr i b)
    (K : ∀ (H1 : Heap) (locs1 : List Loc), lwI lwF s D cy adK qa qr H1 → va_S (fun q => s.heap.size ≤ q) s.heap H1 locs1 → W p l e room_1 s m #[Value.ref b] below meth c H1 locs1 (cells) (slots) Q (F0 m 1550 ls [])) : W p l e room_1 s m #[Value.ref b] below meth c H locs cells slots Q (F0 m 1015 ls []) := by
  obtain ⟨hx, hb, -, -, -, -, -, -, -, -⟩ := id X.1
  obtain ⟨η, ζ, L, M, Θ, Ξ, h, g, hB, hN, hNR, hH, hG, ⟨ea, er⟩, ⟨R, RP⟩⟩ := hI
  obtain ⟨bb, bm, bl, -⟩ := cT_b hH hN.2.2.2.1 R
  obtain ⟨gb, g1, g4⟩ := rBd_of hG hNR
  obtain ⟨v, h2, g2, e1, e2, dk⟩ := RR_pair (n := 4400) (m := 4400) (x := (xs (i + 1)).toInt) (y := (xs (i + 2)).toInt) (z := (xs (i + 3)).toInt) (w := (xs (i + 4)).toInt) (by decide) (by decide) R (RP trivial).2.2.2.1 (RP trivial).2.2.2.2.1 bl bm.2 (rQ_of hG hNR) g4
  have R2 := dk.1
  have k2 : ∀ k, h2 2 k = h 2 k := fun k => dk.2.2.1 2 k (by omega)
  have w2 : lwF → cW h2 g2 := fun f => (RP f).e dk
  refine lv_aload_n hx hb dL_1015 rfl (lv_at hl 2 rfl) ?_
  refine lw_arg X.1 X.2.1 hS hl 1 hi (by decide) (by decide +kernel) dL_1016 dL_1017 dL_1018 dL_1019 dL_1020 ?_
  refine lw_arg X.1 X.2.1 hS hl 2 hi (by decide) (by decide +kernel) dL_1021 dL_1022 dL_1023 dL_1024 dL_1025 ?_
  refine lw_arg X.1 X.2.1 hS hl 3 hi (by decide) (by decide +kernel) dL_1026 dL_1027 dL_1028 dL_1029 dL_1030 ?_
  refine lw_arg X.1 X.2.1 hS hl 4 hi (by decide) (by decide +kernel) dL_1031 dL_1032 dL_1033 dL_1034 dL_1035 ?_
  refine lwCf (As := [(xs (i + 1)).toInt, (xs (i + 2)).toInt, (xs (i + 3)).toInt, (xs (i + 4)).toInt]) X (m_X11_pair l) (ycv_of yw_X11_pair 96 dL_1036 zlL_96 rfl (by decide +kernel) (by decide +kernel) (zk_ex (kk := 63) (ts := [0, 0, 0, 0]) _ _ rfl (zkK ⟨63, by decide⟩) rfl rfl rfl)) rfl (fun _ hx => by
      simp only [List.mem_cons, List.not_mem_nil, or_false] at hx
      rcases hx with rfl | rfl | rfl | rfl <;> exact ⟨z_lo _, z_hi _⟩) hB hN hH hG ea e1 hS hcs hl (rest := []) (by decide) (by simp only [List.map_cons, List.map_nil, List.reverse_cons, List.reverse_nil, List.nil_append, List.cons_append, z_ofi]) (fun H8 locs8 hH8 hG8 hS8 => ?_)
  refine lv_pop hx hb dL_1039 rfl ?_
  refine lv_aload_n hx hb dL_1040 rfl (lv_at hl 1 rfl) ?_
  refine lw_arg X.1 X.2.1 hS8 hl 1 hi (by decide) (by decide +kernel) dL_1041 dL_1042 dL_1043 dL_1044 dL_1045 ?_
  refine lw_arg X.1 X.2.1 hS8 hl 2 hi (by decide) (by decide +kernel) dL_1046 dL_1047 dL_1048 dL_1049 dL_1050 ?_
  refine lw_arg X.1 X.2.1 hS8 hl 3 hi (by decide) (by decide +kernel) dL_1051 dL_1052 dL_1053 dL_1054 dL_1055 ?_
  refine lw_arg X.1 X.2.1 hS8 hl 4 hi (by decide) (by decide +kernel) dL_1056 dL_1057 dL_1058 dL_1059 dL_1060 ?_
  refine lwRf (As := [(xs (i + 1)).toInt, (xs (i + 2)).toInt, (xs (i + 3)).toInt, (xs (i + 4)).toInt]) X (m_X12_pair l) (ycv_of yw_X12_pair 99 dL_1061 zlL_99 rfl (by decide +kernel) (by decide +kernel) (zk_ex (kk := 35) (ts := [0, 0, 0, 0]) _ _ rfl (zkR ⟨35, by decide⟩) rfl rfl rfl)) rfl (fun _ hx => by
      simp only [List.mem_cons, List.not_mem_nil, or_false] at hx
      rcases hx with rfl | rfl | rfl | rfl <;> exact ⟨z_lo _, z_hi _⟩) hB hNR hH8 hG8 er e2 hS8 hcs hl (rest := []) (by decide) (by simp only [List.map_cons, List.map_nil, List.reverse_cons, List.reverse_nil, List.nil_append, List.cons_append, z_ofi]) (fun H9 locs9 hH9 hG9 hS9 => ?_)
  refine lv_pop hx hb dL_1064 rfl ?_
  refine lv_goto (tgt := 1550) hx hb dL_1065 (by decide) ?_
  exact K H9 locs9 ⟨η, ζ, L, M, Θ, Ξ, h2, g2, hB, hN.keep k2, hNR, hH9, hG9, ⟨ea, er⟩, ⟨R2, fun f => w2 f⟩⟩ hS9
set_option maxHeartbeats 4000000 in
theorem lwc_20 {p : Program} {l : Launch} {e : Env} {s : State} {m : MethodId} {below : List Frame} {meth : Method} {c : Code} {b N : Nat} {xs : Nat → Int32} {Q : State → Prop} {H : Heap} {locs : List Loc} {cells slots : Nat} {ls : Array Slot} {qa qr i : Nat} {D : va_G} {cy : Nat → ClassId} {tb adK adV : Nat → Nat} {fv : Option Nat} (X : lwX l p s m meth c b N xs D cy tb adK adV fv) (hi : i + 6 ≤ N) (hI : lwI lwF s D cy adK qa qr H) (hS : va_S (fun q => s.heap.size ≤ q) s.heap H locs) (hcs : cells ≤ 600000 ∧ slots ≤ 7302250) (hl : lwL ls qa qr i b)
    (K : ∀ (H1 : Heap) (locs1 : List Loc), lwI lwF s D cy adK qa qr H1 → va_S (fun q => s.heap.size ≤ q) s.heap H1 locs1 → W p l e room_1 s m #[Value.ref b] below meth c H1 locs1 (cells) (slots) Q (F0 m 1550 ls [])) : W p l e room_1 s m #[Value.ref b] below meth c H locs cells slots Q (F0 m 1068 ls []) := by
  obtain ⟨hx, hb, -, -, -, -, -, -, -, -⟩ := id X.1
  obtain ⟨η, ζ, L, M, Θ, Ξ, h, g, hB, hN, hNR, hH, hG, ⟨ea, er⟩, ⟨R, RP⟩⟩ := hI
  obtain ⟨bb, bm, bl, -⟩ := cT_b hH hN.2.2.2.1 R
  obtain ⟨gb, g1, g4⟩ := rBd_of hG hNR
  obtain ⟨v, h2, g2, e1, e2, dk⟩ := RR_dispute (n := 7000) (m := 1200000) (x := (xs (i + 1)).toInt) (w := (xs (i + 2)).toInt) (by decide) (by decide) R (RP trivial).2.1 (RP trivial).2.2.2.2.2.1 (RP trivial).2.2.2.2.2.2 bl bm.2 (rQ_of hG hNR) g4
  have R2 := dk.1
  have k2 : ∀ k, h2 2 k = h 2 k := fun k => dk.2.2.1 2 k (by omega)
  have w2 : lwF → cW h2 g2 := fun f => (RP f).o dk
  refine lv_aload_n hx hb dL_1068 rfl (lv_at hl 2 rfl) ?_
  refine lw_arg X.1 X.2.1 hS hl 1 hi (by decide) (by decide +kernel) dL_1069 dL_1070 dL_1071 dL_1072 dL_1073 ?_
  refine lw_arg X.1 X.2.1 hS hl 2 hi (by decide) (by decide +kernel) dL_1074 dL_1075 dL_1076 dL_1077 dL_1078 ?_
  refine lwCf (As := [(xs (i + 1)).toInt, (xs (i + 2)).toInt]) X (m_X11_dispute l) (ycv_of yw_X11_dispute 100 dL_1079 zlL_100 rfl (by decide +kernel) (by decide +kernel) (zk_ex (kk := 63) (ts := [0, 0]) _ _ rfl (zkK ⟨63, by decide⟩) rfl rfl rfl)) rfl (fun _ hx => by
      simp only [List.mem_cons, List.not_mem_nil, or_false] at hx
      rcases hx with rfl | rfl <;> exact ⟨z_lo _, z_hi _⟩) hB hN hH hG ea e1 hS hcs hl (rest := []) (by decide) (by simp only [List.map_cons, List.map_nil, List.reverse_cons, List.reverse_nil, List.nil_append, List.cons_append, z_ofi]) (fun H8 locs8 hH8 hG8 hS8 => ?_)
  refine lv_pop hx hb dL_1082 rfl ?_
  refine lv_aload_n hx hb dL_1083 rfl (lv_at hl 1 rfl) ?_
  refine lw_arg X.1 X.2.1 hS8 hl 1 hi (by decide) (by decide +kernel) dL_1084 dL_1085 dL_1086 dL_1087 dL_1088 ?_
  refine lw_arg X.1 X.2.1 hS8 hl 2 hi (by decide) (by decide +kernel) dL_1089 dL_1090 dL_1091 dL_1092 dL_1093 ?_
  refine lwRf (As := [(xs (i + 1)).toInt, (xs (i + 2)).toInt]) X (m_X12_dispute l) (ycv_of yw_X12_dispute 103 dL_1094 zlL_103 rfl (by decide +kernel) (by decide +kernel) (zk_ex (kk := 35) (ts := [0, 0]) _ _ rfl (zkR ⟨35, by decide⟩) rfl rfl rfl)) rfl (fun _ hx => by
      simp only [List.mem_cons, List.not_mem_nil, or_false] at hx
      rcases hx with rfl | rfl <;> exact ⟨z_lo _, z_hi _⟩) hB hNR hH8 hG8 er e2 hS8 hcs hl (rest := []) (by decide) (by simp only [List.map_cons, List.map_nil, List.reverse_cons, List.reverse_nil, List.nil_append, List.cons_append, z_ofi]) (fun H9 locs9 hH9 hG9 hS9 => ?_)
  refine lv_pop hx hb dL_1097 rfl ?_
  refine lv_goto (tgt := 1550) hx hb dL_1098 (by decide) ?_
  exact K H9 locs9 ⟨η, ζ, L, M, Θ, Ξ, h2, g2, hB, hN.keep k2, hNR, hH9, hG9, ⟨ea, er⟩, ⟨R2, fun f => w2 f⟩⟩ hS9
set_option maxHeartbeats 4000000 in
theorem lwc_21 {p : Program} {l : Launch} {e : Env} {s : State} {m : MethodId} {below : List Frame} {meth : Method} {c : Code} {b N : Nat} {xs : Nat → Int32} {Q : State → Prop} {H : Heap} {locs : List Loc} {cells slots : Nat} {ls : Array Slot} {qa qr i : Nat} {D : va_G} {cy : Nat → ClassId} {tb adK adV : Nat → Nat} {fv : Option Nat} (X : lwX l p s m meth c b N xs D cy tb adK adV fv) (hi : i + 6 ≤ N) (hI : lwI lwF s D cy adK qa qr H) (hS : va_S (fun q => s.heap.size ≤ q) s.heap H locs) (hcs : cells ≤ 600000 ∧ slots ≤ 7302250) (hl : lwL ls qa qr i b)
    (K : ∀ (H1 : Heap) (locs1 : List Loc), lwI lwF s D cy adK qa qr H1 → va_S (fun q => s.heap.size ≤ q) s.heap H1 locs1 → W p l e room_1 s m #[Value.ref b] below meth c H1 locs1 (cells) (slots) Q (F0 m 1550 ls [])) : W p l e room_1 s m #[Value.ref b] below meth c H locs cells slots Q (F0 m 1101 ls []) := by
  obtain ⟨hx, hb, -, -, -, -, -, -, -, -⟩ := id X.1
  obtain ⟨η, ζ, L, M, Θ, Ξ, h, g, hB, hN, hNR, hH, hG, ⟨ea, er⟩, ⟨R, RP⟩⟩ := hI
  obtain ⟨bb, bm, bl, -⟩ := cT_b hH hN.2.2.2.1 R
  obtain ⟨gb, g1, g4⟩ := rBd_of hG hNR
  by_cases hz : xs (i + 3) = 0
  · obtain ⟨v, h2, g2, e1, e2, dk⟩ := RR_hours (n := 700) (m := 700) (x := (xs (i + 1)).toInt) (y := (xs (i + 2)).toInt) (z := (0 : Int32).toInt) (by decide) (by decide) R (RP trivial).2.1 (RP trivial).2.2.2.2.2.1 (RP trivial).2.2.2.2.2.2 bl bm.2 (rQ_of hG hNR) g4
    have R2 := dk.1
    have k2 : ∀ k, h2 2 k = h 2 k := fun k => dk.2.2.1 2 k (by omega)
    have w2 : lwF → cW h2 g2 := fun f => (RP f).o dk
    refine lv_aload_n hx hb dL_1101 rfl (lv_at hl 2 rfl) ?_
    refine lw_arg X.1 X.2.1 hS hl 1 hi (by decide) (by decide +kernel) dL_1102 dL_1103 dL_1104 dL_1105 dL_1106 ?_
    refine lw_arg X.1 X.2.1 hS hl 2 hi (by decide) (by decide +kernel) dL_1107 dL_1108 dL_1109 dL_1110 dL_1111 ?_
    refine lw_arg X.1 X.2.1 hS hl 3 hi (by decide) (by decide +kernel) dL_1112 dL_1113 dL_1114 dL_1115 dL_1116 ?_
    refine lv_if_eq (tgt := 1124) hx hb dL_1117 (by decide) (fun _ => ?_) (fun c => absurd hz c)
    refine lv_iconst (v := 0) hx hb dL_1124 (by decide +kernel) ?_
    refine lwCf (As := [(xs (i + 1)).toInt, (xs (i + 2)).toInt, (0 : Int32).toInt]) X (m_X11_hours l) (ycv_of yw_X11_hours 104 dL_1125 zlL_104 rfl (by decide +kernel) (by decide +kernel) (zk_ex (kk := 63) (ts := [0, 0, 0]) _ _ rfl (zkK ⟨63, by decide⟩) rfl rfl rfl)) rfl (fun _ hx => by
      simp only [List.mem_cons, List.not_mem_nil, or_false] at hx
      rcases hx with rfl | rfl | rfl <;> exact ⟨z_lo _, z_hi _⟩) hB hN hH hG ea e1 hS hcs hl (rest := []) (by decide) (by simp only [List.map_cons, List.map_nil, List.reverse_cons, List.reverse_nil, List.nil_append, List.cons_append, z_ofi]) (fun H8 locs8 hH8 hG8 hS8 => ?_)
    refine lv_pop hx hb dL_1128 rfl ?_
    refine lv_aload_n hx hb dL_1129 rfl (lv_at hl 1 rfl) ?_
    refine lw_arg X.1 X.2.1 hS8 hl 1 hi (by decide) (by decide +kernel) dL_1130 dL_1131 dL_1132 dL_1133 dL_1134 ?_
    refine lw_arg X.1 X.2.1 hS8 hl 2 hi (by decide) (by decide +kernel) dL_1135 dL_1136 dL_1137 dL_1138 dL_1139 ?_
    refine lw_arg X.1 X.2.1 hS8 hl 3 hi (by decide) (by decide +kernel) dL_1140 dL_1141 dL_1142 dL_1143 dL_1144 ?_
    refine lv_if_eq (tgt := 1152) hx hb dL_1145 (by decide) (fun _ => ?_) (fun c => absurd hz c)
    refine lv_iconst (v := 0) hx hb dL_1152 (by decide +kernel) ?_
    refine lwRf (As := [(xs (i + 1)).toInt, (xs (i + 2)).toInt, (0 : Int32).toInt]) X (m_X12_hours l) (ycv_of yw_X12_hours 107 dL_1153 zlL_107 rfl (by decide +kernel) (by decide +kernel) (zk_ex (kk := 35) (ts := [0, 0, 0]) _ _ rfl (zkR ⟨35, by decide⟩) rfl rfl rfl)) rfl (fun _ hx => by
      simp only [List.mem_cons, List.not_mem_nil, or_false] at hx
      rcases hx with rfl | rfl | rfl <;> exact ⟨z_lo _, z_hi _⟩) hB hNR hH8 hG8 er e2 hS8 hcs hl (rest := []) (by decide) (by simp only [List.map_cons, List.map_nil, List.reverse_cons, List.reverse_nil, List.nil_append, List.cons_append, z_ofi]) (fun H9 locs9 hH9 hG9 hS9 => ?_)
    refine lv_pop hx hb dL_1156 rfl ?_
    refine lv_goto (tgt := 1550) hx hb dL_1157 (by decide) ?_
    exact K H9 locs9 ⟨η, ζ, L, M, Θ, Ξ, h2, g2, hB, hN.keep k2, hNR, hH9, hG9, ⟨ea, er⟩, ⟨R2, fun f => w2 f⟩⟩ hS9
  · obtain ⟨v, h2, g2, e1, e2, dk⟩ := RR_hours (n := 700) (m := 700) (x := (xs (i + 1)).toInt) (y := (xs (i + 2)).toInt) (z := (1 : Int32).toInt) (by decide) (by decide) R (RP trivial).2.1 (RP trivial).2.2.2.2.2.1 (RP trivial).2.2.2.2.2.2 bl bm.2 (rQ_of hG hNR) g4
    have R2 := dk.1
    have k2 : ∀ k, h2 2 k = h 2 k := fun k => dk.2.2.1 2 k (by omega)
    have w2 : lwF → cW h2 g2 := fun f => (RP f).o dk
    refine lv_aload_n hx hb dL_1101 rfl (lv_at hl 2 rfl) ?_
    refine lw_arg X.1 X.2.1 hS hl 1 hi (by decide) (by decide +kernel) dL_1102 dL_1103 dL_1104 dL_1105 dL_1106 ?_
    refine lw_arg X.1 X.2.1 hS hl 2 hi (by decide) (by decide +kernel) dL_1107 dL_1108 dL_1109 dL_1110 dL_1111 ?_
    refine lw_arg X.1 X.2.1 hS hl 3 hi (by decide) (by decide +kernel) dL_1112 dL_1113 dL_1114 dL_1115 dL_1116 ?_
    refine lv_if_eq (tgt := 1124) hx hb dL_1117 (by decide) (fun c => absurd c hz) (fun _ => ?_)
    refine lv_iconst (v := 1) hx hb dL_1120 (by decide +kernel) ?_
    refine lv_goto (tgt := 1125) hx hb dL_1121 (by decide) ?_
    refine lwCf (As := [(xs (i + 1)).toInt, (xs (i + 2)).toInt, (1 : Int32).toInt]) X (m_X11_hours l) (ycv_of yw_X11_hours 104 dL_1125 zlL_104 rfl (by decide +kernel) (by decide +kernel) (zk_ex (kk := 63) (ts := [0, 0, 0]) _ _ rfl (zkK ⟨63, by decide⟩) rfl rfl rfl)) rfl (fun _ hx => by
      simp only [List.mem_cons, List.not_mem_nil, or_false] at hx
      rcases hx with rfl | rfl | rfl <;> exact ⟨z_lo _, z_hi _⟩) hB hN hH hG ea e1 hS hcs hl (rest := []) (by decide) (by simp only [List.map_cons, List.map_nil, List.reverse_cons, List.reverse_nil, List.nil_append, List.cons_append, z_ofi]) (fun H8 locs8 hH8 hG8 hS8 => ?_)
    refine lv_pop hx hb dL_1128 rfl ?_
    refine lv_aload_n hx hb dL_1129 rfl (lv_at hl 1 rfl) ?_
    refine lw_arg X.1 X.2.1 hS8 hl 1 hi (by decide) (by decide +kernel) dL_1130 dL_1131 dL_1132 dL_1133 dL_1134 ?_
    refine lw_arg X.1 X.2.1 hS8 hl 2 hi (by decide) (by decide +kernel) dL_1135 dL_1136 dL_1137 dL_1138 dL_1139 ?_
    refine lw_arg X.1 X.2.1 hS8 hl 3 hi (by decide) (by decide +kernel) dL_1140 dL_1141 dL_1142 dL_1143 dL_1144 ?_
    refine lv_if_eq (tgt := 1152) hx hb dL_1145 (by decide) (fun c => absurd c hz) (fun _ => ?_)
    refine lv_iconst (v := 1) hx hb dL_1148 (by decide +kernel) ?_
    refine lv_goto (tgt := 1153) hx hb dL_1149 (by decide) ?_
    refine lwRf (As := [(xs (i + 1)).toInt, (xs (i + 2)).toInt, (1 : Int32).toInt]) X (m_X12_hours l) (ycv_of yw_X12_hours 107 dL_1153 zlL_107 rfl (by decide +kernel) (by decide +kernel) (zk_ex (kk := 35) (ts := [0, 0, 0]) _ _ rfl (zkR ⟨35, by decide⟩) rfl rfl rfl)) rfl (fun _ hx => by
      simp only [List.mem_cons, List.not_mem_nil, or_false] at hx
      rcases hx with rfl | rfl | rfl <;> exact ⟨z_lo _, z_hi _⟩) hB hNR hH8 hG8 er e2 hS8 hcs hl (rest := []) (by decide) (by simp only [List.map_cons, List.map_nil, List.reverse_cons, List.reverse_nil, List.nil_append, List.cons_append, z_ofi]) (fun H9 locs9 hH9 hG9 hS9 => ?_)
    refine lv_pop hx hb dL_1156 rfl ?_
    refine lv_goto (tgt := 1550) hx hb dL_1157 (by decide) ?_
    exact K H9 locs9 ⟨η, ζ, L, M, Θ, Ξ, h2, g2, hB, hN.keep k2, hNR, hH9, hG9, ⟨ea, er⟩, ⟨R2, fun f => w2 f⟩⟩ hS9
set_option maxHeartbeats 4000000 in
theorem lwc_22 {p : Program} {l : Launch} {e : Env} {s : State} {m : MethodId} {below : List Frame} {meth : Method} {c : Code} {b N : Nat} {xs : Nat → Int32} {Q : State → Prop} {H : Heap} {locs : List Loc} {cells slots : Nat} {ls : Array Slot} {qa qr i : Nat} {D : va_G} {cy : Nat → ClassId} {tb adK adV : Nat → Nat} {fv : Option Nat} (X : lwX l p s m meth c b N xs D cy tb adK adV fv) (hi : i + 6 ≤ N) (hI : lwI lwF s D cy adK qa qr H) (hS : va_S (fun q => s.heap.size ≤ q) s.heap H locs) (hcs : cells ≤ 600000 ∧ slots ≤ 7302250) (hl : lwL ls qa qr i b)
    (K : ∀ (H1 : Heap) (locs1 : List Loc), lwI lwF s D cy adK qa qr H1 → va_S (fun q => s.heap.size ≤ q) s.heap H1 locs1 → W p l e room_1 s m #[Value.ref b] below meth c H1 locs1 (cells) (slots) Q (F0 m 1550 ls [])) : W p l e room_1 s m #[Value.ref b] below meth c H locs cells slots Q (F0 m 1160 ls []) := by
  obtain ⟨hx, hb, -, -, -, -, -, -, -, -⟩ := id X.1
  obtain ⟨η, ζ, L, M, Θ, Ξ, h, g, hB, hN, hNR, hH, hG, ⟨ea, er⟩, ⟨R, RP⟩⟩ := hI
  obtain ⟨bb, bm, bl, -⟩ := cT_b hH hN.2.2.2.1 R
  obtain ⟨gb, g1, g4⟩ := rBd_of hG hNR
  obtain ⟨v, h2, g2, e1, e2, dk⟩ := RR_gulls (n := 300) (m := 300) (x := (xs (i + 1)).toInt) (y := (xs (i + 2)).toInt) (sd := (xs (i + 3)).toInt) (k := (xs (i + 4)).toInt) (w := (xs (i + 5)).toInt) (by decide) (by decide) ⟨z_lo _, z_hi _⟩ R (RP trivial).2.1 (RP trivial).2.2.1.2 (RP trivial).2.2.1.1 bl bm.2 (rQ_of hG hNR) g4
  have R2 := dk.1
  have k2 : ∀ k, h2 2 k = h 2 k := fun k => dk.2.2.1 2 k (by omega)
  have w2 : lwF → cW h2 g2 := fun f => (RP f).d dk
  refine lv_aload_n hx hb dL_1160 rfl (lv_at hl 2 rfl) ?_
  refine lw_arg X.1 X.2.1 hS hl 1 hi (by decide) (by decide +kernel) dL_1161 dL_1162 dL_1163 dL_1164 dL_1165 ?_
  refine lw_arg X.1 X.2.1 hS hl 2 hi (by decide) (by decide +kernel) dL_1166 dL_1167 dL_1168 dL_1169 dL_1170 ?_
  refine lw_arg X.1 X.2.1 hS hl 3 hi (by decide) (by decide +kernel) dL_1171 dL_1172 dL_1173 dL_1174 dL_1175 ?_
  refine lw_arg X.1 X.2.1 hS hl 4 hi (by decide) (by decide +kernel) dL_1176 dL_1177 dL_1178 dL_1179 dL_1180 ?_
  refine lw_arg X.1 X.2.1 hS hl 5 hi (by decide) (by decide +kernel) dL_1181 dL_1182 dL_1183 dL_1184 dL_1185 ?_
  refine lwCf (As := [(xs (i + 1)).toInt, (xs (i + 2)).toInt, (xs (i + 3)).toInt, (xs (i + 4)).toInt, (xs (i + 5)).toInt]) X (m_X11_gulls l) (ycv_of yw_X11_gulls 108 dL_1186 zlL_108 rfl (by decide +kernel) (by decide +kernel) (zk_ex (kk := 63) (ts := [0, 0, 0, 0, 0]) _ _ rfl (zkK ⟨63, by decide⟩) rfl rfl rfl)) rfl (fun _ hx => by
      simp only [List.mem_cons, List.not_mem_nil, or_false] at hx
      rcases hx with rfl | rfl | rfl | rfl | rfl <;> exact ⟨z_lo _, z_hi _⟩) hB hN hH hG ea e1 hS hcs hl (rest := []) (by decide) (by simp only [List.map_cons, List.map_nil, List.reverse_cons, List.reverse_nil, List.nil_append, List.cons_append, z_ofi]) (fun H8 locs8 hH8 hG8 hS8 => ?_)
  refine lv_pop hx hb dL_1189 rfl ?_
  refine lv_aload_n hx hb dL_1190 rfl (lv_at hl 1 rfl) ?_
  refine lw_arg X.1 X.2.1 hS8 hl 1 hi (by decide) (by decide +kernel) dL_1191 dL_1192 dL_1193 dL_1194 dL_1195 ?_
  refine lw_arg X.1 X.2.1 hS8 hl 2 hi (by decide) (by decide +kernel) dL_1196 dL_1197 dL_1198 dL_1199 dL_1200 ?_
  refine lw_arg X.1 X.2.1 hS8 hl 3 hi (by decide) (by decide +kernel) dL_1201 dL_1202 dL_1203 dL_1204 dL_1205 ?_
  refine lw_arg X.1 X.2.1 hS8 hl 4 hi (by decide) (by decide +kernel) dL_1206 dL_1207 dL_1208 dL_1209 dL_1210 ?_
  refine lw_arg X.1 X.2.1 hS8 hl 5 hi (by decide) (by decide +kernel) dL_1211 dL_1212 dL_1213 dL_1214 dL_1215 ?_
  refine lwRf (As := [(xs (i + 1)).toInt, (xs (i + 2)).toInt, (xs (i + 3)).toInt, (xs (i + 4)).toInt, (xs (i + 5)).toInt]) X (m_X12_gulls l) (ycv_of yw_X12_gulls 111 dL_1216 zlL_111 rfl (by decide +kernel) (by decide +kernel) (zk_ex (kk := 35) (ts := [0, 0, 0, 0, 0]) _ _ rfl (zkR ⟨35, by decide⟩) rfl rfl rfl)) rfl (fun _ hx => by
      simp only [List.mem_cons, List.not_mem_nil, or_false] at hx
      rcases hx with rfl | rfl | rfl | rfl | rfl <;> exact ⟨z_lo _, z_hi _⟩) hB hNR hH8 hG8 er e2 hS8 hcs hl (rest := []) (by decide) (by simp only [List.map_cons, List.map_nil, List.reverse_cons, List.reverse_nil, List.nil_append, List.cons_append, z_ofi]) (fun H9 locs9 hH9 hG9 hS9 => ?_)
  refine lv_pop hx hb dL_1219 rfl ?_
  refine lv_goto (tgt := 1550) hx hb dL_1220 (by decide) ?_
  exact K H9 locs9 ⟨η, ζ, L, M, Θ, Ξ, h2, g2, hB, hN.keep k2, hNR, hH9, hG9, ⟨ea, er⟩, ⟨R2, fun f => w2 f⟩⟩ hS9
set_option maxHeartbeats 4000000 in
theorem lwc_23 {p : Program} {l : Launch} {e : Env} {s : State} {m : MethodId} {below : List Frame} {meth : Method} {c : Code} {b N : Nat} {xs : Nat → Int32} {Q : State → Prop} {H : Heap} {locs : List Loc} {cells slots : Nat} {ls : Array Slot} {qa qr i : Nat} {D : va_G} {cy : Nat → ClassId} {tb adK adV : Nat → Nat} {fv : Option Nat} (X : lwX l p s m meth c b N xs D cy tb adK adV fv) (hi : i + 6 ≤ N) (hI : lwI lwF s D cy adK qa qr H) (hS : va_S (fun q => s.heap.size ≤ q) s.heap H locs) (hcs : cells ≤ 600000 ∧ slots ≤ 7302250) (hl : lwL ls qa qr i b)
    (K : ∀ (H1 : Heap) (locs1 : List Loc), lwI lwF s D cy adK qa qr H1 → va_S (fun q => s.heap.size ≤ q) s.heap H1 locs1 → W p l e room_1 s m #[Value.ref b] below meth c H1 locs1 (cells) (slots) Q (F0 m 1550 ls [])) : W p l e room_1 s m #[Value.ref b] below meth c H locs cells slots Q (F0 m 1223 ls []) := by
  obtain ⟨hx, hb, -, -, -, -, -, -, -, -⟩ := id X.1
  obtain ⟨η, ζ, L, M, Θ, Ξ, h, g, hB, hN, hNR, hH, hG, ⟨ea, er⟩, ⟨R, RP⟩⟩ := hI
  obtain ⟨bb, bm, bl, -⟩ := cT_b hH hN.2.2.2.1 R
  obtain ⟨gb, g1, g4⟩ := rBd_of hG hNR
  obtain ⟨v, h2, g2, e1, e2, dk⟩ := RR_lack (n := 300) (m := 300) (x := (xs (i + 1)).toInt) (y := (xs (i + 2)).toInt) (z := (xs (i + 3)).toInt) (k := (xs (i + 4)).toInt) (w := (xs (i + 5)).toInt) (by decide) (by decide) R (RP trivial).2.1 (RP trivial).2.2.1.2 (RP trivial).2.2.1.1 bl bm.2 (rQ_of hG hNR) g4
  have R2 := dk.1
  have k2 : ∀ k, h2 2 k = h 2 k := fun k => dk.2.2.1 2 k (by omega)
  have w2 : lwF → cW h2 g2 := fun f => (RP f).d dk
  refine lv_aload_n hx hb dL_1223 rfl (lv_at hl 2 rfl) ?_
  refine lw_arg X.1 X.2.1 hS hl 1 hi (by decide) (by decide +kernel) dL_1224 dL_1225 dL_1226 dL_1227 dL_1228 ?_
  refine lw_arg X.1 X.2.1 hS hl 2 hi (by decide) (by decide +kernel) dL_1229 dL_1230 dL_1231 dL_1232 dL_1233 ?_
  refine lw_arg X.1 X.2.1 hS hl 3 hi (by decide) (by decide +kernel) dL_1234 dL_1235 dL_1236 dL_1237 dL_1238 ?_
  refine lw_arg X.1 X.2.1 hS hl 4 hi (by decide) (by decide +kernel) dL_1239 dL_1240 dL_1241 dL_1242 dL_1243 ?_
  refine lw_arg X.1 X.2.1 hS hl 5 hi (by decide) (by decide +kernel) dL_1244 dL_1245 dL_1246 dL_1247 dL_1248 ?_
  refine lwCf (As := [(xs (i + 1)).toInt, (xs (i + 2)).toInt, (xs (i + 3)).toInt, (xs (i + 4)).toInt, (xs (i + 5)).toInt]) X (m_X11_lack l) (ycv_of yw_X11_lack 112 dL_1249 zlL_112 rfl (by decide +kernel) (by decide +kernel) (zk_ex (kk := 63) (ts := [0, 0, 0, 0, 0]) _ _ rfl (zkK ⟨63, by decide⟩) rfl rfl rfl)) rfl (fun _ hx => by
      simp only [List.mem_cons, List.not_mem_nil, or_false] at hx
      rcases hx with rfl | rfl | rfl | rfl | rfl <;> exact ⟨z_lo _, z_hi _⟩) hB hN hH hG ea e1 hS hcs hl (rest := []) (by decide) (by simp only [List.map_cons, List.map_nil, List.reverse_cons, List.reverse_nil, List.nil_append, List.cons_append, z_ofi]) (fun H8 locs8 hH8 hG8 hS8 => ?_)
  refine lv_pop hx hb dL_1252 rfl ?_
  refine lv_aload_n hx hb dL_1253 rfl (lv_at hl 1 rfl) ?_
  refine lw_arg X.1 X.2.1 hS8 hl 1 hi (by decide) (by decide +kernel) dL_1254 dL_1255 dL_1256 dL_1257 dL_1258 ?_
  refine lw_arg X.1 X.2.1 hS8 hl 2 hi (by decide) (by decide +kernel) dL_1259 dL_1260 dL_1261 dL_1262 dL_1263 ?_
  refine lw_arg X.1 X.2.1 hS8 hl 3 hi (by decide) (by decide +kernel) dL_1264 dL_1265 dL_1266 dL_1267 dL_1268 ?_
  refine lw_arg X.1 X.2.1 hS8 hl 4 hi (by decide) (by decide +kernel) dL_1269 dL_1270 dL_1271 dL_1272 dL_1273 ?_
  refine lw_arg X.1 X.2.1 hS8 hl 5 hi (by decide) (by decide +kernel) dL_1274 dL_1275 dL_1276 dL_1277 dL_1278 ?_
  refine lwRf (As := [(xs (i + 1)).toInt, (xs (i + 2)).toInt, (xs (i + 3)).toInt, (xs (i + 4)).toInt, (xs (i + 5)).toInt]) X (m_X12_lack l) (ycv_of yw_X12_lack 115 dL_1279 zlL_115 rfl (by decide +kernel) (by decide +kernel) (zk_ex (kk := 35) (ts := [0, 0, 0, 0, 0]) _ _ rfl (zkR ⟨35, by decide⟩) rfl rfl rfl)) rfl (fun _ hx => by
      simp only [List.mem_cons, List.not_mem_nil, or_false] at hx
      rcases hx with rfl | rfl | rfl | rfl | rfl <;> exact ⟨z_lo _, z_hi _⟩) hB hNR hH8 hG8 er e2 hS8 hcs hl (rest := []) (by decide) (by simp only [List.map_cons, List.map_nil, List.reverse_cons, List.reverse_nil, List.nil_append, List.cons_append, z_ofi]) (fun H9 locs9 hH9 hG9 hS9 => ?_)
  refine lv_pop hx hb dL_1282 rfl ?_
  refine lv_goto (tgt := 1550) hx hb dL_1283 (by decide) ?_
  exact K H9 locs9 ⟨η, ζ, L, M, Θ, Ξ, h2, g2, hB, hN.keep k2, hNR, hH9, hG9, ⟨ea, er⟩, ⟨R2, fun f => w2 f⟩⟩ hS9
set_option maxHeartbeats 4000000 in
theorem lwc_24 {p : Program} {l : Launch} {e : Env} {s : State} {m : MethodId} {below : List Frame} {meth : Method} {c : Code} {b N : Nat} {xs : Nat → Int32} {Q : State → Prop} {H : Heap} {locs : List Loc} {cells slots : Nat} {ls : Array Slot} {qa qr i : Nat} {D : va_G} {cy : Nat → ClassId} {tb adK adV : Nat → Nat} {fv : Option Nat} (X : lwX l p s m meth c b N xs D cy tb adK adV fv) (hi : i + 6 ≤ N) (hI : lwI lwF s D cy adK qa qr H) (hS : va_S (fun q => s.heap.size ≤ q) s.heap H locs) (hcs : cells ≤ 600000 ∧ slots ≤ 7302250) (hl : lwL ls qa qr i b)
    (K : ∀ (H1 : Heap) (locs1 : List Loc), lwI lwF s D cy adK qa qr H1 → va_S (fun q => s.heap.size ≤ q) s.heap H1 locs1 → W p l e room_1 s m #[Value.ref b] below meth c H1 locs1 (cells) (slots) Q (F0 m 1550 ls [])) : W p l e room_1 s m #[Value.ref b] below meth c H locs cells slots Q (F0 m 1286 ls []) := by
  obtain ⟨hx, hb, -, -, -, -, -, -, -, -⟩ := id X.1
  obtain ⟨η, ζ, L, M, Θ, Ξ, h, g, hB, hN, hNR, hH, hG, ⟨ea, er⟩, ⟨R, RP⟩⟩ := hI
  obtain ⟨bb, bm, bl, -⟩ := cT_b hH hN.2.2.2.1 R
  obtain ⟨gb, g1, g4⟩ := rBd_of hG hNR
  obtain ⟨v, h2, g2, e1, e2, R2, kk⟩ := RR_least (n := 300) (m := 300) (x := (xs (i + 1)).toInt) (k := (xs (i + 2)).toInt) (w := (xs (i + 3)).toInt) (by decide) (by decide) R (RP trivial).p bl bm.2 (rQ_of hG hNR) g4
  have k2 : ∀ k, h2 2 k = h 2 k := fun k => kk 2 k
  have w2 : lwF → cW h2 g2 := fun f => ((RP f).c ((RP f).p.fr (fun a j _ => kk a j)) ((RP f).2.2.fr (fun a j _ => kk a j))).r (frK_least (h := h) (by decide) R (rQ_of hG hNR) g4 e2)
  refine lv_aload_n hx hb dL_1286 rfl (lv_at hl 2 rfl) ?_
  refine lw_arg X.1 X.2.1 hS hl 1 hi (by decide) (by decide +kernel) dL_1287 dL_1288 dL_1289 dL_1290 dL_1291 ?_
  refine lw_arg X.1 X.2.1 hS hl 2 hi (by decide) (by decide +kernel) dL_1292 dL_1293 dL_1294 dL_1295 dL_1296 ?_
  refine lw_arg X.1 X.2.1 hS hl 3 hi (by decide) (by decide +kernel) dL_1297 dL_1298 dL_1299 dL_1300 dL_1301 ?_
  refine lwCf (As := [(xs (i + 1)).toInt, (xs (i + 2)).toInt, (xs (i + 3)).toInt]) X (m_X11_least l) (ycv_of yw_X11_least 116 dL_1302 zlL_116 rfl (by decide +kernel) (by decide +kernel) (zk_ex (kk := 63) (ts := [0, 0, 0]) _ _ rfl (zkK ⟨63, by decide⟩) rfl rfl rfl)) rfl (fun _ hx => by
      simp only [List.mem_cons, List.not_mem_nil, or_false] at hx
      rcases hx with rfl | rfl | rfl <;> exact ⟨z_lo _, z_hi _⟩) hB hN hH hG ea e1 hS hcs hl (rest := []) (by decide) (by simp only [List.map_cons, List.map_nil, List.reverse_cons, List.reverse_nil, List.nil_append, List.cons_append, z_ofi]) (fun H8 locs8 hH8 hG8 hS8 => ?_)
  refine lv_pop hx hb dL_1305 rfl ?_
  refine lv_aload_n hx hb dL_1306 rfl (lv_at hl 1 rfl) ?_
  refine lw_arg X.1 X.2.1 hS8 hl 1 hi (by decide) (by decide +kernel) dL_1307 dL_1308 dL_1309 dL_1310 dL_1311 ?_
  refine lw_arg X.1 X.2.1 hS8 hl 2 hi (by decide) (by decide +kernel) dL_1312 dL_1313 dL_1314 dL_1315 dL_1316 ?_
  refine lw_arg X.1 X.2.1 hS8 hl 3 hi (by decide) (by decide +kernel) dL_1317 dL_1318 dL_1319 dL_1320 dL_1321 ?_
  refine lwRf (As := [(xs (i + 1)).toInt, (xs (i + 2)).toInt, (xs (i + 3)).toInt]) X (m_X12_least l) (ycv_of yw_X12_least 119 dL_1322 zlL_119 rfl (by decide +kernel) (by decide +kernel) (zk_ex (kk := 35) (ts := [0, 0, 0]) _ _ rfl (zkR ⟨35, by decide⟩) rfl rfl rfl)) rfl (fun _ hx => by
      simp only [List.mem_cons, List.not_mem_nil, or_false] at hx
      rcases hx with rfl | rfl | rfl <;> exact ⟨z_lo _, z_hi _⟩) hB hNR hH8 hG8 er e2 hS8 hcs hl (rest := []) (by decide) (by simp only [List.map_cons, List.map_nil, List.reverse_cons, List.reverse_nil, List.nil_append, List.cons_append, z_ofi]) (fun H9 locs9 hH9 hG9 hS9 => ?_)
  refine lv_pop hx hb dL_1325 rfl ?_
  refine lv_goto (tgt := 1550) hx hb dL_1326 (by decide) ?_
  exact K H9 locs9 ⟨η, ζ, L, M, Θ, Ξ, h2, g2, hB, hN.keep k2, hNR, hH9, hG9, ⟨ea, er⟩, ⟨R2, fun f => w2 f⟩⟩ hS9
set_option maxHeartbeats 4000000 in
theorem lwc_25 {p : Program} {l : Launch} {e : Env} {s : State} {m : MethodId} {below : List Frame} {meth : Method} {c : Code} {b N : Nat} {xs : Nat → Int32} {Q : State → Prop} {H : Heap} {locs : List Loc} {cells slots : Nat} {ls : Array Slot} {qa qr i : Nat} {D : va_G} {cy : Nat → ClassId} {tb adK adV : Nat → Nat} {fv : Option Nat} (X : lwX l p s m meth c b N xs D cy tb adK adV fv) (hi : i + 6 ≤ N) (hI : lwI lwF s D cy adK qa qr H) (hS : va_S (fun q => s.heap.size ≤ q) s.heap H locs) (hcs : cells ≤ 600000 ∧ slots ≤ 7302250) (hl : lwL ls qa qr i b)
    (K : ∀ (H1 : Heap) (locs1 : List Loc), lwI lwF s D cy adK qa qr H1 → va_S (fun q => s.heap.size ≤ q) s.heap H1 locs1 → W p l e room_1 s m #[Value.ref b] below meth c H1 locs1 (cells) (slots) Q (F0 m 1550 ls [])) : W p l e room_1 s m #[Value.ref b] below meth c H locs cells slots Q (F0 m 1329 ls []) := by
  obtain ⟨hx, hb, -, -, -, -, -, -, -, -⟩ := id X.1
  obtain ⟨η, ζ, L, M, Θ, Ξ, h, g, hB, hN, hNR, hH, hG, ⟨ea, er⟩, ⟨R, RP⟩⟩ := hI
  obtain ⟨bb, bm, bl, -⟩ := cT_b hH hN.2.2.2.1 R
  obtain ⟨gb, g1, g4⟩ := rBd_of hG hNR
  obtain ⟨v, h2, g2, e1, e2, ⟨R2, w1⟩, kw⟩ := RR_winds2 (n := 300) (m := 300) (x := (xs (i + 1)).toInt) (w := (xs (i + 2)).toInt) (by decide) (by decide) R (RP trivial).p bl bm.2 (rQ_of hG hNR) g4
  have k2 : ∀ k, h2 2 k = h 2 k := fun k => kw 2 k (by omega)
  have w2 : lwF → cW h2 g2 := fun f => ((RP f).c w1 ((RP f).2.2.fr (fun a j q => kw a j (by omega)))).r (frK_winds (h := h) (by decide) R (rQ_of hG hNR) g4 e2)
  refine lv_aload_n hx hb dL_1329 rfl (lv_at hl 2 rfl) ?_
  refine lw_arg X.1 X.2.1 hS hl 1 hi (by decide) (by decide +kernel) dL_1330 dL_1331 dL_1332 dL_1333 dL_1334 ?_
  refine lw_arg X.1 X.2.1 hS hl 2 hi (by decide) (by decide +kernel) dL_1335 dL_1336 dL_1337 dL_1338 dL_1339 ?_
  refine lwCf (As := [(xs (i + 1)).toInt, (xs (i + 2)).toInt]) X (m_X11_winds l) (ycv_of yw_X11_winds 120 dL_1340 zlL_120 rfl (by decide +kernel) (by decide +kernel) (zk_ex (kk := 63) (ts := [0, 0]) _ _ rfl (zkK ⟨63, by decide⟩) rfl rfl rfl)) rfl (fun _ hx => by
      simp only [List.mem_cons, List.not_mem_nil, or_false] at hx
      rcases hx with rfl | rfl <;> exact ⟨z_lo _, z_hi _⟩) hB hN hH hG ea e1 hS hcs hl (rest := []) (by decide) (by simp only [List.map_cons, List.map_nil, List.reverse_cons, List.reverse_nil, List.nil_append, List.cons_append, z_ofi]) (fun H8 locs8 hH8 hG8 hS8 => ?_)
  refine lv_pop hx hb dL_1343 rfl ?_
  refine lv_aload_n hx hb dL_1344 rfl (lv_at hl 1 rfl) ?_
  refine lw_arg X.1 X.2.1 hS8 hl 1 hi (by decide) (by decide +kernel) dL_1345 dL_1346 dL_1347 dL_1348 dL_1349 ?_
  refine lw_arg X.1 X.2.1 hS8 hl 2 hi (by decide) (by decide +kernel) dL_1350 dL_1351 dL_1352 dL_1353 dL_1354 ?_
  refine lwRf (As := [(xs (i + 1)).toInt, (xs (i + 2)).toInt]) X (m_X12_winds l) (ycv_of yw_X12_winds 123 dL_1355 zlL_123 rfl (by decide +kernel) (by decide +kernel) (zk_ex (kk := 35) (ts := [0, 0]) _ _ rfl (zkR ⟨35, by decide⟩) rfl rfl rfl)) rfl (fun _ hx => by
      simp only [List.mem_cons, List.not_mem_nil, or_false] at hx
      rcases hx with rfl | rfl <;> exact ⟨z_lo _, z_hi _⟩) hB hNR hH8 hG8 er e2 hS8 hcs hl (rest := []) (by decide) (by simp only [List.map_cons, List.map_nil, List.reverse_cons, List.reverse_nil, List.nil_append, List.cons_append, z_ofi]) (fun H9 locs9 hH9 hG9 hS9 => ?_)
  refine lv_pop hx hb dL_1358 rfl ?_
  refine lv_goto (tgt := 1550) hx hb dL_1359 (by decide) ?_
  exact K H9 locs9 ⟨η, ζ, L, M, Θ, Ξ, h2, g2, hB, hN.keep k2, hNR, hH9, hG9, ⟨ea, er⟩, ⟨R2, fun f => w2 f⟩⟩ hS9
set_option maxHeartbeats 4000000 in
theorem lwc_26 {p : Program} {l : Launch} {e : Env} {s : State} {m : MethodId} {below : List Frame} {meth : Method} {c : Code} {b N : Nat} {xs : Nat → Int32} {Q : State → Prop} {H : Heap} {locs : List Loc} {cells slots : Nat} {ls : Array Slot} {qa qr i : Nat} {D : va_G} {cy : Nat → ClassId} {tb adK adV : Nat → Nat} {fv : Option Nat} (X : lwX l p s m meth c b N xs D cy tb adK adV fv) (hi : i + 6 ≤ N) (hI : lwI lwF s D cy adK qa qr H) (hS : va_S (fun q => s.heap.size ≤ q) s.heap H locs) (hcs : cells ≤ 600000 ∧ slots ≤ 7302250) (hl : lwL ls qa qr i b)
    (K : ∀ (H1 : Heap) (locs1 : List Loc), lwI lwF s D cy adK qa qr H1 → va_S (fun q => s.heap.size ≤ q) s.heap H1 locs1 → W p l e room_1 s m #[Value.ref b] below meth c H1 locs1 (cells) (slots) Q (F0 m 1550 ls [])) : W p l e room_1 s m #[Value.ref b] below meth c H locs cells slots Q (F0 m 1362 ls []) := by
  obtain ⟨hx, hb, -, -, -, -, -, -, -, -⟩ := id X.1
  obtain ⟨η, ζ, L, M, Θ, Ξ, h, g, hB, hN, hNR, hH, hG, ⟨ea, er⟩, ⟨R, RP⟩⟩ := hI
  obtain ⟨bb, bm, bl, -⟩ := cT_b hH hN.2.2.2.1 R
  obtain ⟨gb, g1, g4⟩ := rBd_of hG hNR
  obtain ⟨v, h2, g2, e1, e2, R2, kk⟩ := RR_meet (n := 300) (m := 300) (x := (xs (i + 1)).toInt) (k := (xs (i + 2)).toInt) (w := (xs (i + 3)).toInt) (by decide) (by decide) R (RP trivial).2.1 bl bm.2 (rQ_of hG hNR) g4
  have k2 : ∀ k, h2 2 k = h 2 k := fun k => kk 2 k
  have w2 : lwF → cW h2 g2 := fun f => ((RP f).c ((RP f).p.fr (fun a j _ => kk a j)) ((RP f).2.2.fr (fun a j _ => kk a j))).r (frK_meet (h := h) (by decide) R (RP trivial).2.1 (rQ_of hG hNR) g4 e2)
  refine lv_aload_n hx hb dL_1362 rfl (lv_at hl 2 rfl) ?_
  refine lw_arg X.1 X.2.1 hS hl 1 hi (by decide) (by decide +kernel) dL_1363 dL_1364 dL_1365 dL_1366 dL_1367 ?_
  refine lw_arg X.1 X.2.1 hS hl 2 hi (by decide) (by decide +kernel) dL_1368 dL_1369 dL_1370 dL_1371 dL_1372 ?_
  refine lw_arg X.1 X.2.1 hS hl 3 hi (by decide) (by decide +kernel) dL_1373 dL_1374 dL_1375 dL_1376 dL_1377 ?_
  refine lwCf (As := [(xs (i + 1)).toInt, (xs (i + 2)).toInt, (xs (i + 3)).toInt]) X (m_X11_meet l) (ycv_of yw_X11_meet 124 dL_1378 zlL_124 rfl (by decide +kernel) (by decide +kernel) (zk_ex (kk := 63) (ts := [0, 0, 0]) _ _ rfl (zkK ⟨63, by decide⟩) rfl rfl rfl)) rfl (fun _ hx => by
      simp only [List.mem_cons, List.not_mem_nil, or_false] at hx
      rcases hx with rfl | rfl | rfl <;> exact ⟨z_lo _, z_hi _⟩) hB hN hH hG ea e1 hS hcs hl (rest := []) (by decide) (by simp only [List.map_cons, List.map_nil, List.reverse_cons, List.reverse_nil, List.nil_append, List.cons_append, z_ofi]) (fun H8 locs8 hH8 hG8 hS8 => ?_)
  refine lv_pop hx hb dL_1381 rfl ?_
  refine lv_aload_n hx hb dL_1382 rfl (lv_at hl 1 rfl) ?_
  refine lw_arg X.1 X.2.1 hS8 hl 1 hi (by decide) (by decide +kernel) dL_1383 dL_1384 dL_1385 dL_1386 dL_1387 ?_
  refine lw_arg X.1 X.2.1 hS8 hl 2 hi (by decide) (by decide +kernel) dL_1388 dL_1389 dL_1390 dL_1391 dL_1392 ?_
  refine lw_arg X.1 X.2.1 hS8 hl 3 hi (by decide) (by decide +kernel) dL_1393 dL_1394 dL_1395 dL_1396 dL_1397 ?_
  refine lwRf (As := [(xs (i + 1)).toInt, (xs (i + 2)).toInt, (xs (i + 3)).toInt]) X (m_X12_meet l) (ycv_of yw_X12_meet 127 dL_1398 zlL_127 rfl (by decide +kernel) (by decide +kernel) (zk_ex (kk := 35) (ts := [0, 0, 0]) _ _ rfl (zkR ⟨35, by decide⟩) rfl rfl rfl)) rfl (fun _ hx => by
      simp only [List.mem_cons, List.not_mem_nil, or_false] at hx
      rcases hx with rfl | rfl | rfl <;> exact ⟨z_lo _, z_hi _⟩) hB hNR hH8 hG8 er e2 hS8 hcs hl (rest := []) (by decide) (by simp only [List.map_cons, List.map_nil, List.reverse_cons, List.reverse_nil, List.nil_append, List.cons_append, z_ofi]) (fun H9 locs9 hH9 hG9 hS9 => ?_)
  refine lv_pop hx hb dL_1401 rfl ?_
  refine lv_goto (tgt := 1550) hx hb dL_1402 (by decide) ?_
  exact K H9 locs9 ⟨η, ζ, L, M, Θ, Ξ, h2, g2, hB, hN.keep k2, hNR, hH9, hG9, ⟨ea, er⟩, ⟨R2, fun f => w2 f⟩⟩ hS9
set_option maxHeartbeats 4000000 in
theorem lwc_27 {p : Program} {l : Launch} {e : Env} {s : State} {m : MethodId} {below : List Frame} {meth : Method} {c : Code} {b N : Nat} {xs : Nat → Int32} {Q : State → Prop} {H : Heap} {locs : List Loc} {cells slots : Nat} {ls : Array Slot} {qa qr i : Nat} {D : va_G} {cy : Nat → ClassId} {tb adK adV : Nat → Nat} {fv : Option Nat} (X : lwX l p s m meth c b N xs D cy tb adK adV fv) (hi : i + 6 ≤ N) (hI : lwI lwF s D cy adK qa qr H) (hS : va_S (fun q => s.heap.size ≤ q) s.heap H locs) (hcs : cells ≤ 600000 ∧ slots ≤ 7302250) (hl : lwL ls qa qr i b)
    (K : ∀ (H1 : Heap) (locs1 : List Loc), lwI lwF s D cy adK qa qr H1 → va_S (fun q => s.heap.size ≤ q) s.heap H1 locs1 → W p l e room_1 s m #[Value.ref b] below meth c H1 locs1 (cells) (slots) Q (F0 m 1550 ls [])) : W p l e room_1 s m #[Value.ref b] below meth c H locs cells slots Q (F0 m 1405 ls []) := by
  obtain ⟨hx, hb, -, -, -, -, -, -, -, -⟩ := id X.1
  obtain ⟨η, ζ, L, M, Θ, Ξ, h, g, hB, hN, hNR, hH, hG, ⟨ea, er⟩, ⟨R, RP⟩⟩ := hI
  obtain ⟨bb, bm, bl, -⟩ := cT_b hH hN.2.2.2.1 R
  obtain ⟨gb, g1, g4⟩ := rBd_of hG hNR
  obtain ⟨v, h2, g2, e1, e2, dk⟩ := RR_sum (n := 300) (m := 300) (x := (xs (i + 1)).toInt) (y := (xs (i + 2)).toInt) (w := (xs (i + 3)).toInt) (by decide) (by decide) R (RP trivial).2.1 (RP trivial).2.2.1.2 (RP trivial).2.2.1.1 bl bm.2 (rQ_of hG hNR) g4
  have R2 := dk.1
  have k2 : ∀ k, h2 2 k = h 2 k := fun k => dk.2.2.1 2 k (by omega)
  have w2 : lwF → cW h2 g2 := fun f => (RP f).d dk
  refine lv_aload_n hx hb dL_1405 rfl (lv_at hl 2 rfl) ?_
  refine lw_arg X.1 X.2.1 hS hl 1 hi (by decide) (by decide +kernel) dL_1406 dL_1407 dL_1408 dL_1409 dL_1410 ?_
  refine lw_arg X.1 X.2.1 hS hl 2 hi (by decide) (by decide +kernel) dL_1411 dL_1412 dL_1413 dL_1414 dL_1415 ?_
  refine lw_arg X.1 X.2.1 hS hl 3 hi (by decide) (by decide +kernel) dL_1416 dL_1417 dL_1418 dL_1419 dL_1420 ?_
  refine lwCf (As := [(xs (i + 1)).toInt, (xs (i + 2)).toInt, (xs (i + 3)).toInt]) X (m_X11_sum l) (ycv_of yw_X11_sum 128 dL_1421 zlL_128 rfl (by decide +kernel) (by decide +kernel) (zk_ex (kk := 63) (ts := [0, 0, 0]) _ _ rfl (zkK ⟨63, by decide⟩) rfl rfl rfl)) rfl (fun _ hx => by
      simp only [List.mem_cons, List.not_mem_nil, or_false] at hx
      rcases hx with rfl | rfl | rfl <;> exact ⟨z_lo _, z_hi _⟩) hB hN hH hG ea e1 hS hcs hl (rest := []) (by decide) (by simp only [List.map_cons, List.map_nil, List.reverse_cons, List.reverse_nil, List.nil_append, List.cons_append, z_ofi]) (fun H8 locs8 hH8 hG8 hS8 => ?_)
  refine lv_pop hx hb dL_1424 rfl ?_
  refine lv_aload_n hx hb dL_1425 rfl (lv_at hl 1 rfl) ?_
  refine lw_arg X.1 X.2.1 hS8 hl 1 hi (by decide) (by decide +kernel) dL_1426 dL_1427 dL_1428 dL_1429 dL_1430 ?_
  refine lw_arg X.1 X.2.1 hS8 hl 2 hi (by decide) (by decide +kernel) dL_1431 dL_1432 dL_1433 dL_1434 dL_1435 ?_
  refine lw_arg X.1 X.2.1 hS8 hl 3 hi (by decide) (by decide +kernel) dL_1436 dL_1437 dL_1438 dL_1439 dL_1440 ?_
  refine lwRf (As := [(xs (i + 1)).toInt, (xs (i + 2)).toInt, (xs (i + 3)).toInt]) X (m_X12_sum l) (ycv_of yw_X12_sum 131 dL_1441 zlL_131 rfl (by decide +kernel) (by decide +kernel) (zk_ex (kk := 35) (ts := [0, 0, 0]) _ _ rfl (zkR ⟨35, by decide⟩) rfl rfl rfl)) rfl (fun _ hx => by
      simp only [List.mem_cons, List.not_mem_nil, or_false] at hx
      rcases hx with rfl | rfl | rfl <;> exact ⟨z_lo _, z_hi _⟩) hB hNR hH8 hG8 er e2 hS8 hcs hl (rest := []) (by decide) (by simp only [List.map_cons, List.map_nil, List.reverse_cons, List.reverse_nil, List.nil_append, List.cons_append, z_ofi]) (fun H9 locs9 hH9 hG9 hS9 => ?_)
  refine lv_pop hx hb dL_1444 rfl ?_
  refine lv_goto (tgt := 1550) hx hb dL_1445 (by decide) ?_
  exact K H9 locs9 ⟨η, ζ, L, M, Θ, Ξ, h2, g2, hB, hN.keep k2, hNR, hH9, hG9, ⟨ea, er⟩, ⟨R2, fun f => w2 f⟩⟩ hS9
set_option maxHeartbeats 4000000 in
theorem lwc_28 {p : Program} {l : Launch} {e : Env} {s : State} {m : MethodId} {below : List Frame} {meth : Method} {c : Code} {b N : Nat} {xs : Nat → Int32} {Q : State → Prop} {H : Heap} {locs : List Loc} {cells slots : Nat} {ls : Array Slot} {qa qr i : Nat} {D : va_G} {cy : Nat → ClassId} {tb adK adV : Nat → Nat} {fv : Option Nat} (X : lwX l p s m meth c b N xs D cy tb adK adV fv) (hi : i + 6 ≤ N) (hI : lwI lwF s D cy adK qa qr H) (hS : va_S (fun q => s.heap.size ≤ q) s.heap H locs) (hcs : cells ≤ 600000 ∧ slots ≤ 7302250) (hl : lwL ls qa qr i b)
    (K : ∀ (H1 : Heap) (locs1 : List Loc), lwI lwF s D cy adK qa qr H1 → va_S (fun q => s.heap.size ≤ q) s.heap H1 locs1 → W p l e room_1 s m #[Value.ref b] below meth c H1 locs1 (cells) (slots) Q (F0 m 1550 ls [])) : W p l e room_1 s m #[Value.ref b] below meth c H locs cells slots Q (F0 m 1448 ls []) := by
  obtain ⟨hx, hb, -, -, -, -, -, -, -, -⟩ := id X.1
  obtain ⟨η, ζ, L, M, Θ, Ξ, h, g, hB, hN, hNR, hH, hG, ⟨ea, er⟩, ⟨R, RP⟩⟩ := hI
  obtain ⟨bb, bm, bl, -⟩ := cT_b hH hN.2.2.2.1 R
  obtain ⟨gb, g1, g4⟩ := rBd_of hG hNR
  obtain ⟨v, h2, g2, e1, e2, R2, kk⟩ := RR_tells (n := 300) (m := 900) (x := (xs (i + 1)).toInt) (w := (xs (i + 2)).toInt) (by decide) (by decide) R (RP trivial).p bl bm.2 (rQ_of hG hNR) g4
  have k2 : ∀ k, h2 2 k = h 2 k := fun k => kk 2 k
  have w2 : lwF → cW h2 g2 := fun f => ((RP f).c ((RP f).p.fr (fun a j _ => kk a j)) ((RP f).2.2.fr (fun a j _ => kk a j))).r (frK_tells (h := h) (by decide) R (rQ_of hG hNR) g4 e2)
  refine lv_aload_n hx hb dL_1448 rfl (lv_at hl 2 rfl) ?_
  refine lw_arg X.1 X.2.1 hS hl 1 hi (by decide) (by decide +kernel) dL_1449 dL_1450 dL_1451 dL_1452 dL_1453 ?_
  refine lw_arg X.1 X.2.1 hS hl 2 hi (by decide) (by decide +kernel) dL_1454 dL_1455 dL_1456 dL_1457 dL_1458 ?_
  refine lwCf (As := [(xs (i + 1)).toInt, (xs (i + 2)).toInt]) X (m_X11_tells l) (ycv_of yw_X11_tells 132 dL_1459 zlL_132 rfl (by decide +kernel) (by decide +kernel) (zk_ex (kk := 63) (ts := [0, 0]) _ _ rfl (zkK ⟨63, by decide⟩) rfl rfl rfl)) rfl (fun _ hx => by
      simp only [List.mem_cons, List.not_mem_nil, or_false] at hx
      rcases hx with rfl | rfl <;> exact ⟨z_lo _, z_hi _⟩) hB hN hH hG ea e1 hS hcs hl (rest := []) (by decide) (by simp only [List.map_cons, List.map_nil, List.reverse_cons, List.reverse_nil, List.nil_append, List.cons_append, z_ofi]) (fun H8 locs8 hH8 hG8 hS8 => ?_)
  refine lv_pop hx hb dL_1462 rfl ?_
  refine lv_aload_n hx hb dL_1463 rfl (lv_at hl 1 rfl) ?_
  refine lw_arg X.1 X.2.1 hS8 hl 1 hi (by decide) (by decide +kernel) dL_1464 dL_1465 dL_1466 dL_1467 dL_1468 ?_
  refine lw_arg X.1 X.2.1 hS8 hl 2 hi (by decide) (by decide +kernel) dL_1469 dL_1470 dL_1471 dL_1472 dL_1473 ?_
  refine lwRf (As := [(xs (i + 1)).toInt, (xs (i + 2)).toInt]) X (m_X12_tells l) (ycv_of yw_X12_tells 135 dL_1474 zlL_135 rfl (by decide +kernel) (by decide +kernel) (zk_ex (kk := 35) (ts := [0, 0]) _ _ rfl (zkR ⟨35, by decide⟩) rfl rfl rfl)) rfl (fun _ hx => by
      simp only [List.mem_cons, List.not_mem_nil, or_false] at hx
      rcases hx with rfl | rfl <;> exact ⟨z_lo _, z_hi _⟩) hB hNR hH8 hG8 er e2 hS8 hcs hl (rest := []) (by decide) (by simp only [List.map_cons, List.map_nil, List.reverse_cons, List.reverse_nil, List.nil_append, List.cons_append, z_ofi]) (fun H9 locs9 hH9 hG9 hS9 => ?_)
  refine lv_pop hx hb dL_1477 rfl ?_
  refine lv_goto (tgt := 1550) hx hb dL_1478 (by decide) ?_
  exact K H9 locs9 ⟨η, ζ, L, M, Θ, Ξ, h2, g2, hB, hN.keep k2, hNR, hH9, hG9, ⟨ea, er⟩, ⟨R2, fun f => w2 f⟩⟩ hS9
set_option maxRecDepth 100000 in
theorem zq_X11_image : tables_1_5[218]? = some (.code yX11_image cX11_image 2 (some .boolean)) := rfl
theorem zw_X11_image : zMV yX11_image cX11_image 2 (some .boolean) 1 := ⟨⟨zTi_1 1 (by decide +kernel) rfl, zTi_5 218 zq_X11_image rfl, ⟨by decide, by decide⟩, by decide +kernel⟩, zTi_5 216 (by decide +kernel) rfl, zTi_5 217 (by decide +kernel) rfl⟩
theorem fb_img {η : zRn} {D : va_G} {cy : Nat → ClassId} {L : List Nat} {Θ : Nat → Option Nat} {h : Nat → Nat → Int} {av : List Value} {sz base : Nat} {tb adK adV : Nat → Nat} {fv : Option Nat} : FrameBlind (va_Pc av (fun U => U.heap.size = sz ∧ zH η zkds D vwCl cy L Θ h U.heap ∧ KW D cy U ∧ zS0 base tb adK adV fv U)) := fun _ U g mk q => ⟨q.1, q.2.1, q.2.2.1, q.2.2.2.1.call, q.2.2.2.2.same rfl rfl⟩
theorem fb_ag {η : zRn} {D : va_G} {cy : Nat → ClassId} {L : List Nat} {Θ : Nat → Option Nat} {h : Nat → Nat → Int} {av : List Value} {base : Nat} {tb adK adV : Nat → Nat} {fv : Option Nat} : FrameBlind (va_Pc av (fun U => zH η zkds D vwCl cy L Θ h U.heap ∧ KW D cy U ∧ zS0 base tb adK adV fv U)) := fun _ U g mk q => ⟨q.1, q.2.1, q.2.2.1.call, q.2.2.2.same rfl rfl⟩
set_option maxHeartbeats 4000000 in
set_option maxRecDepth 10000 in
theorem lwc_30 {p : Program} {l : Launch} {e : Env} {s : State} {m : MethodId} {below : List Frame} {meth : Method} {c : Code} {b N : Nat} {xs : Nat → Int32} {Q : State → Prop} {H : Heap} {locs : List Loc} {cells slots : Nat} {ls : Array Slot} {qa qr i : Nat} {D : va_G} {cy : Nat → ClassId} {tb adK adV : Nat → Nat} {fv : Option Nat} (X : lwX l p s m meth c b N xs D cy tb adK adV fv) (hi : i + 6 ≤ N) (hI : lwI lwF s D cy adK qa qr H) (hS : va_S (fun q => s.heap.size ≤ q) s.heap H locs) (hcs : cells + 39 ≤ 600000 ∧ slots + 1090 ≤ 7302250) (hl : lwL ls qa qr i b)
    (K : ∀ (H1 : Heap) (locs1 : List Loc), lwI lwF s D cy adK qa qr H1 → va_S (fun q => s.heap.size ≤ q) s.heap H1 locs1 → W p l e room_1 s m #[Value.ref b] below meth c H1 locs1 (cells + 39) (slots + 1090) Q (F0 m 1550 ls [])) : W p l e room_1 s m #[Value.ref b] below meth c H locs cells slots Q (F0 m 1504 ls []) := by
  obtain ⟨hx, hb, -, -, -, -, -, -, -, -⟩ := id X.1
  obtain ⟨η, ζ, L, M, Θ, Ξ, h, g, hB, hN, hNR, hH, hG, ⟨ea, er⟩, ⟨R, RP⟩⟩ := hI
  obtain ⟨hLn, hMn, hLM, hLb, hMb⟩ := id hB
  obtain ⟨C0, hN3, hKW, hZ⟩ := id X
  have S := lw_S C0
  have hts := S.2.2.2.2
  have htz : ∀ w ∈ zTW, w.before #[Value.ref b] s = true := fun w hw => hts w (List.mem_cons_of_mem _ hw)
  obtain ⟨bb, bm, bl, -⟩ := cT_b hH hN.2.2.2.1 R
  obtain ⟨gb, g1, g4⟩ := rBd_of hG hNR
  obtain ⟨-, p63, -, -⟩ := rP_of hG hNR
  have hIm : ∀ k, k < 3 → h 2 k = -1 ∨ (h 2 k = ((1000 * (k + 1) + 3 : Nat) : Int) ∧ cPb (1000 * (k + 1)) h) := fun k hk => by
    rcases R.2.2.2 k hk with q | ⟨-, q2, q3, -⟩
    · exact Or.inl q.2
    · exact Or.inr ⟨q2, q3⟩
  refine lv_aload_n hx hb dL_1504 rfl (lv_at hl 2 rfl) ?_
  refine lw_arg X.1 X.2.1 hS hl 1 hi (by decide) (by decide +kernel) dL_1505 dL_1506 dL_1507 dL_1508 dL_1509 ?_
  obtain ⟨p0, hp0⟩ := zH_get hH hN.2.2.2.1 zkd_63 (by decide)
  rw [zE_o rfl] at hp0
  rw [← ea] at hl ⊢
  have hfree : ∀ q, (q ∈ L ∨ H.size ≤ q) → s.heap.size ≤ q := fun q hq => hq.elim (hLb q) (fun h9 => Nat.le_trans hS.1 h9)
  refine va_calli (va_runV (C := RX11) (n := 1) (As := [.int (xs (i + 1))]) (rest := []) (bytes := cX11_image) (maxL := 2) (ret := some .boolean) S (c_img l (x := xs (i + 1)) (h := h) (D := D) (cy := cy) (tb := tb) (adK := adK) (adV := adV) (fv := fv) hLn hLb hS.1 hN R.1 hIm) ⟨callB_of _ hts (z_good zTW_good zw_X11_image.1.2.1) rfl rfl rfl (htz _ zw_X11_image.1.1) (htz _ zlL_140) ⟨zw_X11_image.1.2.2.1.1, zw_X11_image.1.2.2.1.2, zw_X11_image.1.2.2.2⟩ ⟨by decide +kernel, by decide +kernel⟩, htz _ zw_X11_image.2.1, htz _ zw_X11_image.2.2⟩ ⟨fb_img, va_recv hKW.1 hH.1 rfl hp0, fun U hU hW => ⟨rfl, by rw [hU], by rw [hU]; exact hH, hKW.warm hW, hZ.go hW (fun q h1 h2 => by rw [hU]; exact hS.2.1 q h1 h2)⟩⟩ rfl rfl hl.1 rfl (lv_room (Nat.le_of_ble_eq_true rfl)) dL_1510 hcs) hS (fun q _ h9 => hfree q h9) hfree (fun v8 u8 t8 H8 locs8 ht8 hvm8 w8 hB8 hz8 hk8 hS8 => ?_)
  subst w8
  have hG8 : zH ζ zkdm D vwCl cy M Ξ g H8 := zH_kept hG (fun q hq => hk8 q (zH_lt hG hq) (fun z => by
    rcases z with z | z
    · exact hLM q z hq
    · have := zH_lt hG hq
      omega))
  rw [ht8] at hB8
  rw [ea] at hl
  refine lv_pop hx hb dL_1513 rfl ?_
  refine lv_aload_n hx hb dL_1514 rfl (lv_at hl 1 rfl) ?_
  refine lw_arg X.1 X.2.1 hS8 hl 1 hi (by decide) (by decide +kernel) dL_1515 dL_1516 dL_1517 dL_1518 dL_1519 ?_
  rcases hB8 with ⟨w0, w1, hH8⟩ | ⟨k, hk, hxk, w1, η2, L2, Θ2, h1, h2, hH8, hLn8, hL8, hN8, ea8, hi8, ht9⟩
  · obtain ⟨e2, R2⟩ := RR_imageN (m := 1000) R bl bm.2 w0
    refine lwRf (η := η) (As := [(xs (i + 1)).toInt]) X (m_X12_image l) (ycv_of yw_X12_image 144 dL_1520 zlL_144 rfl (by decide +kernel) (by decide +kernel) (zk_ex (kk := 35) (ts := [0]) _ _ rfl (zkR ⟨35, by decide⟩) rfl rfl rfl)) rfl (fun _ hx => by
      simp only [List.mem_cons, List.not_mem_nil, or_false] at hx
      rcases hx with rfl <;> exact ⟨z_lo _, z_hi _⟩) hB hNR hH8 hG8 er e2 hS8 hcs hl (rest := []) (by decide) (by simp only [List.map_cons, List.map_nil, List.reverse_cons, List.reverse_nil, List.nil_append, List.cons_append, z_ofi]) (fun H9 locs9 hH9 hG9 hS9 => ?_)
    refine lv_pop hx hb dL_1523 rfl ?_
    refine lv_goto (tgt := 1550) hx hb dL_1524 (by decide) ?_
    exact K H9 locs9 ⟨η, ζ, L, M, Θ, Ξ, h, _, hB, hN, hNR, hH9, hG9, ⟨ea, er⟩, ⟨R2, fun f => (RP f).r (fun a j w1 w2 => zup_ne (by omega))⟩⟩ hS9
  · obtain ⟨RX1, bl1, bm1⟩ := RX_of hk R bl bm.2 hi8
    obtain ⟨g2, e2, R2⟩ := RX_image (m := 1000) (by decide) hk RX1 bl1 bm1 gb p63 ht9
    rw [← hxk] at e2
    have hB8 : lwB s L2 M := by
      refine ⟨hLn8, hMn, fun q hq hqM => ?_, fun q hq => hfree q (hL8 q hq), hMb⟩
      rcases hL8 q hq with z | z
      · exact hLM q z hqM
      · have := zH_lt hG hqM
        omega
    refine lwRf (η := η2) (As := [(xs (i + 1)).toInt]) X (m_X12_image l) (ycv_of yw_X12_image 144 dL_1520 zlL_144 rfl (by decide +kernel) (by decide +kernel) (zk_ex (kk := 35) (ts := [0]) _ _ rfl (zkR ⟨35, by decide⟩) rfl rfl rfl)) rfl (fun _ hx => by
      simp only [List.mem_cons, List.not_mem_nil, or_false] at hx
      rcases hx with rfl <;> exact ⟨z_lo _, z_hi _⟩) hB8 hNR hH8 hG8 er e2 hS8 hcs hl (rest := []) (by decide) (by simp only [List.map_cons, List.map_nil, List.reverse_cons, List.reverse_nil, List.nil_append, List.cons_append, z_ofi]) (fun H9 locs9 hH9 hG9 hS9 => ?_)
    refine lv_pop hx hb dL_1523 rfl ?_
    refine lv_goto (tgt := 1550) hx hb dL_1524 (by decide) ?_
    exact K H9 locs9 ⟨η2, ζ, L2, M, Θ2, Ξ, h2, g2, hB8, hN8, hNR, hH9, hG9, ⟨ea8.trans ea, er⟩, ⟨R2, fun f => ⟨(RP f).1.fr (fun a j w => (ht9.2.2.2.2.2.2.2.2.2 _ _ (by omega)).trans (hi8.1 _ _ (by omega) (by omega))), frH_image (m := 1000) (by decide) R.2.1 gb p63 e2 (RP f).2.1, (RP f).2.2.fr (fun a j w => (ht9.2.2.2.2.2.2.2.2.2 _ _ (by omega)).trans (hi8.1 _ _ (by omega) (by omega)))⟩⟩⟩ hS9
set_option maxHeartbeats 4000000 in
set_option maxRecDepth 10000 in
theorem lwc_31 {p : Program} {l : Launch} {e : Env} {s : State} {m : MethodId} {below : List Frame} {meth : Method} {c : Code} {b N : Nat} {xs : Nat → Int32} {Q : State → Prop} {H : Heap} {locs : List Loc} {cells slots : Nat} {ls : Array Slot} {qa qr i : Nat} {D : va_G} {cy : Nat → ClassId} {tb adK adV : Nat → Nat} {fv : Option Nat} (X : lwX l p s m meth c b N xs D cy tb adK adV fv) (hi : i + 6 ≤ N) (hI : lwI lwF s D cy adK qa qr H) (hS : va_S (fun q => s.heap.size ≤ q) s.heap H locs) (hcs : cells ≤ 600000 ∧ slots ≤ 7302250) (hl : lwL ls qa qr i b)
    (K : ∀ (H1 : Heap) (locs1 : List Loc), lwI lwF s D cy adK qa qr H1 → va_S (fun q => s.heap.size ≤ q) s.heap H1 locs1 → W p l e room_1 s m #[Value.ref b] below meth c H1 locs1 (cells) (slots) Q (F0 m 1550 ls [])) : W p l e room_1 s m #[Value.ref b] below meth c H locs cells slots Q (F0 m 1527 ls []) := by
  obtain ⟨hx, hb, -, -, -, -, -, -, -, -⟩ := id X.1
  obtain ⟨η, ζ, L, M, Θ, Ξ, h, g, hB, hN, hNR, hH, hG, ⟨ea, er⟩, ⟨R, RP⟩⟩ := hI
  obtain ⟨hLn, hMn, hLM, hLb, hMb⟩ := id hB
  obtain ⟨C0, hN3, hKW, hZ⟩ := id X
  have S := lw_S C0
  have hts := S.2.2.2.2
  have htz : ∀ w ∈ zTW, w.before #[Value.ref b] s = true := fun w hw => hts w (List.mem_cons_of_mem _ hw)
  obtain ⟨bb, bm, bl, -⟩ := cT_b hH hN.2.2.2.1 R
  obtain ⟨gb, g1, g4⟩ := rBd_of hG hNR
  obtain ⟨-, p63, -, -⟩ := rP_of hG hNR
  have hIm : ∀ k, k < 3 → h 2 k = -1 ∨ (h 2 k = ((1000 * (k + 1) + 3 : Nat) : Int) ∧ cPb (1000 * (k + 1)) h) := fun k hk => by
    rcases R.2.2.2 k hk with q | ⟨-, q2, q3, -⟩
    · exact Or.inl q.2
    · exact Or.inr ⟨q2, q3⟩
  refine lv_aload_n hx hb dL_1527 rfl (lv_at hl 2 rfl) ?_
  refine lw_arg X.1 X.2.1 hS hl 1 hi (by decide) (by decide +kernel) dL_1528 dL_1529 dL_1530 dL_1531 dL_1532 ?_
  obtain ⟨p0, hp0⟩ := zH_get hH hN.2.2.2.1 zkd_63 (by decide)
  rw [zE_o rfl] at hp0
  rw [← ea] at hl ⊢
  refine va_calli (va_runV (C := RX11) (n := 1) (As := [.int (xs (i + 1))]) (rest := []) (bytes := cX11_again) (maxL := 2) (ret := some .boolean) S (c_again l (x := xs (i + 1)) (h := h) (D := D) (cy := cy) (tb := tb) (adK := adK) (adV := adV) (fv := fv) hLn hLb hN R.1 hIm) ⟨callB_of _ hts (z_good zTW_good zw_X11_again.1.2.1) rfl rfl rfl (htz _ zw_X11_again.1.1) (htz _ zlL_145) ⟨zw_X11_again.1.2.2.1.1, zw_X11_again.1.2.2.1.2, zw_X11_again.1.2.2.2⟩ ⟨by decide +kernel, by decide +kernel⟩, htz _ zw_X11_again.2.1, htz _ zw_X11_again.2.2⟩ ⟨fb_ag, va_recv hKW.1 hH.1 rfl hp0, fun U hU hW => ⟨rfl, by rw [hU]; exact hH, hKW.warm hW, hZ.go hW (fun q h1 h2 => by rw [hU]; exact hS.2.1 q h1 h2)⟩⟩ rfl rfl hl.1 rfl (lv_room (Nat.le_of_ble_eq_true rfl)) dL_1533 hcs) hS (fun q _ h9 => hLb q h9) hLb (fun v8 u8 t8 H8 locs8 ht8 hvm8 w8 hB8 hz8 hk8 hS8 => ?_)
  subst w8
  have hG8 : zH ζ zkdm D vwCl cy M Ξ g H8 := zH_kept hG (fun q hq => hk8 q (zH_lt hG hq) (fun z => hLM q z hq))
  rw [ht8] at hB8
  rw [ea] at hl
  refine lv_pop hx hb dL_1536 rfl ?_
  refine lv_aload_n hx hb dL_1537 rfl (lv_at hl 1 rfl) ?_
  refine lw_arg X.1 X.2.1 hS8 hl 1 hi (by decide) (by decide +kernel) dL_1538 dL_1539 dL_1540 dL_1541 dL_1542 ?_
  rcases hB8 with ⟨w0, w1, hH8⟩ | ⟨k, hk, hxk, w1, h2k, h2, hH8, ht9⟩
  · obtain ⟨e2, R2⟩ := RR_againN (m := 1000) R bl bm.2 p63 w0
    refine lwRf (η := η) (As := [(xs (i + 1)).toInt]) X (m_X12_again l) (ycv_of yw_X12_again 148 dL_1543 zlL_148 rfl (by decide +kernel) (by decide +kernel) (zk_ex (kk := 35) (ts := [0]) _ _ rfl (zkR ⟨35, by decide⟩) rfl rfl rfl)) rfl (fun _ hx => by
      simp only [List.mem_cons, List.not_mem_nil, or_false] at hx
      rcases hx with rfl <;> exact ⟨z_lo _, z_hi _⟩) hB hNR hH8 hG8 er e2 hS8 hcs hl (rest := []) (by decide) (by simp only [List.map_cons, List.map_nil, List.reverse_cons, List.reverse_nil, List.nil_append, List.cons_append, z_ofi]) (fun H9 locs9 hH9 hG9 hS9 => ?_)
    refine lv_pop hx hb dL_1546 rfl ?_
    refine lv_goto (tgt := 1550) hx hb dL_1547 (by decide) ?_
    exact K H9 locs9 ⟨η, ζ, L, M, Θ, Ξ, h, _, hB, hN, hNR, hH9, hG9, ⟨ea, er⟩, ⟨R2, fun f => (RP f).r (fun a j w1 w2 => zup_ne (by omega))⟩⟩ hS9
  · obtain ⟨g2, e2, R2⟩ := RR_again (m := 1000) (by decide) hk R h2k bl bm.2 gb p63 ht9
    rw [← hxk] at e2
    refine lwRf (η := η) (As := [(xs (i + 1)).toInt]) X (m_X12_again l) (ycv_of yw_X12_again 148 dL_1543 zlL_148 rfl (by decide +kernel) (by decide +kernel) (zk_ex (kk := 35) (ts := [0]) _ _ rfl (zkR ⟨35, by decide⟩) rfl rfl rfl)) rfl (fun _ hx => by
      simp only [List.mem_cons, List.not_mem_nil, or_false] at hx
      rcases hx with rfl <;> exact ⟨z_lo _, z_hi _⟩) hB hNR hH8 hG8 er e2 hS8 hcs hl (rest := []) (by decide) (by simp only [List.map_cons, List.map_nil, List.reverse_cons, List.reverse_nil, List.nil_append, List.cons_append, z_ofi]) (fun H9 locs9 hH9 hG9 hS9 => ?_)
    refine lv_pop hx hb dL_1546 rfl ?_
    refine lv_goto (tgt := 1550) hx hb dL_1547 (by decide) ?_
    exact K H9 locs9 ⟨η, ζ, L, M, Θ, Ξ, h2, g2, hB, hN.keep (fun k => ht9.2.2.2.2.2.2.2.2.2 _ _ (by omega)), hNR, hH9, hG9, ⟨ea, er⟩, ⟨R2, fun f => ⟨(RP f).1.fr (fun a j w => ht9.2.2.2.2.2.2.2.2.2 _ _ (by omega)), frH_again (m := 1000) (by decide) R.2.1 gb p63 e2 (RP f).2.1, (RP f).2.2.fr (fun a j w => ht9.2.2.2.2.2.2.2.2.2 _ _ (by omega))⟩⟩⟩ hS9
