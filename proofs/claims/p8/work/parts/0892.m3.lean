section
set_option maxHeartbeats 4000000 in
theorem lwc_0 {p : Program} {l : Launch} {e : Env} {s : State} {m : MethodId} {below : List Frame} {meth : Method} {c : Code} {b N : Nat} {xs : Nat → Int32} {Q : State → Prop} {H : Heap} {locs : List Loc} {cells slots : Nat} {ls : Array Slot} {qa qr i : Nat} {D : va_G} {cy : Nat → ClassId} {tb adK adV : Nat → Nat} {fv : Option Nat} (X : lwX l p s m meth c b N xs D cy tb adK adV fv) (hi : i + 6 ≤ N) (hI : lwI lwF s D cy adK qa qr H) (hS : va_S (fun q => s.heap.size ≤ q) s.heap H locs) (hcs : cells ≤ 600000 ∧ slots ≤ 7302250) (hl : lwL ls qa qr i b)
    (K : ∀ (H1 : Heap) (locs1 : List Loc), lwI lwF s D cy adK qa qr H1 → va_S (fun q => s.heap.size ≤ q) s.heap H1 locs1 → W p l e room_1 s m #[Value.ref b] below meth c H1 locs1 (cells) (slots) Q (F0 m 1550 ls [])) : W p l e room_1 s m #[Value.ref b] below meth c H locs cells slots Q (F0 m 176 ls []) := by
  obtain ⟨hx, hb, -, -, -, -, -, -, -, -⟩ := id X.1
  obtain ⟨η, ζ, L, M, Θ, Ξ, h, g, hB, hN, hNR, hH, hG, ⟨ea, er⟩, ⟨R, RP⟩⟩ := hI
  obtain ⟨bb, bm, bl, -⟩ := cT_b hH hN.2.2.2.1 R
  obtain ⟨gb, g1, g4⟩ := rBd_of hG hNR
  obtain ⟨v, h2, g2, e1, e2, R2⟩ := RR_feed (n := 6) (m := 6) (x1 := (xs (i + 1)).toInt) (x2 := (xs (i + 2)).toInt) (x3 := (xs (i + 3)).toInt) (x4 := (xs (i + 4)).toInt) (x5 := (xs (i + 5)).toInt) ⟨by decide, by decide⟩ R bl bm
  have k2 := fr2_feed (by decide) R.1 bm e1
  have w2 : lwF → cW h2 g2 := fun f => ⟨frW_feed (by decide) R.1 bm e1 (RP f).1, frH_feed (by decide) R.2.1 g1 e2 (RP f).2⟩
  refine lv_aload_n hx hb dL_176 rfl (lv_at hl 2 rfl) ?_
  refine lw_arg X.1 X.2.1 hS hl 1 hi (by decide) (by decide +kernel) dL_177 dL_178 dL_179 dL_180 dL_181 ?_
  refine lw_arg X.1 X.2.1 hS hl 2 hi (by decide) (by decide +kernel) dL_182 dL_183 dL_184 dL_185 dL_186 ?_
  refine lw_arg X.1 X.2.1 hS hl 3 hi (by decide) (by decide +kernel) dL_187 dL_188 dL_189 dL_190 dL_191 ?_
  refine lw_arg X.1 X.2.1 hS hl 4 hi (by decide) (by decide +kernel) dL_192 dL_193 dL_194 dL_195 dL_196 ?_
  refine lw_arg X.1 X.2.1 hS hl 5 hi (by decide) (by decide +kernel) dL_197 dL_198 dL_199 dL_200 dL_201 ?_
  refine lwCf (As := [(xs (i + 1)).toInt, (xs (i + 2)).toInt, (xs (i + 3)).toInt, (xs (i + 4)).toInt, (xs (i + 5)).toInt]) X (m_X11_feed l) (ycv_of yw_X11_feed 13 dL_202 zlL_13 rfl (by decide +kernel) (by decide +kernel) (zk_ex (kk := 63) (ts := [0, 0, 0, 0, 0]) _ _ rfl (zkK ⟨63, by decide⟩) rfl rfl rfl)) rfl (fun _ hx => by
      simp only [List.mem_cons, List.not_mem_nil, or_false] at hx
      rcases hx with rfl | rfl | rfl | rfl | rfl <;> exact ⟨z_lo _, z_hi _⟩) hB hN hH hG ea e1 hS hcs hl (rest := []) (by decide) (by simp only [List.map_cons, List.map_nil, List.reverse_cons, List.reverse_nil, List.nil_append, List.cons_append, z_ofi]) (fun H8 locs8 hH8 hG8 hS8 => ?_)
  refine lv_pop hx hb dL_205 rfl ?_
  refine lv_aload_n hx hb dL_206 rfl (lv_at hl 1 rfl) ?_
  refine lw_arg X.1 X.2.1 hS8 hl 1 hi (by decide) (by decide +kernel) dL_207 dL_208 dL_209 dL_210 dL_211 ?_
  refine lw_arg X.1 X.2.1 hS8 hl 2 hi (by decide) (by decide +kernel) dL_212 dL_213 dL_214 dL_215 dL_216 ?_
  refine lw_arg X.1 X.2.1 hS8 hl 3 hi (by decide) (by decide +kernel) dL_217 dL_218 dL_219 dL_220 dL_221 ?_
  refine lw_arg X.1 X.2.1 hS8 hl 4 hi (by decide) (by decide +kernel) dL_222 dL_223 dL_224 dL_225 dL_226 ?_
  refine lw_arg X.1 X.2.1 hS8 hl 5 hi (by decide) (by decide +kernel) dL_227 dL_228 dL_229 dL_230 dL_231 ?_
  refine lwRf (As := [(xs (i + 1)).toInt, (xs (i + 2)).toInt, (xs (i + 3)).toInt, (xs (i + 4)).toInt, (xs (i + 5)).toInt]) X (m_X12_feed l) (ycv_of yw_X12_feed 17 dL_232 zlL_17 rfl (by decide +kernel) (by decide +kernel) (zk_ex (kk := 35) (ts := [0, 0, 0, 0, 0]) _ _ rfl (zkR ⟨35, by decide⟩) rfl rfl rfl)) rfl (fun _ hx => by
      simp only [List.mem_cons, List.not_mem_nil, or_false] at hx
      rcases hx with rfl | rfl | rfl | rfl | rfl <;> exact ⟨z_lo _, z_hi _⟩) hB hNR hH8 hG8 er e2 hS8 hcs hl (rest := []) (by decide) (by simp only [List.map_cons, List.map_nil, List.reverse_cons, List.reverse_nil, List.nil_append, List.cons_append, z_ofi]) (fun H9 locs9 hH9 hG9 hS9 => ?_)
  refine lv_pop hx hb dL_235 rfl ?_
  refine lv_goto (tgt := 1550) hx hb dL_236 (by decide) ?_
  exact K H9 locs9 ⟨η, ζ, L, M, Θ, Ξ, h2, g2, hB, hN.keep k2, hNR, hH9, hG9, ⟨ea, er⟩, ⟨R2, fun f => w2 f⟩⟩ hS9
set_option maxHeartbeats 4000000 in
theorem lwc_1 {p : Program} {l : Launch} {e : Env} {s : State} {m : MethodId} {below : List Frame} {meth : Method} {c : Code} {b N : Nat} {xs : Nat → Int32} {Q : State → Prop} {H : Heap} {locs : List Loc} {cells slots : Nat} {ls : Array Slot} {qa qr i : Nat} {D : va_G} {cy : Nat → ClassId} {tb adK adV : Nat → Nat} {fv : Option Nat} (X : lwX l p s m meth c b N xs D cy tb adK adV fv) (hi : i + 6 ≤ N) (hI : lwI lwF s D cy adK qa qr H) (hS : va_S (fun q => s.heap.size ≤ q) s.heap H locs) (hcs : cells ≤ 600000 ∧ slots ≤ 7302250) (hl : lwL ls qa qr i b)
    (K : ∀ (H1 : Heap) (locs1 : List Loc), lwI lwF s D cy adK qa qr H1 → va_S (fun q => s.heap.size ≤ q) s.heap H1 locs1 → W p l e room_1 s m #[Value.ref b] below meth c H1 locs1 (cells) (slots) Q (F0 m 1550 ls [])) : W p l e room_1 s m #[Value.ref b] below meth c H locs cells slots Q (F0 m 239 ls []) := by
  obtain ⟨hx, hb, -, -, -, -, -, -, -, -⟩ := id X.1
  obtain ⟨η, ζ, L, M, Θ, Ξ, h, g, hB, hN, hNR, hH, hG, ⟨ea, er⟩, ⟨R, RP⟩⟩ := hI
  obtain ⟨bb, bm, bl, -⟩ := cT_b hH hN.2.2.2.1 R
  obtain ⟨gb, g1, g4⟩ := rBd_of hG hNR
  obtain ⟨v, h2, g2, e1, e2, R2⟩ := RR_end (n := 6) (m := 6) (x := (xs (i + 1)).toInt) R bl bm
  have k2 := fr2_end R.1 bm e1
  have w2 : lwF → cW h2 g2 := fun f => ⟨frW_end R.1 bm e1 (RP f).1, frH_end R.2.1 g1 e2 (RP f).2⟩
  refine lv_aload_n hx hb dL_239 rfl (lv_at hl 2 rfl) ?_
  refine lw_arg X.1 X.2.1 hS hl 1 hi (by decide) (by decide +kernel) dL_240 dL_241 dL_242 dL_243 dL_244 ?_
  refine lwCf (As := [(xs (i + 1)).toInt]) X (m_X11_end l) (ycv_of yw_X11_end 18 dL_245 zlL_18 rfl (by decide +kernel) (by decide +kernel) (zk_ex (kk := 63) (ts := [0]) _ _ rfl (zkK ⟨63, by decide⟩) rfl rfl rfl)) rfl (fun _ hx => by
      simp only [List.mem_cons, List.not_mem_nil, or_false] at hx
      rcases hx with rfl <;> exact ⟨z_lo _, z_hi _⟩) hB hN hH hG ea e1 hS hcs hl (rest := []) (by decide) (by simp only [List.map_cons, List.map_nil, List.reverse_cons, List.reverse_nil, List.nil_append, List.cons_append, z_ofi]) (fun H8 locs8 hH8 hG8 hS8 => ?_)
  refine lv_pop hx hb dL_248 rfl ?_
  refine lv_aload_n hx hb dL_249 rfl (lv_at hl 1 rfl) ?_
  refine lw_arg X.1 X.2.1 hS8 hl 1 hi (by decide) (by decide +kernel) dL_250 dL_251 dL_252 dL_253 dL_254 ?_
  refine lwRf (As := [(xs (i + 1)).toInt]) X (m_X12_end l) (ycv_of yw_X12_end 22 dL_255 zlL_22 rfl (by decide +kernel) (by decide +kernel) (zk_ex (kk := 35) (ts := [0]) _ _ rfl (zkR ⟨35, by decide⟩) rfl rfl rfl)) rfl (fun _ hx => by
      simp only [List.mem_cons, List.not_mem_nil, or_false] at hx
      rcases hx with rfl <;> exact ⟨z_lo _, z_hi _⟩) hB hNR hH8 hG8 er e2 hS8 hcs hl (rest := []) (by decide) (by simp only [List.map_cons, List.map_nil, List.reverse_cons, List.reverse_nil, List.nil_append, List.cons_append, z_ofi]) (fun H9 locs9 hH9 hG9 hS9 => ?_)
  refine lv_pop hx hb dL_258 rfl ?_
  refine lv_goto (tgt := 1550) hx hb dL_259 (by decide) ?_
  exact K H9 locs9 ⟨η, ζ, L, M, Θ, Ξ, h2, g2, hB, hN.keep k2, hNR, hH9, hG9, ⟨ea, er⟩, ⟨R2, fun f => w2 f⟩⟩ hS9
set_option maxHeartbeats 4000000 in
theorem lwc_2 {p : Program} {l : Launch} {e : Env} {s : State} {m : MethodId} {below : List Frame} {meth : Method} {c : Code} {b N : Nat} {xs : Nat → Int32} {Q : State → Prop} {H : Heap} {locs : List Loc} {cells slots : Nat} {ls : Array Slot} {qa qr i : Nat} {D : va_G} {cy : Nat → ClassId} {tb adK adV : Nat → Nat} {fv : Option Nat} (X : lwX l p s m meth c b N xs D cy tb adK adV fv) (hi : i + 6 ≤ N) (hI : lwI lwF s D cy adK qa qr H) (hS : va_S (fun q => s.heap.size ≤ q) s.heap H locs) (hcs : cells ≤ 600000 ∧ slots ≤ 7302250) (hl : lwL ls qa qr i b)
    (K : ∀ (H1 : Heap) (locs1 : List Loc), lwI lwF s D cy adK qa qr H1 → va_S (fun q => s.heap.size ≤ q) s.heap H1 locs1 → W p l e room_1 s m #[Value.ref b] below meth c H1 locs1 (cells) (slots) Q (F0 m 1550 ls [])) : W p l e room_1 s m #[Value.ref b] below meth c H locs cells slots Q (F0 m 262 ls []) := by
  obtain ⟨hx, hb, -, -, -, -, -, -, -, -⟩ := id X.1
  obtain ⟨η, ζ, L, M, Θ, Ξ, h, g, hB, hN, hNR, hH, hG, ⟨ea, er⟩, ⟨R, RP⟩⟩ := hI
  obtain ⟨bb, bm, bl, -⟩ := cT_b hH hN.2.2.2.1 R
  obtain ⟨gb, g1, g4⟩ := rBd_of hG hNR
  obtain ⟨v, h2, g2, e1, e2, R2⟩ := RR_text (n := 2800) (m := 2600) (sort := (xs (i + 1)).toInt) (at_ := (xs (i + 2)).toInt) ⟨by decide, by decide⟩ R bl bm g4
  have k2 := fr2_text (by decide) R.1 bm (fun j hj => by rw [show h 6 j = g 4 j by have := R.2.2.1.2.2.1 j hj; rw [show 0 + 6 = 6 from rfl, show 3 * 0 + j = j by omega] at this; exact this]; exact g4 j (by omega)) e1
  have w2 : lwF → cW h2 g2 := fun f => ⟨frW_text (by decide) R.1 bm (fun j hj => by rw [show h 6 j = g 4 j by have := R.2.2.1.2.2.1 j hj; rw [show 0 + 6 = 6 from rfl, show 3 * 0 + j = j by omega] at this; exact this]; exact g4 j (by omega)) e1 (RP f).1, frH_text (by decide) R.2.1 g1 g4 e2 (RP f).2⟩
  refine lv_aload_n hx hb dL_262 rfl (lv_at hl 2 rfl) ?_
  refine lw_arg X.1 X.2.1 hS hl 1 hi (by decide) (by decide +kernel) dL_263 dL_264 dL_265 dL_266 dL_267 ?_
  refine lw_arg X.1 X.2.1 hS hl 2 hi (by decide) (by decide +kernel) dL_268 dL_269 dL_270 dL_271 dL_272 ?_
  refine lwCf (As := [(xs (i + 1)).toInt, (xs (i + 2)).toInt]) X (m_X11_text l) (ycv_of yw_X11_text 23 dL_273 zlL_23 rfl (by decide +kernel) (by decide +kernel) (zk_ex (kk := 63) (ts := [0, 0]) _ _ rfl (zkK ⟨63, by decide⟩) rfl rfl rfl)) rfl (fun _ hx => by
      simp only [List.mem_cons, List.not_mem_nil, or_false] at hx
      rcases hx with rfl | rfl <;> exact ⟨z_lo _, z_hi _⟩) hB hN hH hG ea e1 hS hcs hl (rest := []) (by decide) (by simp only [List.map_cons, List.map_nil, List.reverse_cons, List.reverse_nil, List.nil_append, List.cons_append, z_ofi]) (fun H8 locs8 hH8 hG8 hS8 => ?_)
  refine lv_pop hx hb dL_276 rfl ?_
  refine lv_aload_n hx hb dL_277 rfl (lv_at hl 1 rfl) ?_
  refine lw_arg X.1 X.2.1 hS8 hl 1 hi (by decide) (by decide +kernel) dL_278 dL_279 dL_280 dL_281 dL_282 ?_
  refine lw_arg X.1 X.2.1 hS8 hl 2 hi (by decide) (by decide +kernel) dL_283 dL_284 dL_285 dL_286 dL_287 ?_
  refine lwRf (As := [(xs (i + 1)).toInt, (xs (i + 2)).toInt]) X (m_X12_text l) (ycv_of yw_X12_text 27 dL_288 zlL_27 rfl (by decide +kernel) (by decide +kernel) (zk_ex (kk := 35) (ts := [0, 0]) _ _ rfl (zkR ⟨35, by decide⟩) rfl rfl rfl)) rfl (fun _ hx => by
      simp only [List.mem_cons, List.not_mem_nil, or_false] at hx
      rcases hx with rfl | rfl <;> exact ⟨z_lo _, z_hi _⟩) hB hNR hH8 hG8 er e2 hS8 hcs hl (rest := []) (by decide) (by simp only [List.map_cons, List.map_nil, List.reverse_cons, List.reverse_nil, List.nil_append, List.cons_append, z_ofi]) (fun H9 locs9 hH9 hG9 hS9 => ?_)
  refine lv_pop hx hb dL_291 rfl ?_
  refine lv_goto (tgt := 1550) hx hb dL_292 (by decide) ?_
  exact K H9 locs9 ⟨η, ζ, L, M, Θ, Ξ, h2, g2, hB, hN.keep k2, hNR, hH9, hG9, ⟨ea, er⟩, ⟨R2, fun f => w2 f⟩⟩ hS9
set_option maxHeartbeats 4000000 in
theorem lwc_29 {p : Program} {l : Launch} {e : Env} {s : State} {m : MethodId} {below : List Frame} {meth : Method} {c : Code} {b N : Nat} {xs : Nat → Int32} {Q : State → Prop} {H : Heap} {locs : List Loc} {cells slots : Nat} {ls : Array Slot} {qa qr i : Nat} {D : va_G} {cy : Nat → ClassId} {tb adK adV : Nat → Nat} {fv : Option Nat} (X : lwX l p s m meth c b N xs D cy tb adK adV fv) (hi : i + 6 ≤ N) (hI : lwI lwF s D cy adK qa qr H) (hS : va_S (fun q => s.heap.size ≤ q) s.heap H locs) (hcs : cells ≤ 600000 ∧ slots ≤ 7302250) (hl : lwL ls qa qr i b)
    (K : ∀ (H1 : Heap) (locs1 : List Loc), lwI lwF s D cy adK qa qr H1 → va_S (fun q => s.heap.size ≤ q) s.heap H1 locs1 → W p l e room_1 s m #[Value.ref b] below meth c H1 locs1 (cells) (slots) Q (F0 m 1550 ls [])) : W p l e room_1 s m #[Value.ref b] below meth c H locs cells slots Q (F0 m 1481 ls []) := by
  obtain ⟨hx, hb, -, -, -, -, -, -, -, -⟩ := id X.1
  obtain ⟨η, ζ, L, M, Θ, Ξ, h, g, hB, hN, hNR, hH, hG, ⟨ea, er⟩, ⟨R, RP⟩⟩ := hI
  obtain ⟨bb, bm, bl, -⟩ := cT_b hH hN.2.2.2.1 R
  obtain ⟨gb, g1, g4⟩ := rBd_of hG hNR
  obtain ⟨v, h2, g2, e1, e2, R2, kk⟩ := RR_count (n := 6) (m := 6) (x := (xs (i + 1)).toInt) R bl bm.2
  have k2 : ∀ k, h2 2 k = h 2 k := fun k => kk 2 k
  have w2 : lwF → cW h2 g2 := fun f => ((RP f).c ((RP f).p.fr (fun a j _ => kk a j))).r (frK_count R.2.1 e2)
  refine lv_aload_n hx hb dL_1481 rfl (lv_at hl 2 rfl) ?_
  refine lw_arg X.1 X.2.1 hS hl 1 hi (by decide) (by decide +kernel) dL_1482 dL_1483 dL_1484 dL_1485 dL_1486 ?_
  refine lwCf (As := [(xs (i + 1)).toInt]) X (m_X11_count l) (ycv_of yw_X11_count 136 dL_1487 zlL_136 rfl (by decide +kernel) (by decide +kernel) (zk_ex (kk := 63) (ts := [0]) _ _ rfl (zkK ⟨63, by decide⟩) rfl rfl rfl)) rfl (fun _ hx => by
      simp only [List.mem_cons, List.not_mem_nil, or_false] at hx
      rcases hx with rfl <;> exact ⟨z_lo _, z_hi _⟩) hB hN hH hG ea e1 hS hcs hl (rest := []) (by decide) (by simp only [List.map_cons, List.map_nil, List.reverse_cons, List.reverse_nil, List.nil_append, List.cons_append, z_ofi]) (fun H8 locs8 hH8 hG8 hS8 => ?_)
  refine lv_pop hx hb dL_1490 rfl ?_
  refine lv_aload_n hx hb dL_1491 rfl (lv_at hl 1 rfl) ?_
  refine lw_arg X.1 X.2.1 hS8 hl 1 hi (by decide) (by decide +kernel) dL_1492 dL_1493 dL_1494 dL_1495 dL_1496 ?_
  refine lwRf (As := [(xs (i + 1)).toInt]) X (m_X12_count l) (ycv_of yw_X12_count 139 dL_1497 zlL_139 rfl (by decide +kernel) (by decide +kernel) (zk_ex (kk := 35) (ts := [0]) _ _ rfl (zkR ⟨35, by decide⟩) rfl rfl rfl)) rfl (fun _ hx => by
      simp only [List.mem_cons, List.not_mem_nil, or_false] at hx
      rcases hx with rfl <;> exact ⟨z_lo _, z_hi _⟩) hB hNR hH8 hG8 er e2 hS8 hcs hl (rest := []) (by decide) (by simp only [List.map_cons, List.map_nil, List.reverse_cons, List.reverse_nil, List.nil_append, List.cons_append, z_ofi]) (fun H9 locs9 hH9 hG9 hS9 => ?_)
  refine lv_pop hx hb dL_1500 rfl ?_
  refine lv_goto (tgt := 1550) hx hb dL_1501 (by decide) ?_
  exact K H9 locs9 ⟨η, ζ, L, M, Θ, Ξ, h2, g2, hB, hN.keep k2, hNR, hH9, hG9, ⟨ea, er⟩, ⟨R2, fun f => w2 f⟩⟩ hS9
set_option maxHeartbeats 4000000 in
theorem lwc_3 {p : Program} {l : Launch} {e : Env} {s : State} {m : MethodId} {below : List Frame} {meth : Method} {c : Code} {b N : Nat} {xs : Nat → Int32} {Q : State → Prop} {H : Heap} {locs : List Loc} {cells slots : Nat} {ls : Array Slot} {qa qr i : Nat} {D : va_G} {cy : Nat → ClassId} {tb adK adV : Nat → Nat} {fv : Option Nat} (X : lwX l p s m meth c b N xs D cy tb adK adV fv) (hi : i + 6 ≤ N) (hI : lwI lwF s D cy adK qa qr H) (hS : va_S (fun q => s.heap.size ≤ q) s.heap H locs) (hcs : cells ≤ 600000 ∧ slots ≤ 7302250) (hl : lwL ls qa qr i b)
    (K : ∀ (H1 : Heap) (locs1 : List Loc), lwI lwF s D cy adK qa qr H1 → va_S (fun q => s.heap.size ≤ q) s.heap H1 locs1 → W p l e room_1 s m #[Value.ref b] below meth c H1 locs1 (cells) (slots) Q (F0 m 1550 ls [])) : W p l e room_1 s m #[Value.ref b] below meth c H locs cells slots Q (F0 m 295 ls []) := by
  obtain ⟨hx, hb, -, -, -, -, -, -, -, -⟩ := id X.1
  obtain ⟨η, ζ, L, M, Θ, Ξ, h, g, hB, hN, hNR, hH, hG, ⟨ea, er⟩, ⟨R, RP⟩⟩ := hI
  obtain ⟨bb, bm, bl, -⟩ := cT_b hH hN.2.2.2.1 R
  obtain ⟨gb, g1, g4⟩ := rBd_of hG hNR
  obtain ⟨v, h2, g2, e1, e2, R2, kk⟩ := RR_fault (n := 6) (m := 6) (x := (xs (i + 1)).toInt) R bl bm.2
  have k2 : ∀ k, h2 2 k = h 2 k := fun k => kk 2 k
  have w2 : lwF → cW h2 g2 := fun f => ((RP f).c ((RP f).p.fr (fun a j _ => kk a j))).r (frK_fault R.2.1 e2)
  refine lv_aload_n hx hb dL_295 rfl (lv_at hl 2 rfl) ?_
  refine lw_arg X.1 X.2.1 hS hl 1 hi (by decide) (by decide +kernel) dL_296 dL_297 dL_298 dL_299 dL_300 ?_
  refine lwCf (As := [(xs (i + 1)).toInt]) X (m_X11_fault l) (ycv_of yw_X11_fault 28 dL_301 zlL_28 rfl (by decide +kernel) (by decide +kernel) (zk_ex (kk := 63) (ts := [0]) _ _ rfl (zkK ⟨63, by decide⟩) rfl rfl rfl)) rfl (fun _ hx => by
      simp only [List.mem_cons, List.not_mem_nil, or_false] at hx
      rcases hx with rfl <;> exact ⟨z_lo _, z_hi _⟩) hB hN hH hG ea e1 hS hcs hl (rest := []) (by decide) (by simp only [List.map_cons, List.map_nil, List.reverse_cons, List.reverse_nil, List.nil_append, List.cons_append, z_ofi]) (fun H8 locs8 hH8 hG8 hS8 => ?_)
  refine lv_pop hx hb dL_304 rfl ?_
  refine lv_aload_n hx hb dL_305 rfl (lv_at hl 1 rfl) ?_
  refine lw_arg X.1 X.2.1 hS8 hl 1 hi (by decide) (by decide +kernel) dL_306 dL_307 dL_308 dL_309 dL_310 ?_
  refine lwRf (As := [(xs (i + 1)).toInt]) X (m_X12_fault l) (ycv_of yw_X12_fault 31 dL_311 zlL_31 rfl (by decide +kernel) (by decide +kernel) (zk_ex (kk := 35) (ts := [0]) _ _ rfl (zkR ⟨35, by decide⟩) rfl rfl rfl)) rfl (fun _ hx => by
      simp only [List.mem_cons, List.not_mem_nil, or_false] at hx
      rcases hx with rfl <;> exact ⟨z_lo _, z_hi _⟩) hB hNR hH8 hG8 er e2 hS8 hcs hl (rest := []) (by decide) (by simp only [List.map_cons, List.map_nil, List.reverse_cons, List.reverse_nil, List.nil_append, List.cons_append, z_ofi]) (fun H9 locs9 hH9 hG9 hS9 => ?_)
  refine lv_pop hx hb dL_314 rfl ?_
  refine lv_goto (tgt := 1550) hx hb dL_315 (by decide) ?_
  exact K H9 locs9 ⟨η, ζ, L, M, Θ, Ξ, h2, g2, hB, hN.keep k2, hNR, hH9, hG9, ⟨ea, er⟩, ⟨R2, fun f => w2 f⟩⟩ hS9
set_option maxHeartbeats 4000000 in
theorem lwc_4 {p : Program} {l : Launch} {e : Env} {s : State} {m : MethodId} {below : List Frame} {meth : Method} {c : Code} {b N : Nat} {xs : Nat → Int32} {Q : State → Prop} {H : Heap} {locs : List Loc} {cells slots : Nat} {ls : Array Slot} {qa qr i : Nat} {D : va_G} {cy : Nat → ClassId} {tb adK adV : Nat → Nat} {fv : Option Nat} (X : lwX l p s m meth c b N xs D cy tb adK adV fv) (hi : i + 6 ≤ N) (hI : lwI lwF s D cy adK qa qr H) (hS : va_S (fun q => s.heap.size ≤ q) s.heap H locs) (hcs : cells ≤ 600000 ∧ slots ≤ 7302250) (hl : lwL ls qa qr i b)
    (K : ∀ (H1 : Heap) (locs1 : List Loc), lwI lwF s D cy adK qa qr H1 → va_S (fun q => s.heap.size ≤ q) s.heap H1 locs1 → W p l e room_1 s m #[Value.ref b] below meth c H1 locs1 (cells) (slots) Q (F0 m 1550 ls [])) : W p l e room_1 s m #[Value.ref b] below meth c H locs cells slots Q (F0 m 318 ls []) := by
  obtain ⟨hx, hb, -, -, -, -, -, -, -, -⟩ := id X.1
  obtain ⟨η, ζ, L, M, Θ, Ξ, h, g, hB, hN, hNR, hH, hG, ⟨ea, er⟩, ⟨R, RP⟩⟩ := hI
  obtain ⟨bb, bm, bl, -⟩ := cT_b hH hN.2.2.2.1 R
  obtain ⟨gb, g1, g4⟩ := rBd_of hG hNR
  obtain ⟨v, h2, g2, e1, e2, R2, kk⟩ := RR_sea (n := 300) (m := 300) (x := (xs (i + 1)).toInt) (w := (xs (i + 2)).toInt) (by decide) R bl bm.2 (rQ_of hG hNR) g4
  have k2 : ∀ k, h2 2 k = h 2 k := fun k => kk 2 k
  have w2 : lwF → cW h2 g2 := fun f => ((RP f).c ((RP f).p.fr (fun a j _ => kk a j))).r (frK_sea (h := h) (by decide) R (rQ_of hG hNR) g4 e2)
  refine lv_aload_n hx hb dL_318 rfl (lv_at hl 2 rfl) ?_
  refine lw_arg X.1 X.2.1 hS hl 1 hi (by decide) (by decide +kernel) dL_319 dL_320 dL_321 dL_322 dL_323 ?_
  refine lw_arg X.1 X.2.1 hS hl 2 hi (by decide) (by decide +kernel) dL_324 dL_325 dL_326 dL_327 dL_328 ?_
  refine lwCf (As := [(xs (i + 1)).toInt, (xs (i + 2)).toInt]) X (m_X11_sea l) (ycv_of yw_X11_sea 32 dL_329 zlL_32 rfl (by decide +kernel) (by decide +kernel) (zk_ex (kk := 63) (ts := [0, 0]) _ _ rfl (zkK ⟨63, by decide⟩) rfl rfl rfl)) rfl (fun _ hx => by
      simp only [List.mem_cons, List.not_mem_nil, or_false] at hx
      rcases hx with rfl | rfl <;> exact ⟨z_lo _, z_hi _⟩) hB hN hH hG ea e1 hS hcs hl (rest := []) (by decide) (by simp only [List.map_cons, List.map_nil, List.reverse_cons, List.reverse_nil, List.nil_append, List.cons_append, z_ofi]) (fun H8 locs8 hH8 hG8 hS8 => ?_)
  refine lv_pop hx hb dL_332 rfl ?_
  refine lv_aload_n hx hb dL_333 rfl (lv_at hl 1 rfl) ?_
  refine lw_arg X.1 X.2.1 hS8 hl 1 hi (by decide) (by decide +kernel) dL_334 dL_335 dL_336 dL_337 dL_338 ?_
  refine lw_arg X.1 X.2.1 hS8 hl 2 hi (by decide) (by decide +kernel) dL_339 dL_340 dL_341 dL_342 dL_343 ?_
  refine lwRf (As := [(xs (i + 1)).toInt, (xs (i + 2)).toInt]) X (m_X12_sea l) (ycv_of yw_X12_sea 35 dL_344 zlL_35 rfl (by decide +kernel) (by decide +kernel) (zk_ex (kk := 35) (ts := [0, 0]) _ _ rfl (zkR ⟨35, by decide⟩) rfl rfl rfl)) rfl (fun _ hx => by
      simp only [List.mem_cons, List.not_mem_nil, or_false] at hx
      rcases hx with rfl | rfl <;> exact ⟨z_lo _, z_hi _⟩) hB hNR hH8 hG8 er e2 hS8 hcs hl (rest := []) (by decide) (by simp only [List.map_cons, List.map_nil, List.reverse_cons, List.reverse_nil, List.nil_append, List.cons_append, z_ofi]) (fun H9 locs9 hH9 hG9 hS9 => ?_)
  refine lv_pop hx hb dL_347 rfl ?_
  refine lv_goto (tgt := 1550) hx hb dL_348 (by decide) ?_
  exact K H9 locs9 ⟨η, ζ, L, M, Θ, Ξ, h2, g2, hB, hN.keep k2, hNR, hH9, hG9, ⟨ea, er⟩, ⟨R2, fun f => w2 f⟩⟩ hS9
set_option maxHeartbeats 4000000 in
theorem lwc_5 {p : Program} {l : Launch} {e : Env} {s : State} {m : MethodId} {below : List Frame} {meth : Method} {c : Code} {b N : Nat} {xs : Nat → Int32} {Q : State → Prop} {H : Heap} {locs : List Loc} {cells slots : Nat} {ls : Array Slot} {qa qr i : Nat} {D : va_G} {cy : Nat → ClassId} {tb adK adV : Nat → Nat} {fv : Option Nat} (X : lwX l p s m meth c b N xs D cy tb adK adV fv) (hi : i + 6 ≤ N) (hI : lwI lwF s D cy adK qa qr H) (hS : va_S (fun q => s.heap.size ≤ q) s.heap H locs) (hcs : cells ≤ 600000 ∧ slots ≤ 7302250) (hl : lwL ls qa qr i b)
    (K : ∀ (H1 : Heap) (locs1 : List Loc), lwI lwF s D cy adK qa qr H1 → va_S (fun q => s.heap.size ≤ q) s.heap H1 locs1 → W p l e room_1 s m #[Value.ref b] below meth c H1 locs1 (cells) (slots) Q (F0 m 1550 ls [])) : W p l e room_1 s m #[Value.ref b] below meth c H locs cells slots Q (F0 m 351 ls []) := by
  obtain ⟨hx, hb, -, -, -, -, -, -, -, -⟩ := id X.1
  obtain ⟨η, ζ, L, M, Θ, Ξ, h, g, hB, hN, hNR, hH, hG, ⟨ea, er⟩, ⟨R, RP⟩⟩ := hI
  obtain ⟨bb, bm, bl, -⟩ := cT_b hH hN.2.2.2.1 R
  obtain ⟨gb, g1, g4⟩ := rBd_of hG hNR
  obtain ⟨v, h2, g2, e1, e2, R2, kk⟩ := RR_shoal (n := 300) (m := 300) (x := (xs (i + 1)).toInt) (k := (xs (i + 2)).toInt) (w := (xs (i + 3)).toInt) (by decide) R bl bm.2 (rQ_of hG hNR) g4
  have k2 : ∀ k, h2 2 k = h 2 k := fun k => kk 2 k
  have w2 : lwF → cW h2 g2 := fun f => ((RP f).c ((RP f).p.fr (fun a j _ => kk a j))).r (frK_shoal (h := h) (by decide) R (rQ_of hG hNR) g4 e2)
  refine lv_aload_n hx hb dL_351 rfl (lv_at hl 2 rfl) ?_
  refine lw_arg X.1 X.2.1 hS hl 1 hi (by decide) (by decide +kernel) dL_352 dL_353 dL_354 dL_355 dL_356 ?_
  refine lw_arg X.1 X.2.1 hS hl 2 hi (by decide) (by decide +kernel) dL_357 dL_358 dL_359 dL_360 dL_361 ?_
  refine lw_arg X.1 X.2.1 hS hl 3 hi (by decide) (by decide +kernel) dL_362 dL_363 dL_364 dL_365 dL_366 ?_
  refine lwCf (As := [(xs (i + 1)).toInt, (xs (i + 2)).toInt, (xs (i + 3)).toInt]) X (m_X11_shoal l) (ycv_of yw_X11_shoal 36 dL_367 zlL_36 rfl (by decide +kernel) (by decide +kernel) (zk_ex (kk := 63) (ts := [0, 0, 0]) _ _ rfl (zkK ⟨63, by decide⟩) rfl rfl rfl)) rfl (fun _ hx => by
      simp only [List.mem_cons, List.not_mem_nil, or_false] at hx
      rcases hx with rfl | rfl | rfl <;> exact ⟨z_lo _, z_hi _⟩) hB hN hH hG ea e1 hS hcs hl (rest := []) (by decide) (by simp only [List.map_cons, List.map_nil, List.reverse_cons, List.reverse_nil, List.nil_append, List.cons_append, z_ofi]) (fun H8 locs8 hH8 hG8 hS8 => ?_)
  refine lv_pop hx hb dL_370 rfl ?_
  refine lv_aload_n hx hb dL_371 rfl (lv_at hl 1 rfl) ?_
  refine lw_arg X.1 X.2.1 hS8 hl 1 hi (by decide) (by decide +kernel) dL_372 dL_373 dL_374 dL_375 dL_376 ?_
  refine lw_arg X.1 X.2.1 hS8 hl 2 hi (by decide) (by decide +kernel) dL_377 dL_378 dL_379 dL_380 dL_381 ?_
  refine lw_arg X.1 X.2.1 hS8 hl 3 hi (by decide) (by decide +kernel) dL_382 dL_383 dL_384 dL_385 dL_386 ?_
  refine lwRf (As := [(xs (i + 1)).toInt, (xs (i + 2)).toInt, (xs (i + 3)).toInt]) X (m_X12_shoal l) (ycv_of yw_X12_shoal 40 dL_387 zlL_40 rfl (by decide +kernel) (by decide +kernel) (zk_ex (kk := 35) (ts := [0, 0, 0]) _ _ rfl (zkR ⟨35, by decide⟩) rfl rfl rfl)) rfl (fun _ hx => by
      simp only [List.mem_cons, List.not_mem_nil, or_false] at hx
      rcases hx with rfl | rfl | rfl <;> exact ⟨z_lo _, z_hi _⟩) hB hNR hH8 hG8 er e2 hS8 hcs hl (rest := []) (by decide) (by simp only [List.map_cons, List.map_nil, List.reverse_cons, List.reverse_nil, List.nil_append, List.cons_append, z_ofi]) (fun H9 locs9 hH9 hG9 hS9 => ?_)
  refine lv_pop hx hb dL_390 rfl ?_
  refine lv_goto (tgt := 1550) hx hb dL_391 (by decide) ?_
  exact K H9 locs9 ⟨η, ζ, L, M, Θ, Ξ, h2, g2, hB, hN.keep k2, hNR, hH9, hG9, ⟨ea, er⟩, ⟨R2, fun f => w2 f⟩⟩ hS9
set_option maxHeartbeats 4000000 in
theorem lwc_6 {p : Program} {l : Launch} {e : Env} {s : State} {m : MethodId} {below : List Frame} {meth : Method} {c : Code} {b N : Nat} {xs : Nat → Int32} {Q : State → Prop} {H : Heap} {locs : List Loc} {cells slots : Nat} {ls : Array Slot} {qa qr i : Nat} {D : va_G} {cy : Nat → ClassId} {tb adK adV : Nat → Nat} {fv : Option Nat} (X : lwX l p s m meth c b N xs D cy tb adK adV fv) (hi : i + 6 ≤ N) (hI : lwI lwF s D cy adK qa qr H) (hS : va_S (fun q => s.heap.size ≤ q) s.heap H locs) (hcs : cells ≤ 600000 ∧ slots ≤ 7302250) (hl : lwL ls qa qr i b)
    (K : ∀ (H1 : Heap) (locs1 : List Loc), lwI lwF s D cy adK qa qr H1 → va_S (fun q => s.heap.size ≤ q) s.heap H1 locs1 → W p l e room_1 s m #[Value.ref b] below meth c H1 locs1 (cells) (slots) Q (F0 m 1550 ls [])) : W p l e room_1 s m #[Value.ref b] below meth c H locs cells slots Q (F0 m 394 ls []) := by
  obtain ⟨hx, hb, -, -, -, -, -, -, -, -⟩ := id X.1
  obtain ⟨η, ζ, L, M, Θ, Ξ, h, g, hB, hN, hNR, hH, hG, ⟨ea, er⟩, ⟨R, RP⟩⟩ := hI
  obtain ⟨bb, bm, bl, -⟩ := cT_b hH hN.2.2.2.1 R
  obtain ⟨gb, g1, g4⟩ := rBd_of hG hNR
  obtain ⟨v, h2, g2, e1, e2, R2, kk⟩ := RR_boat (n := 300) (m := 300) (x := (xs (i + 1)).toInt) (k := (xs (i + 2)).toInt) (w := (xs (i + 3)).toInt) (by decide) R bl bm.2 (rQ_of hG hNR) g4
  have k2 : ∀ k, h2 2 k = h 2 k := fun k => kk 2 k
  have w2 : lwF → cW h2 g2 := fun f => ((RP f).c ((RP f).p.fr (fun a j _ => kk a j))).r (frK_boat (h := h) (by decide) R (rQ_of hG hNR) g4 e2)
  refine lv_aload_n hx hb dL_394 rfl (lv_at hl 2 rfl) ?_
  refine lw_arg X.1 X.2.1 hS hl 1 hi (by decide) (by decide +kernel) dL_395 dL_396 dL_397 dL_398 dL_399 ?_
  refine lw_arg X.1 X.2.1 hS hl 2 hi (by decide) (by decide +kernel) dL_400 dL_401 dL_402 dL_403 dL_404 ?_
  refine lw_arg X.1 X.2.1 hS hl 3 hi (by decide) (by decide +kernel) dL_405 dL_406 dL_407 dL_408 dL_409 ?_
  refine lwCf (As := [(xs (i + 1)).toInt, (xs (i + 2)).toInt, (xs (i + 3)).toInt]) X (m_X11_boat l) (ycv_of yw_X11_boat 41 dL_410 zlL_41 rfl (by decide +kernel) (by decide +kernel) (zk_ex (kk := 63) (ts := [0, 0, 0]) _ _ rfl (zkK ⟨63, by decide⟩) rfl rfl rfl)) rfl (fun _ hx => by
      simp only [List.mem_cons, List.not_mem_nil, or_false] at hx
      rcases hx with rfl | rfl | rfl <;> exact ⟨z_lo _, z_hi _⟩) hB hN hH hG ea e1 hS hcs hl (rest := []) (by decide) (by simp only [List.map_cons, List.map_nil, List.reverse_cons, List.reverse_nil, List.nil_append, List.cons_append, z_ofi]) (fun H8 locs8 hH8 hG8 hS8 => ?_)
  refine lv_aload_n hx hb dL_413 rfl (lv_at hl 1 rfl) ?_
  refine lw_arg X.1 X.2.1 hS8 hl 1 hi (by decide) (by decide +kernel) dL_414 dL_415 dL_416 dL_417 dL_418 ?_
  refine lw_arg X.1 X.2.1 hS8 hl 2 hi (by decide) (by decide +kernel) dL_419 dL_420 dL_421 dL_422 dL_423 ?_
  refine lw_arg X.1 X.2.1 hS8 hl 3 hi (by decide) (by decide +kernel) dL_424 dL_425 dL_426 dL_427 dL_428 ?_
  refine lwRf (As := [(xs (i + 1)).toInt, (xs (i + 2)).toInt, (xs (i + 3)).toInt]) X (m_X12_boat l) (ycv_of yw_X12_boat 44 dL_429 zlL_44 rfl (by decide +kernel) (by decide +kernel) (zk_ex (kk := 35) (ts := [0, 0, 0]) _ _ rfl (zkR ⟨35, by decide⟩) rfl rfl rfl)) rfl (fun _ hx => by
      simp only [List.mem_cons, List.not_mem_nil, or_false] at hx
      rcases hx with rfl | rfl | rfl <;> exact ⟨z_lo _, z_hi _⟩) hB hNR hH8 hG8 er e2 hS8 hcs hl (rest := [.int (Int32.ofInt v)]) (by simp [Value.category]) (by simp only [List.map_cons, List.map_nil, List.reverse_cons, List.reverse_nil, List.nil_append, List.cons_append, z_ofi]) (fun H9 locs9 hH9 hG9 hS9 => ?_)
  refine lv_icmp_eq (tgt := 1550) hx hb dL_432 (by decide) (fun _ => ?_) (fun hne => absurd rfl hne)
  exact K H9 locs9 ⟨η, ζ, L, M, Θ, Ξ, h2, g2, hB, hN.keep k2, hNR, hH9, hG9, ⟨ea, er⟩, ⟨R2, fun f => w2 f⟩⟩ hS9
set_option maxHeartbeats 4000000 in
theorem lwc_7 {p : Program} {l : Launch} {e : Env} {s : State} {m : MethodId} {below : List Frame} {meth : Method} {c : Code} {b N : Nat} {xs : Nat → Int32} {Q : State → Prop} {H : Heap} {locs : List Loc} {cells slots : Nat} {ls : Array Slot} {qa qr i : Nat} {D : va_G} {cy : Nat → ClassId} {tb adK adV : Nat → Nat} {fv : Option Nat} (X : lwX l p s m meth c b N xs D cy tb adK adV fv) (hi : i + 6 ≤ N) (hI : lwI lwF s D cy adK qa qr H) (hS : va_S (fun q => s.heap.size ≤ q) s.heap H locs) (hcs : cells ≤ 600000 ∧ slots ≤ 7302250) (hl : lwL ls qa qr i b)
    (K : ∀ (H1 : Heap) (locs1 : List Loc), lwI lwF s D cy adK qa qr H1 → va_S (fun q => s.heap.size ≤ q) s.heap H1 locs1 → W p l e room_1 s m #[Value.ref b] below meth c H1 locs1 (cells) (slots) Q (F0 m 1550 ls [])) : W p l e room_1 s m #[Value.ref b] below meth c H locs cells slots Q (F0 m 437 ls []) := by
  obtain ⟨hx, hb, -, -, -, -, -, -, -, -⟩ := id X.1
  obtain ⟨η, ζ, L, M, Θ, Ξ, h, g, hB, hN, hNR, hH, hG, ⟨ea, er⟩, ⟨R, RP⟩⟩ := hI
  obtain ⟨bb, bm, bl, -⟩ := cT_b hH hN.2.2.2.1 R
  obtain ⟨gb, g1, g4⟩ := rBd_of hG hNR
  obtain ⟨v, h2, g2, e1, e2, R2, kk⟩ := RR_far (n := 300) (m := 300) (x := (xs (i + 1)).toInt) (k := (xs (i + 2)).toInt) (w := (xs (i + 3)).toInt) (by decide) R bl bm.2 (rQ_of hG hNR) g4
  have k2 : ∀ k, h2 2 k = h 2 k := fun k => kk 2 k
  have w2 : lwF → cW h2 g2 := fun f => ((RP f).c ((RP f).p.fr (fun a j _ => kk a j))).r (frK_far (h := h) (by decide) R (rQ_of hG hNR) g4 e2)
  refine lv_aload_n hx hb dL_437 rfl (lv_at hl 2 rfl) ?_
  refine lw_arg X.1 X.2.1 hS hl 1 hi (by decide) (by decide +kernel) dL_438 dL_439 dL_440 dL_441 dL_442 ?_
  refine lw_arg X.1 X.2.1 hS hl 2 hi (by decide) (by decide +kernel) dL_443 dL_444 dL_445 dL_446 dL_447 ?_
  refine lw_arg X.1 X.2.1 hS hl 3 hi (by decide) (by decide +kernel) dL_448 dL_449 dL_450 dL_451 dL_452 ?_
  refine lwCf (As := [(xs (i + 1)).toInt, (xs (i + 2)).toInt, (xs (i + 3)).toInt]) X (m_X11_far l) (ycv_of yw_X11_far 45 dL_453 zlL_45 rfl (by decide +kernel) (by decide +kernel) (zk_ex (kk := 63) (ts := [0, 0, 0]) _ _ rfl (zkK ⟨63, by decide⟩) rfl rfl rfl)) rfl (fun _ hx => by
      simp only [List.mem_cons, List.not_mem_nil, or_false] at hx
      rcases hx with rfl | rfl | rfl <;> exact ⟨z_lo _, z_hi _⟩) hB hN hH hG ea e1 hS hcs hl (rest := []) (by decide) (by simp only [List.map_cons, List.map_nil, List.reverse_cons, List.reverse_nil, List.nil_append, List.cons_append, z_ofi]) (fun H8 locs8 hH8 hG8 hS8 => ?_)
  refine lv_pop hx hb dL_456 rfl ?_
  refine lv_aload_n hx hb dL_457 rfl (lv_at hl 1 rfl) ?_
  refine lw_arg X.1 X.2.1 hS8 hl 1 hi (by decide) (by decide +kernel) dL_458 dL_459 dL_460 dL_461 dL_462 ?_
  refine lw_arg X.1 X.2.1 hS8 hl 2 hi (by decide) (by decide +kernel) dL_463 dL_464 dL_465 dL_466 dL_467 ?_
  refine lw_arg X.1 X.2.1 hS8 hl 3 hi (by decide) (by decide +kernel) dL_468 dL_469 dL_470 dL_471 dL_472 ?_
  refine lwRf (As := [(xs (i + 1)).toInt, (xs (i + 2)).toInt, (xs (i + 3)).toInt]) X (m_X12_far l) (ycv_of yw_X12_far 48 dL_473 zlL_48 rfl (by decide +kernel) (by decide +kernel) (zk_ex (kk := 35) (ts := [0, 0, 0]) _ _ rfl (zkR ⟨35, by decide⟩) rfl rfl rfl)) rfl (fun _ hx => by
      simp only [List.mem_cons, List.not_mem_nil, or_false] at hx
      rcases hx with rfl | rfl | rfl <;> exact ⟨z_lo _, z_hi _⟩) hB hNR hH8 hG8 er e2 hS8 hcs hl (rest := []) (by decide) (by simp only [List.map_cons, List.map_nil, List.reverse_cons, List.reverse_nil, List.nil_append, List.cons_append, z_ofi]) (fun H9 locs9 hH9 hG9 hS9 => ?_)
  refine lv_pop hx hb dL_476 rfl ?_
  refine lv_goto (tgt := 1550) hx hb dL_477 (by decide) ?_
  exact K H9 locs9 ⟨η, ζ, L, M, Θ, Ξ, h2, g2, hB, hN.keep k2, hNR, hH9, hG9, ⟨ea, er⟩, ⟨R2, fun f => w2 f⟩⟩ hS9
set_option maxHeartbeats 4000000 in
theorem lwc_9 {p : Program} {l : Launch} {e : Env} {s : State} {m : MethodId} {below : List Frame} {meth : Method} {c : Code} {b N : Nat} {xs : Nat → Int32} {Q : State → Prop} {H : Heap} {locs : List Loc} {cells slots : Nat} {ls : Array Slot} {qa qr i : Nat} {D : va_G} {cy : Nat → ClassId} {tb adK adV : Nat → Nat} {fv : Option Nat} (X : lwX l p s m meth c b N xs D cy tb adK adV fv) (hi : i + 6 ≤ N) (hI : lwI lwF s D cy adK qa qr H) (hS : va_S (fun q => s.heap.size ≤ q) s.heap H locs) (hcs : cells ≤ 600000 ∧ slots ≤ 7302250) (hl : lwL ls qa qr i b)
    (K : ∀ (H1 : Heap) (locs1 : List Loc), lwI lwF s D cy adK qa qr H1 → va_S (fun q => s.heap.size ≤ q) s.heap H1 locs1 → W p l e room_1 s m #[Value.ref b] below meth c H1 locs1 (cells) (slots) Q (F0 m 1550 ls [])) : W p l e room_1 s m #[Value.ref b] below meth c H locs cells slots Q (F0 m 523 ls []) := by
  obtain ⟨hx, hb, -, -, -, -, -, -, -, -⟩ := id X.1
  obtain ⟨η, ζ, L, M, Θ, Ξ, h, g, hB, hN, hNR, hH, hG, ⟨ea, er⟩, ⟨R, RP⟩⟩ := hI
  obtain ⟨bb, bm, bl, -⟩ := cT_b hH hN.2.2.2.1 R
  obtain ⟨gb, g1, g4⟩ := rBd_of hG hNR
  obtain ⟨v, h2, g2, e1, e2, R2, kk⟩ := RR_loud (n := 300) (m := 300) (x := (xs (i + 1)).toInt) (by decide) (by decide) R (RP trivial).p.1 bl bm.2 (rQ_of hG hNR) g4
  have k2 : ∀ k, h2 2 k = h 2 k := fun k => kk 2 k
  have w2 : lwF → cW h2 g2 := fun f => ((RP f).c ((RP f).p.fr (fun a j _ => kk a j))).r (frK_loud (h := h) (by decide) R (rQ_of hG hNR) g4 e2)
  refine lv_aload_n hx hb dL_523 rfl (lv_at hl 2 rfl) ?_
  refine lw_arg X.1 X.2.1 hS hl 1 hi (by decide) (by decide +kernel) dL_524 dL_525 dL_526 dL_527 dL_528 ?_
  refine lwCf (As := [(xs (i + 1)).toInt]) X (m_X11_loud l) (ycv_of yw_X11_loud 53 dL_529 zlL_53 rfl (by decide +kernel) (by decide +kernel) (zk_ex (kk := 63) (ts := [0]) _ _ rfl (zkK ⟨63, by decide⟩) rfl rfl rfl)) rfl (fun _ hx => by
      simp only [List.mem_cons, List.not_mem_nil, or_false] at hx
      rcases hx with rfl <;> exact ⟨z_lo _, z_hi _⟩) hB hN hH hG ea e1 hS hcs hl (rest := []) (by decide) (by simp only [List.map_cons, List.map_nil, List.reverse_cons, List.reverse_nil, List.nil_append, List.cons_append, z_ofi]) (fun H8 locs8 hH8 hG8 hS8 => ?_)
  refine lv_pop hx hb dL_532 rfl ?_
  refine lv_aload_n hx hb dL_533 rfl (lv_at hl 1 rfl) ?_
  refine lw_arg X.1 X.2.1 hS8 hl 1 hi (by decide) (by decide +kernel) dL_534 dL_535 dL_536 dL_537 dL_538 ?_
  refine lwRf (As := [(xs (i + 1)).toInt]) X (m_X12_loud l) (ycv_of yw_X12_loud 56 dL_539 zlL_56 rfl (by decide +kernel) (by decide +kernel) (zk_ex (kk := 35) (ts := [0]) _ _ rfl (zkR ⟨35, by decide⟩) rfl rfl rfl)) rfl (fun _ hx => by
      simp only [List.mem_cons, List.not_mem_nil, or_false] at hx
      rcases hx with rfl <;> exact ⟨z_lo _, z_hi _⟩) hB hNR hH8 hG8 er e2 hS8 hcs hl (rest := []) (by decide) (by simp only [List.map_cons, List.map_nil, List.reverse_cons, List.reverse_nil, List.nil_append, List.cons_append, z_ofi]) (fun H9 locs9 hH9 hG9 hS9 => ?_)
  refine lv_pop hx hb dL_542 rfl ?_
  refine lv_goto (tgt := 1550) hx hb dL_543 (by decide) ?_
  exact K H9 locs9 ⟨η, ζ, L, M, Θ, Ξ, h2, g2, hB, hN.keep k2, hNR, hH9, hG9, ⟨ea, er⟩, ⟨R2, fun f => w2 f⟩⟩ hS9
set_option maxHeartbeats 4000000 in
theorem lwc_10 {p : Program} {l : Launch} {e : Env} {s : State} {m : MethodId} {below : List Frame} {meth : Method} {c : Code} {b N : Nat} {xs : Nat → Int32} {Q : State → Prop} {H : Heap} {locs : List Loc} {cells slots : Nat} {ls : Array Slot} {qa qr i : Nat} {D : va_G} {cy : Nat → ClassId} {tb adK adV : Nat → Nat} {fv : Option Nat} (X : lwX l p s m meth c b N xs D cy tb adK adV fv) (hi : i + 6 ≤ N) (hI : lwI lwF s D cy adK qa qr H) (hS : va_S (fun q => s.heap.size ≤ q) s.heap H locs) (hcs : cells ≤ 600000 ∧ slots ≤ 7302250) (hl : lwL ls qa qr i b)
    (K : ∀ (H1 : Heap) (locs1 : List Loc), lwI lwF s D cy adK qa qr H1 → va_S (fun q => s.heap.size ≤ q) s.heap H1 locs1 → W p l e room_1 s m #[Value.ref b] below meth c H1 locs1 (cells) (slots) Q (F0 m 1550 ls [])) : W p l e room_1 s m #[Value.ref b] below meth c H locs cells slots Q (F0 m 546 ls []) := by
  obtain ⟨hx, hb, -, -, -, -, -, -, -, -⟩ := id X.1
  obtain ⟨η, ζ, L, M, Θ, Ξ, h, g, hB, hN, hNR, hH, hG, ⟨ea, er⟩, ⟨R, RP⟩⟩ := hI
  obtain ⟨bb, bm, bl, -⟩ := cT_b hH hN.2.2.2.1 R
  obtain ⟨gb, g1, g4⟩ := rBd_of hG hNR
  obtain ⟨v, h2, g2, e1, e2, R2, kk⟩ := RR_deed (n := 300) (m := 300) (x := (xs (i + 1)).toInt) (k := (xs (i + 2)).toInt) (w := (xs (i + 3)).toInt) R bl bm.2 g4
  have k2 : ∀ k, h2 2 k = h 2 k := fun k => kk 2 k
  have w2 : lwF → cW h2 g2 := fun f => ((RP f).c ((RP f).p.fr (fun a j _ => kk a j))).r (frK_deed R g4 e2)
  refine lv_aload_n hx hb dL_546 rfl (lv_at hl 2 rfl) ?_
  refine lw_arg X.1 X.2.1 hS hl 1 hi (by decide) (by decide +kernel) dL_547 dL_548 dL_549 dL_550 dL_551 ?_
  refine lw_arg X.1 X.2.1 hS hl 2 hi (by decide) (by decide +kernel) dL_552 dL_553 dL_554 dL_555 dL_556 ?_
  refine lw_arg X.1 X.2.1 hS hl 3 hi (by decide) (by decide +kernel) dL_557 dL_558 dL_559 dL_560 dL_561 ?_
  refine lwCf (As := [(xs (i + 1)).toInt, (xs (i + 2)).toInt, (xs (i + 3)).toInt]) X (m_X11_deed l) (ycv_of yw_X11_deed 57 dL_562 zlL_57 rfl (by decide +kernel) (by decide +kernel) (zk_ex (kk := 63) (ts := [0, 0, 0]) _ _ rfl (zkK ⟨63, by decide⟩) rfl rfl rfl)) rfl (fun _ hx => by
      simp only [List.mem_cons, List.not_mem_nil, or_false] at hx
      rcases hx with rfl | rfl | rfl <;> exact ⟨z_lo _, z_hi _⟩) hB hN hH hG ea e1 hS hcs hl (rest := []) (by decide) (by simp only [List.map_cons, List.map_nil, List.reverse_cons, List.reverse_nil, List.nil_append, List.cons_append, z_ofi]) (fun H8 locs8 hH8 hG8 hS8 => ?_)
  refine lv_pop hx hb dL_565 rfl ?_
  refine lv_aload_n hx hb dL_566 rfl (lv_at hl 1 rfl) ?_
  refine lw_arg X.1 X.2.1 hS8 hl 1 hi (by decide) (by decide +kernel) dL_567 dL_568 dL_569 dL_570 dL_571 ?_
  refine lw_arg X.1 X.2.1 hS8 hl 2 hi (by decide) (by decide +kernel) dL_572 dL_573 dL_574 dL_575 dL_576 ?_
  refine lw_arg X.1 X.2.1 hS8 hl 3 hi (by decide) (by decide +kernel) dL_577 dL_578 dL_579 dL_580 dL_581 ?_
  refine lwRf (As := [(xs (i + 1)).toInt, (xs (i + 2)).toInt, (xs (i + 3)).toInt]) X (m_X12_deed l) (ycv_of yw_X12_deed 60 dL_582 zlL_60 rfl (by decide +kernel) (by decide +kernel) (zk_ex (kk := 35) (ts := [0, 0, 0]) _ _ rfl (zkR ⟨35, by decide⟩) rfl rfl rfl)) rfl (fun _ hx => by
      simp only [List.mem_cons, List.not_mem_nil, or_false] at hx
      rcases hx with rfl | rfl | rfl <;> exact ⟨z_lo _, z_hi _⟩) hB hNR hH8 hG8 er e2 hS8 hcs hl (rest := []) (by decide) (by simp only [List.map_cons, List.map_nil, List.reverse_cons, List.reverse_nil, List.nil_append, List.cons_append, z_ofi]) (fun H9 locs9 hH9 hG9 hS9 => ?_)
  refine lv_pop hx hb dL_585 rfl ?_
  refine lv_goto (tgt := 1550) hx hb dL_586 (by decide) ?_
  exact K H9 locs9 ⟨η, ζ, L, M, Θ, Ξ, h2, g2, hB, hN.keep k2, hNR, hH9, hG9, ⟨ea, er⟩, ⟨R2, fun f => w2 f⟩⟩ hS9
set_option maxHeartbeats 4000000 in
theorem lwc_24 {p : Program} {l : Launch} {e : Env} {s : State} {m : MethodId} {below : List Frame} {meth : Method} {c : Code} {b N : Nat} {xs : Nat → Int32} {Q : State → Prop} {H : Heap} {locs : List Loc} {cells slots : Nat} {ls : Array Slot} {qa qr i : Nat} {D : va_G} {cy : Nat → ClassId} {tb adK adV : Nat → Nat} {fv : Option Nat} (X : lwX l p s m meth c b N xs D cy tb adK adV fv) (hi : i + 6 ≤ N) (hI : lwI lwF s D cy adK qa qr H) (hS : va_S (fun q => s.heap.size ≤ q) s.heap H locs) (hcs : cells ≤ 600000 ∧ slots ≤ 7302250) (hl : lwL ls qa qr i b)
    (K : ∀ (H1 : Heap) (locs1 : List Loc), lwI lwF s D cy adK qa qr H1 → va_S (fun q => s.heap.size ≤ q) s.heap H1 locs1 → W p l e room_1 s m #[Value.ref b] below meth c H1 locs1 (cells) (slots) Q (F0 m 1550 ls [])) : W p l e room_1 s m #[Value.ref b] below meth c H locs cells slots Q (F0 m 1286 ls []) := by
  obtain ⟨hx, hb, -, -, -, -, -, -, -, -⟩ := id X.1
  obtain ⟨η, ζ, L, M, Θ, Ξ, h, g, hB, hN, hNR, hH, hG, ⟨ea, er⟩, ⟨R, RP⟩⟩ := hI
  obtain ⟨bb, bm, bl, -⟩ := cT_b hH hN.2.2.2.1 R
  obtain ⟨gb, g1, g4⟩ := rBd_of hG hNR
  obtain ⟨v, h2, g2, e1, e2, R2, kk⟩ := RR_least (n := 300) (m := 300) (x := (xs (i + 1)).toInt) (k := (xs (i + 2)).toInt) (w := (xs (i + 3)).toInt) (by decide) (by decide) R (RP trivial).p bl bm.2 (rQ_of hG hNR) g4
  have k2 : ∀ k, h2 2 k = h 2 k := fun k => kk 2 k
  have w2 : lwF → cW h2 g2 := fun f => ((RP f).c ((RP f).p.fr (fun a j _ => kk a j))).r (frK_least (h := h) (by decide) R (rQ_of hG hNR) g4 e2)
  refine lv_aload_n hx hb dL_1286 rfl (lv_at hl 2 rfl) ?_
  refine lw_arg X.1 X.2.1 hS hl 1 hi (by decide) (by decide +kernel) dL_1287 dL_1288 dL_1289 dL_1290 dL_1291 ?_
  refine lw_arg X.1 X.2.1 hS hl 2 hi (by decide) (by decide +kernel) dL_1292 dL_1293 dL_1294 dL_1295 dL_1296 ?_
  refine lw_arg X.1 X.2.1 hS hl 3 hi (by decide) (by decide +kernel) dL_1297 dL_1298 dL_1299 dL_1300 dL_1301 ?_
  refine lwCf (As := [(xs (i + 1)).toInt, (xs (i + 2)).toInt, (xs (i + 3)).toInt]) X (m_X11_least l) (ycv_of yw_X11_least 116 dL_1302 zlL_116 rfl (by decide +kernel) (by decide +kernel) (zk_ex (kk := 63) (ts := [0, 0, 0]) _ _ rfl (zkK ⟨63, by decide⟩) rfl rfl rfl)) rfl (fun _ hx => by
      simp only [List.mem_cons, List.not_mem_nil, or_false] at hx
      rcases hx with rfl | rfl | rfl <;> exact ⟨z_lo _, z_hi _⟩) hB hN hH hG ea e1 hS hcs hl (rest := []) (by decide) (by simp only [List.map_cons, List.map_nil, List.reverse_cons, List.reverse_nil, List.nil_append, List.cons_append, z_ofi]) (fun H8 locs8 hH8 hG8 hS8 => ?_)
  refine lv_pop hx hb dL_1305 rfl ?_
  refine lv_aload_n hx hb dL_1306 rfl (lv_at hl 1 rfl) ?_
  refine lw_arg X.1 X.2.1 hS8 hl 1 hi (by decide) (by decide +kernel) dL_1307 dL_1308 dL_1309 dL_1310 dL_1311 ?_
  refine lw_arg X.1 X.2.1 hS8 hl 2 hi (by decide) (by decide +kernel) dL_1312 dL_1313 dL_1314 dL_1315 dL_1316 ?_
  refine lw_arg X.1 X.2.1 hS8 hl 3 hi (by decide) (by decide +kernel) dL_1317 dL_1318 dL_1319 dL_1320 dL_1321 ?_
  refine lwRf (As := [(xs (i + 1)).toInt, (xs (i + 2)).toInt, (xs (i + 3)).toInt]) X (m_X12_least l) (ycv_of yw_X12_least 119 dL_1322 zlL_119 rfl (by decide +kernel) (by decide +kernel) (zk_ex (kk := 35) (ts := [0, 0, 0]) _ _ rfl (zkR ⟨35, by decide⟩) rfl rfl rfl)) rfl (fun _ hx => by
      simp only [List.mem_cons, List.not_mem_nil, or_false] at hx
      rcases hx with rfl | rfl | rfl <;> exact ⟨z_lo _, z_hi _⟩) hB hNR hH8 hG8 er e2 hS8 hcs hl (rest := []) (by decide) (by simp only [List.map_cons, List.map_nil, List.reverse_cons, List.reverse_nil, List.nil_append, List.cons_append, z_ofi]) (fun H9 locs9 hH9 hG9 hS9 => ?_)
  refine lv_pop hx hb dL_1325 rfl ?_
  refine lv_goto (tgt := 1550) hx hb dL_1326 (by decide) ?_
  exact K H9 locs9 ⟨η, ζ, L, M, Θ, Ξ, h2, g2, hB, hN.keep k2, hNR, hH9, hG9, ⟨ea, er⟩, ⟨R2, fun f => w2 f⟩⟩ hS9
set_option maxHeartbeats 4000000 in
theorem lwc_25 {p : Program} {l : Launch} {e : Env} {s : State} {m : MethodId} {below : List Frame} {meth : Method} {c : Code} {b N : Nat} {xs : Nat → Int32} {Q : State → Prop} {H : Heap} {locs : List Loc} {cells slots : Nat} {ls : Array Slot} {qa qr i : Nat} {D : va_G} {cy : Nat → ClassId} {tb adK adV : Nat → Nat} {fv : Option Nat} (X : lwX l p s m meth c b N xs D cy tb adK adV fv) (hi : i + 6 ≤ N) (hI : lwI lwF s D cy adK qa qr H) (hS : va_S (fun q => s.heap.size ≤ q) s.heap H locs) (hcs : cells ≤ 600000 ∧ slots ≤ 7302250) (hl : lwL ls qa qr i b)
    (K : ∀ (H1 : Heap) (locs1 : List Loc), lwI lwF s D cy adK qa qr H1 → va_S (fun q => s.heap.size ≤ q) s.heap H1 locs1 → W p l e room_1 s m #[Value.ref b] below meth c H1 locs1 (cells) (slots) Q (F0 m 1550 ls [])) : W p l e room_1 s m #[Value.ref b] below meth c H locs cells slots Q (F0 m 1329 ls []) := by
  obtain ⟨hx, hb, -, -, -, -, -, -, -, -⟩ := id X.1
  obtain ⟨η, ζ, L, M, Θ, Ξ, h, g, hB, hN, hNR, hH, hG, ⟨ea, er⟩, ⟨R, RP⟩⟩ := hI
  obtain ⟨bb, bm, bl, -⟩ := cT_b hH hN.2.2.2.1 R
  obtain ⟨gb, g1, g4⟩ := rBd_of hG hNR
  obtain ⟨v, h2, g2, e1, e2, ⟨R2, w1⟩, k2⟩ := RR_winds (n := 300) (m := 300) (x := (xs (i + 1)).toInt) (w := (xs (i + 2)).toInt) (by decide) (by decide) R (RP trivial).p bl bm.2 (rQ_of hG hNR) g4
  have w2 : lwF → cW h2 g2 := fun f => ((RP f).c w1).r (frK_winds (h := h) (by decide) R (rQ_of hG hNR) g4 e2)
  refine lv_aload_n hx hb dL_1329 rfl (lv_at hl 2 rfl) ?_
  refine lw_arg X.1 X.2.1 hS hl 1 hi (by decide) (by decide +kernel) dL_1330 dL_1331 dL_1332 dL_1333 dL_1334 ?_
  refine lw_arg X.1 X.2.1 hS hl 2 hi (by decide) (by decide +kernel) dL_1335 dL_1336 dL_1337 dL_1338 dL_1339 ?_
  refine lwCf (As := [(xs (i + 1)).toInt, (xs (i + 2)).toInt]) X (m_X11_winds l) (ycv_of yw_X11_winds 120 dL_1340 zlL_120 rfl (by decide +kernel) (by decide +kernel) (zk_ex (kk := 63) (ts := [0, 0]) _ _ rfl (zkK ⟨63, by decide⟩) rfl rfl rfl)) rfl (fun _ hx => by
      simp only [List.mem_cons, List.not_mem_nil, or_false] at hx
      rcases hx with rfl | rfl <;> exact ⟨z_lo _, z_hi _⟩) hB hN hH hG ea e1 hS hcs hl (rest := []) (by decide) (by simp only [List.map_cons, List.map_nil, List.reverse_cons, List.reverse_nil, List.nil_append, List.cons_append, z_ofi]) (fun H8 locs8 hH8 hG8 hS8 => ?_)
  refine lv_pop hx hb dL_1343 rfl ?_
  refine lv_aload_n hx hb dL_1344 rfl (lv_at hl 1 rfl) ?_
  refine lw_arg X.1 X.2.1 hS8 hl 1 hi (by decide) (by decide +kernel) dL_1345 dL_1346 dL_1347 dL_1348 dL_1349 ?_
  refine lw_arg X.1 X.2.1 hS8 hl 2 hi (by decide) (by decide +kernel) dL_1350 dL_1351 dL_1352 dL_1353 dL_1354 ?_
  refine lwRf (As := [(xs (i + 1)).toInt, (xs (i + 2)).toInt]) X (m_X12_winds l) (ycv_of yw_X12_winds 123 dL_1355 zlL_123 rfl (by decide +kernel) (by decide +kernel) (zk_ex (kk := 35) (ts := [0, 0]) _ _ rfl (zkR ⟨35, by decide⟩) rfl rfl rfl)) rfl (fun _ hx => by
      simp only [List.mem_cons, List.not_mem_nil, or_false] at hx
      rcases hx with rfl | rfl <;> exact ⟨z_lo _, z_hi _⟩) hB hNR hH8 hG8 er e2 hS8 hcs hl (rest := []) (by decide) (by simp only [List.map_cons, List.map_nil, List.reverse_cons, List.reverse_nil, List.nil_append, List.cons_append, z_ofi]) (fun H9 locs9 hH9 hG9 hS9 => ?_)
  refine lv_pop hx hb dL_1358 rfl ?_
  refine lv_goto (tgt := 1550) hx hb dL_1359 (by decide) ?_
  exact K H9 locs9 ⟨η, ζ, L, M, Θ, Ξ, h2, g2, hB, hN.keep k2, hNR, hH9, hG9, ⟨ea, er⟩, ⟨R2, fun f => w2 f⟩⟩ hS9
set_option maxHeartbeats 4000000 in
theorem lwc_26 {p : Program} {l : Launch} {e : Env} {s : State} {m : MethodId} {below : List Frame} {meth : Method} {c : Code} {b N : Nat} {xs : Nat → Int32} {Q : State → Prop} {H : Heap} {locs : List Loc} {cells slots : Nat} {ls : Array Slot} {qa qr i : Nat} {D : va_G} {cy : Nat → ClassId} {tb adK adV : Nat → Nat} {fv : Option Nat} (X : lwX l p s m meth c b N xs D cy tb adK adV fv) (hi : i + 6 ≤ N) (hI : lwI lwF s D cy adK qa qr H) (hS : va_S (fun q => s.heap.size ≤ q) s.heap H locs) (hcs : cells ≤ 600000 ∧ slots ≤ 7302250) (hl : lwL ls qa qr i b)
    (K : ∀ (H1 : Heap) (locs1 : List Loc), lwI lwF s D cy adK qa qr H1 → va_S (fun q => s.heap.size ≤ q) s.heap H1 locs1 → W p l e room_1 s m #[Value.ref b] below meth c H1 locs1 (cells) (slots) Q (F0 m 1550 ls [])) : W p l e room_1 s m #[Value.ref b] below meth c H locs cells slots Q (F0 m 1362 ls []) := by
  obtain ⟨hx, hb, -, -, -, -, -, -, -, -⟩ := id X.1
  obtain ⟨η, ζ, L, M, Θ, Ξ, h, g, hB, hN, hNR, hH, hG, ⟨ea, er⟩, ⟨R, RP⟩⟩ := hI
  obtain ⟨bb, bm, bl, -⟩ := cT_b hH hN.2.2.2.1 R
  obtain ⟨gb, g1, g4⟩ := rBd_of hG hNR
  obtain ⟨v, h2, g2, e1, e2, R2, kk⟩ := RR_meet (n := 300) (m := 300) (x := (xs (i + 1)).toInt) (k := (xs (i + 2)).toInt) (w := (xs (i + 3)).toInt) (by decide) (by decide) R (RP trivial).2 bl bm.2 (rQ_of hG hNR) g4
  have k2 : ∀ k, h2 2 k = h 2 k := fun k => kk 2 k
  have w2 : lwF → cW h2 g2 := fun f => ((RP f).c ((RP f).p.fr (fun a j _ => kk a j))).r (frK_meet (h := h) (by decide) R (RP trivial).2 (rQ_of hG hNR) g4 e2)
  refine lv_aload_n hx hb dL_1362 rfl (lv_at hl 2 rfl) ?_
  refine lw_arg X.1 X.2.1 hS hl 1 hi (by decide) (by decide +kernel) dL_1363 dL_1364 dL_1365 dL_1366 dL_1367 ?_
  refine lw_arg X.1 X.2.1 hS hl 2 hi (by decide) (by decide +kernel) dL_1368 dL_1369 dL_1370 dL_1371 dL_1372 ?_
  refine lw_arg X.1 X.2.1 hS hl 3 hi (by decide) (by decide +kernel) dL_1373 dL_1374 dL_1375 dL_1376 dL_1377 ?_
  refine lwCf (As := [(xs (i + 1)).toInt, (xs (i + 2)).toInt, (xs (i + 3)).toInt]) X (m_X11_meet l) (ycv_of yw_X11_meet 124 dL_1378 zlL_124 rfl (by decide +kernel) (by decide +kernel) (zk_ex (kk := 63) (ts := [0, 0, 0]) _ _ rfl (zkK ⟨63, by decide⟩) rfl rfl rfl)) rfl (fun _ hx => by
      simp only [List.mem_cons, List.not_mem_nil, or_false] at hx
      rcases hx with rfl | rfl | rfl <;> exact ⟨z_lo _, z_hi _⟩) hB hN hH hG ea e1 hS hcs hl (rest := []) (by decide) (by simp only [List.map_cons, List.map_nil, List.reverse_cons, List.reverse_nil, List.nil_append, List.cons_append, z_ofi]) (fun H8 locs8 hH8 hG8 hS8 => ?_)
  refine lv_pop hx hb dL_1381 rfl ?_
  refine lv_aload_n hx hb dL_1382 rfl (lv_at hl 1 rfl) ?_
  refine lw_arg X.1 X.2.1 hS8 hl 1 hi (by decide) (by decide +kernel) dL_1383 dL_1384 dL_1385 dL_1386 dL_1387 ?_
  refine lw_arg X.1 X.2.1 hS8 hl 2 hi (by decide) (by decide +kernel) dL_1388 dL_1389 dL_1390 dL_1391 dL_1392 ?_
  refine lw_arg X.1 X.2.1 hS8 hl 3 hi (by decide) (by decide +kernel) dL_1393 dL_1394 dL_1395 dL_1396 dL_1397 ?_
  refine lwRf (As := [(xs (i + 1)).toInt, (xs (i + 2)).toInt, (xs (i + 3)).toInt]) X (m_X12_meet l) (ycv_of yw_X12_meet 127 dL_1398 zlL_127 rfl (by decide +kernel) (by decide +kernel) (zk_ex (kk := 35) (ts := [0, 0, 0]) _ _ rfl (zkR ⟨35, by decide⟩) rfl rfl rfl)) rfl (fun _ hx => by
      simp only [List.mem_cons, List.not_mem_nil, or_false] at hx
      rcases hx with rfl | rfl | rfl <;> exact ⟨z_lo _, z_hi _⟩) hB hNR hH8 hG8 er e2 hS8 hcs hl (rest := []) (by decide) (by simp only [List.map_cons, List.map_nil, List.reverse_cons, List.reverse_nil, List.nil_append, List.cons_append, z_ofi]) (fun H9 locs9 hH9 hG9 hS9 => ?_)
  refine lv_pop hx hb dL_1401 rfl ?_
  refine lv_goto (tgt := 1550) hx hb dL_1402 (by decide) ?_
  exact K H9 locs9 ⟨η, ζ, L, M, Θ, Ξ, h2, g2, hB, hN.keep k2, hNR, hH9, hG9, ⟨ea, er⟩, ⟨R2, fun f => w2 f⟩⟩ hS9
set_option maxHeartbeats 4000000 in
theorem lwc_28 {p : Program} {l : Launch} {e : Env} {s : State} {m : MethodId} {below : List Frame} {meth : Method} {c : Code} {b N : Nat} {xs : Nat → Int32} {Q : State → Prop} {H : Heap} {locs : List Loc} {cells slots : Nat} {ls : Array Slot} {qa qr i : Nat} {D : va_G} {cy : Nat → ClassId} {tb adK adV : Nat → Nat} {fv : Option Nat} (X : lwX l p s m meth c b N xs D cy tb adK adV fv) (hi : i + 6 ≤ N) (hI : lwI lwF s D cy adK qa qr H) (hS : va_S (fun q => s.heap.size ≤ q) s.heap H locs) (hcs : cells ≤ 600000 ∧ slots ≤ 7302250) (hl : lwL ls qa qr i b)
    (K : ∀ (H1 : Heap) (locs1 : List Loc), lwI lwF s D cy adK qa qr H1 → va_S (fun q => s.heap.size ≤ q) s.heap H1 locs1 → W p l e room_1 s m #[Value.ref b] below meth c H1 locs1 (cells) (slots) Q (F0 m 1550 ls [])) : W p l e room_1 s m #[Value.ref b] below meth c H locs cells slots Q (F0 m 1448 ls []) := by
  obtain ⟨hx, hb, -, -, -, -, -, -, -, -⟩ := id X.1
  obtain ⟨η, ζ, L, M, Θ, Ξ, h, g, hB, hN, hNR, hH, hG, ⟨ea, er⟩, ⟨R, RP⟩⟩ := hI
  obtain ⟨bb, bm, bl, -⟩ := cT_b hH hN.2.2.2.1 R
  obtain ⟨gb, g1, g4⟩ := rBd_of hG hNR
  obtain ⟨v, h2, g2, e1, e2, R2, kk⟩ := RR_tells (n := 300) (m := 900) (x := (xs (i + 1)).toInt) (w := (xs (i + 2)).toInt) (by decide) (by decide) R (RP trivial).p bl bm.2 (rQ_of hG hNR) g4
  have k2 : ∀ k, h2 2 k = h 2 k := fun k => kk 2 k
  have w2 : lwF → cW h2 g2 := fun f => ((RP f).c ((RP f).p.fr (fun a j _ => kk a j))).r (frK_tells (h := h) (by decide) R (rQ_of hG hNR) g4 e2)
  refine lv_aload_n hx hb dL_1448 rfl (lv_at hl 2 rfl) ?_
  refine lw_arg X.1 X.2.1 hS hl 1 hi (by decide) (by decide +kernel) dL_1449 dL_1450 dL_1451 dL_1452 dL_1453 ?_
  refine lw_arg X.1 X.2.1 hS hl 2 hi (by decide) (by decide +kernel) dL_1454 dL_1455 dL_1456 dL_1457 dL_1458 ?_
  refine lwCf (As := [(xs (i + 1)).toInt, (xs (i + 2)).toInt]) X (m_X11_tells l) (ycv_of yw_X11_tells 132 dL_1459 zlL_132 rfl (by decide +kernel) (by decide +kernel) (zk_ex (kk := 63) (ts := [0, 0]) _ _ rfl (zkK ⟨63, by decide⟩) rfl rfl rfl)) rfl (fun _ hx => by
      simp only [List.mem_cons, List.not_mem_nil, or_false] at hx
      rcases hx with rfl | rfl <;> exact ⟨z_lo _, z_hi _⟩) hB hN hH hG ea e1 hS hcs hl (rest := []) (by decide) (by simp only [List.map_cons, List.map_nil, List.reverse_cons, List.reverse_nil, List.nil_append, List.cons_append, z_ofi]) (fun H8 locs8 hH8 hG8 hS8 => ?_)
  refine lv_pop hx hb dL_1462 rfl ?_
  refine lv_aload_n hx hb dL_1463 rfl (lv_at hl 1 rfl) ?_
  refine lw_arg X.1 X.2.1 hS8 hl 1 hi (by decide) (by decide +kernel) dL_1464 dL_1465 dL_1466 dL_1467 dL_1468 ?_
  refine lw_arg X.1 X.2.1 hS8 hl 2 hi (by decide) (by decide +kernel) dL_1469 dL_1470 dL_1471 dL_1472 dL_1473 ?_
  refine lwRf (As := [(xs (i + 1)).toInt, (xs (i + 2)).toInt]) X (m_X12_tells l) (ycv_of yw_X12_tells 135 dL_1474 zlL_135 rfl (by decide +kernel) (by decide +kernel) (zk_ex (kk := 35) (ts := [0, 0]) _ _ rfl (zkR ⟨35, by decide⟩) rfl rfl rfl)) rfl (fun _ hx => by
      simp only [List.mem_cons, List.not_mem_nil, or_false] at hx
      rcases hx with rfl | rfl <;> exact ⟨z_lo _, z_hi _⟩) hB hNR hH8 hG8 er e2 hS8 hcs hl (rest := []) (by decide) (by simp only [List.map_cons, List.map_nil, List.reverse_cons, List.reverse_nil, List.nil_append, List.cons_append, z_ofi]) (fun H9 locs9 hH9 hG9 hS9 => ?_)
  refine lv_pop hx hb dL_1477 rfl ?_
  refine lv_goto (tgt := 1550) hx hb dL_1478 (by decide) ?_
  exact K H9 locs9 ⟨η, ζ, L, M, Θ, Ξ, h2, g2, hB, hN.keep k2, hNR, hH9, hG9, ⟨ea, er⟩, ⟨R2, fun f => w2 f⟩⟩ hS9
set_option maxRecDepth 100000 in
theorem zq_X11_image : lw_tbl[1278]? = some (.code yX11_image cX11_image 2 (some .boolean)) := rfl
theorem zw_X11_image : zMV yX11_image cX11_image 2 (some .boolean) 1 := ⟨⟨zTin 101 (by decide +kernel) rfl, zTin 1278 zq_X11_image rfl, ⟨by decide, by decide⟩, by decide +kernel⟩, zTin 1276 (by decide +kernel) rfl, zTin 1277 (by decide +kernel) rfl⟩
theorem fb_img {η : zRn} {D : va_G} {cy : Nat → ClassId} {L : List Nat} {Θ : Nat → Option Nat} {h : Nat → Nat → Int} {av : List Value} {sz base : Nat} {tb adK adV : Nat → Nat} {fv : Option Nat} : FrameBlind (va_Pc av (fun U => U.heap.size = sz ∧ zH η zkds D vwCl cy L Θ h U.heap ∧ KW D cy U ∧ zS0 base tb adK adV fv U)) := fun _ U g mk q => ⟨q.1, q.2.1, q.2.2.1, q.2.2.2.1.call, q.2.2.2.2.same rfl rfl⟩
theorem fb_ag {η : zRn} {D : va_G} {cy : Nat → ClassId} {L : List Nat} {Θ : Nat → Option Nat} {h : Nat → Nat → Int} {av : List Value} {base : Nat} {tb adK adV : Nat → Nat} {fv : Option Nat} : FrameBlind (va_Pc av (fun U => zH η zkds D vwCl cy L Θ h U.heap ∧ KW D cy U ∧ zS0 base tb adK adV fv U)) := fun _ U g mk q => ⟨q.1, q.2.1, q.2.2.1.call, q.2.2.2.same rfl rfl⟩
set_option maxHeartbeats 4000000 in
set_option maxRecDepth 10000 in
theorem lwc_30 {p : Program} {l : Launch} {e : Env} {s : State} {m : MethodId} {below : List Frame} {meth : Method} {c : Code} {b N : Nat} {xs : Nat → Int32} {Q : State → Prop} {H : Heap} {locs : List Loc} {cells slots : Nat} {ls : Array Slot} {qa qr i : Nat} {D : va_G} {cy : Nat → ClassId} {tb adK adV : Nat → Nat} {fv : Option Nat} (X : lwX l p s m meth c b N xs D cy tb adK adV fv) (hi : i + 6 ≤ N) (hI : lwI lwF s D cy adK qa qr H) (hS : va_S (fun q => s.heap.size ≤ q) s.heap H locs) (hcs : cells + 39 ≤ 600000 ∧ slots + 1090 ≤ 7302250) (hl : lwL ls qa qr i b)
    (K : ∀ (H1 : Heap) (locs1 : List Loc), lwI lwF s D cy adK qa qr H1 → va_S (fun q => s.heap.size ≤ q) s.heap H1 locs1 → W p l e room_1 s m #[Value.ref b] below meth c H1 locs1 (cells + 39) (slots + 1090) Q (F0 m 1550 ls [])) : W p l e room_1 s m #[Value.ref b] below meth c H locs cells slots Q (F0 m 1504 ls []) := by
  obtain ⟨hx, hb, -, -, -, -, -, -, -, -⟩ := id X.1
  obtain ⟨η, ζ, L, M, Θ, Ξ, h, g, hB, hN, hNR, hH, hG, ⟨ea, er⟩, ⟨R, RP⟩⟩ := hI
  obtain ⟨hLn, hMn, hLM, hLb, hMb⟩ := id hB
  obtain ⟨C0, hN3, hKW, hZ⟩ := id X
  have S := lw_S C0
  have hts := S.2.2.2.2
  have htz : ∀ w ∈ zTW, w.before #[Value.ref b] s = true := fun w hw => hts w (List.mem_cons_of_mem _ hw)
  obtain ⟨bb, bm, bl, -⟩ := cT_b hH hN.2.2.2.1 R
  obtain ⟨gb, g1, g4⟩ := rBd_of hG hNR
  obtain ⟨-, p63, -, -⟩ := rP_of hG hNR
  have hIm : ∀ k, k < 3 → h 2 k = -1 ∨ (h 2 k = ((1000 * (k + 1) + 3 : Nat) : Int) ∧ cPb (1000 * (k + 1)) h) := fun k hk => by
    rcases R.2.2.2 k hk with q | ⟨-, q2, q3, -⟩
    · exact Or.inl q.2
    · exact Or.inr ⟨q2, q3⟩
  refine lv_aload_n hx hb dL_1504 rfl (lv_at hl 2 rfl) ?_
  refine lw_arg X.1 X.2.1 hS hl 1 hi (by decide) (by decide +kernel) dL_1505 dL_1506 dL_1507 dL_1508 dL_1509 ?_
  obtain ⟨p0, hp0⟩ := zH_get hH hN.2.2.2.1 zkd_63 (by decide)
  rw [zE_o rfl] at hp0
  rw [← ea] at hl ⊢
  have hfree : ∀ q, (q ∈ L ∨ H.size ≤ q) → s.heap.size ≤ q := fun q hq => hq.elim (hLb q) (fun h9 => Nat.le_trans hS.1 h9)
  refine va_calli (va_runV (C := RX11) (n := 1) (As := [.int (xs (i + 1))]) (rest := []) (bytes := cX11_image) (maxL := 2) (ret := some .boolean) S (c_img l (x := xs (i + 1)) (h := h) (D := D) (cy := cy) (tb := tb) (adK := adK) (adV := adV) (fv := fv) hLn hLb hS.1 hN R.1 hIm) ⟨callB_of _ hts (z_good zTW_good zw_X11_image.1.2.1) rfl rfl rfl (htz _ zw_X11_image.1.1) (htz _ zlL_140) ⟨zw_X11_image.1.2.2.1.1, zw_X11_image.1.2.2.1.2, zw_X11_image.1.2.2.2⟩ ⟨by decide +kernel, by decide +kernel⟩, htz _ zw_X11_image.2.1, htz _ zw_X11_image.2.2⟩ ⟨fb_img, va_recv hKW.1 hH.1 rfl hp0, fun U hU hW => ⟨rfl, by rw [hU], by rw [hU]; exact hH, hKW.warm hW, hZ.go hW (fun q h1 h2 => by rw [hU]; exact hS.2.1 q h1 h2)⟩⟩ rfl rfl hl.1 rfl (lv_room (Nat.le_of_ble_eq_true rfl)) dL_1510 hcs) hS (fun q _ h9 => hfree q h9) hfree (fun v8 u8 t8 H8 locs8 ht8 hvm8 w8 hB8 hz8 hk8 hS8 => ?_)
  subst w8
  have hG8 : zH ζ zkdm D vwCl cy M Ξ g H8 := zH_kept hG (fun q hq => hk8 q (zH_lt hG hq) (fun z => by
    rcases z with z | z
    · exact hLM q z hq
    · have := zH_lt hG hq
      omega))
  rw [ht8] at hB8
  rw [ea] at hl
  refine lv_pop hx hb dL_1513 rfl ?_
  refine lv_aload_n hx hb dL_1514 rfl (lv_at hl 1 rfl) ?_
  refine lw_arg X.1 X.2.1 hS8 hl 1 hi (by decide) (by decide +kernel) dL_1515 dL_1516 dL_1517 dL_1518 dL_1519 ?_
  rcases hB8 with ⟨w0, w1, hH8⟩ | ⟨k, hk, hxk, w1, η2, L2, Θ2, h1, h2, hH8, hLn8, hL8, hN8, ea8, hi8, ht9⟩
  · obtain ⟨e2, R2⟩ := RR_imageN (m := 1000) R bl bm.2 w0
    refine lwRf (η := η) (As := [(xs (i + 1)).toInt]) X (m_X12_image l) (ycv_of yw_X12_image 144 dL_1520 zlL_144 rfl (by decide +kernel) (by decide +kernel) (zk_ex (kk := 35) (ts := [0]) _ _ rfl (zkR ⟨35, by decide⟩) rfl rfl rfl)) rfl (fun _ hx => by
      simp only [List.mem_cons, List.not_mem_nil, or_false] at hx
      rcases hx with rfl <;> exact ⟨z_lo _, z_hi _⟩) hB hNR hH8 hG8 er e2 hS8 hcs hl (rest := []) (by decide) (by simp only [List.map_cons, List.map_nil, List.reverse_cons, List.reverse_nil, List.nil_append, List.cons_append, z_ofi]) (fun H9 locs9 hH9 hG9 hS9 => ?_)
    refine lv_pop hx hb dL_1523 rfl ?_
    refine lv_goto (tgt := 1550) hx hb dL_1524 (by decide) ?_
    exact K H9 locs9 ⟨η, ζ, L, M, Θ, Ξ, h, _, hB, hN, hNR, hH9, hG9, ⟨ea, er⟩, ⟨R2, fun f => (RP f).r (fun a j w1 w2 => zup_ne (by omega))⟩⟩ hS9
  · obtain ⟨RX1, bl1, bm1⟩ := RX_of hk R bl bm.2 hi8
    obtain ⟨g2, e2, R2⟩ := RX_image (m := 1000) (by decide) hk RX1 bl1 bm1 gb p63 ht9
    rw [← hxk] at e2
    have hB8 : lwB s L2 M := by
      refine ⟨hLn8, hMn, fun q hq hqM => ?_, fun q hq => hfree q (hL8 q hq), hMb⟩
      rcases hL8 q hq with z | z
      · exact hLM q z hqM
      · have := zH_lt hG hqM
        omega
    refine lwRf (η := η2) (As := [(xs (i + 1)).toInt]) X (m_X12_image l) (ycv_of yw_X12_image 144 dL_1520 zlL_144 rfl (by decide +kernel) (by decide +kernel) (zk_ex (kk := 35) (ts := [0]) _ _ rfl (zkR ⟨35, by decide⟩) rfl rfl rfl)) rfl (fun _ hx => by
      simp only [List.mem_cons, List.not_mem_nil, or_false] at hx
      rcases hx with rfl <;> exact ⟨z_lo _, z_hi _⟩) hB8 hNR hH8 hG8 er e2 hS8 hcs hl (rest := []) (by decide) (by simp only [List.map_cons, List.map_nil, List.reverse_cons, List.reverse_nil, List.nil_append, List.cons_append, z_ofi]) (fun H9 locs9 hH9 hG9 hS9 => ?_)
    refine lv_pop hx hb dL_1523 rfl ?_
    refine lv_goto (tgt := 1550) hx hb dL_1524 (by decide) ?_
    exact K H9 locs9 ⟨η2, ζ, L2, M, Θ2, Ξ, h2, g2, hB8, hN8, hNR, hH9, hG9, ⟨ea8.trans ea, er⟩, ⟨R2, fun f => ⟨(RP f).1.fr (fun a j w => (ht9.2.2.2.2.2.2.2.2.2 _ _ (by omega)).trans (hi8.1 _ _ (by omega) (by omega))), frH_image (m := 1000) (by decide) R.2.1 gb p63 e2 (RP f).2⟩⟩⟩ hS9
set_option maxHeartbeats 4000000 in
set_option maxRecDepth 10000 in
theorem lwc_31 {p : Program} {l : Launch} {e : Env} {s : State} {m : MethodId} {below : List Frame} {meth : Method} {c : Code} {b N : Nat} {xs : Nat → Int32} {Q : State → Prop} {H : Heap} {locs : List Loc} {cells slots : Nat} {ls : Array Slot} {qa qr i : Nat} {D : va_G} {cy : Nat → ClassId} {tb adK adV : Nat → Nat} {fv : Option Nat} (X : lwX l p s m meth c b N xs D cy tb adK adV fv) (hi : i + 6 ≤ N) (hI : lwI lwF s D cy adK qa qr H) (hS : va_S (fun q => s.heap.size ≤ q) s.heap H locs) (hcs : cells ≤ 600000 ∧ slots ≤ 7302250) (hl : lwL ls qa qr i b)
    (K : ∀ (H1 : Heap) (locs1 : List Loc), lwI lwF s D cy adK qa qr H1 → va_S (fun q => s.heap.size ≤ q) s.heap H1 locs1 → W p l e room_1 s m #[Value.ref b] below meth c H1 locs1 (cells) (slots) Q (F0 m 1550 ls [])) : W p l e room_1 s m #[Value.ref b] below meth c H locs cells slots Q (F0 m 1527 ls []) := by
  obtain ⟨hx, hb, -, -, -, -, -, -, -, -⟩ := id X.1
  obtain ⟨η, ζ, L, M, Θ, Ξ, h, g, hB, hN, hNR, hH, hG, ⟨ea, er⟩, ⟨R, RP⟩⟩ := hI
  obtain ⟨hLn, hMn, hLM, hLb, hMb⟩ := id hB
  obtain ⟨C0, hN3, hKW, hZ⟩ := id X
  have S := lw_S C0
  have hts := S.2.2.2.2
  have htz : ∀ w ∈ zTW, w.before #[Value.ref b] s = true := fun w hw => hts w (List.mem_cons_of_mem _ hw)
  obtain ⟨bb, bm, bl, -⟩ := cT_b hH hN.2.2.2.1 R
  obtain ⟨gb, g1, g4⟩ := rBd_of hG hNR
  obtain ⟨-, p63, -, -⟩ := rP_of hG hNR
  have hIm : ∀ k, k < 3 → h 2 k = -1 ∨ (h 2 k = ((1000 * (k + 1) + 3 : Nat) : Int) ∧ cPb (1000 * (k + 1)) h) := fun k hk => by
    rcases R.2.2.2 k hk with q | ⟨-, q2, q3, -⟩
    · exact Or.inl q.2
    · exact Or.inr ⟨q2, q3⟩
  refine lv_aload_n hx hb dL_1527 rfl (lv_at hl 2 rfl) ?_
  refine lw_arg X.1 X.2.1 hS hl 1 hi (by decide) (by decide +kernel) dL_1528 dL_1529 dL_1530 dL_1531 dL_1532 ?_
  obtain ⟨p0, hp0⟩ := zH_get hH hN.2.2.2.1 zkd_63 (by decide)
  rw [zE_o rfl] at hp0
  rw [← ea] at hl ⊢
  refine va_calli (va_runV (C := RX11) (n := 1) (As := [.int (xs (i + 1))]) (rest := []) (bytes := cX11_again) (maxL := 2) (ret := some .boolean) S (c_again l (x := xs (i + 1)) (h := h) (D := D) (cy := cy) (tb := tb) (adK := adK) (adV := adV) (fv := fv) hLn hLb hN R.1 hIm) ⟨callB_of _ hts (z_good zTW_good zw_X11_again.1.2.1) rfl rfl rfl (htz _ zw_X11_again.1.1) (htz _ zlL_145) ⟨zw_X11_again.1.2.2.1.1, zw_X11_again.1.2.2.1.2, zw_X11_again.1.2.2.2⟩ ⟨by decide +kernel, by decide +kernel⟩, htz _ zw_X11_again.2.1, htz _ zw_X11_again.2.2⟩ ⟨fb_ag, va_recv hKW.1 hH.1 rfl hp0, fun U hU hW => ⟨rfl, by rw [hU]; exact hH, hKW.warm hW, hZ.go hW (fun q h1 h2 => by rw [hU]; exact hS.2.1 q h1 h2)⟩⟩ rfl rfl hl.1 rfl (lv_room (Nat.le_of_ble_eq_true rfl)) dL_1533 hcs) hS (fun q _ h9 => hLb q h9) hLb (fun v8 u8 t8 H8 locs8 ht8 hvm8 w8 hB8 hz8 hk8 hS8 => ?_)
  subst w8
  have hG8 : zH ζ zkdm D vwCl cy M Ξ g H8 := zH_kept hG (fun q hq => hk8 q (zH_lt hG hq) (fun z => hLM q z hq))
  rw [ht8] at hB8
  rw [ea] at hl
  refine lv_pop hx hb dL_1536 rfl ?_
  refine lv_aload_n hx hb dL_1537 rfl (lv_at hl 1 rfl) ?_
  refine lw_arg X.1 X.2.1 hS8 hl 1 hi (by decide) (by decide +kernel) dL_1538 dL_1539 dL_1540 dL_1541 dL_1542 ?_
  rcases hB8 with ⟨w0, w1, hH8⟩ | ⟨k, hk, hxk, w1, h2k, h2, hH8, ht9⟩
  · obtain ⟨e2, R2⟩ := RR_againN (m := 1000) R bl bm.2 p63 w0
    refine lwRf (η := η) (As := [(xs (i + 1)).toInt]) X (m_X12_again l) (ycv_of yw_X12_again 148 dL_1543 zlL_148 rfl (by decide +kernel) (by decide +kernel) (zk_ex (kk := 35) (ts := [0]) _ _ rfl (zkR ⟨35, by decide⟩) rfl rfl rfl)) rfl (fun _ hx => by
      simp only [List.mem_cons, List.not_mem_nil, or_false] at hx
      rcases hx with rfl <;> exact ⟨z_lo _, z_hi _⟩) hB hNR hH8 hG8 er e2 hS8 hcs hl (rest := []) (by decide) (by simp only [List.map_cons, List.map_nil, List.reverse_cons, List.reverse_nil, List.nil_append, List.cons_append, z_ofi]) (fun H9 locs9 hH9 hG9 hS9 => ?_)
    refine lv_pop hx hb dL_1546 rfl ?_
    refine lv_goto (tgt := 1550) hx hb dL_1547 (by decide) ?_
    exact K H9 locs9 ⟨η, ζ, L, M, Θ, Ξ, h, _, hB, hN, hNR, hH9, hG9, ⟨ea, er⟩, ⟨R2, fun f => (RP f).r (fun a j w1 w2 => zup_ne (by omega))⟩⟩ hS9
  · obtain ⟨g2, e2, R2⟩ := RR_again (m := 1000) (by decide) hk R h2k bl bm.2 gb p63 ht9
    rw [← hxk] at e2
    refine lwRf (η := η) (As := [(xs (i + 1)).toInt]) X (m_X12_again l) (ycv_of yw_X12_again 148 dL_1543 zlL_148 rfl (by decide +kernel) (by decide +kernel) (zk_ex (kk := 35) (ts := [0]) _ _ rfl (zkR ⟨35, by decide⟩) rfl rfl rfl)) rfl (fun _ hx => by
      simp only [List.mem_cons, List.not_mem_nil, or_false] at hx
      rcases hx with rfl <;> exact ⟨z_lo _, z_hi _⟩) hB hNR hH8 hG8 er e2 hS8 hcs hl (rest := []) (by decide) (by simp only [List.map_cons, List.map_nil, List.reverse_cons, List.reverse_nil, List.nil_append, List.cons_append, z_ofi]) (fun H9 locs9 hH9 hG9 hS9 => ?_)
    refine lv_pop hx hb dL_1546 rfl ?_
    refine lv_goto (tgt := 1550) hx hb dL_1547 (by decide) ?_
    exact K H9 locs9 ⟨η, ζ, L, M, Θ, Ξ, h2, g2, hB, hN.keep (fun k => ht9.2.2.2.2.2.2.2.2.2 _ _ (by omega)), hNR, hH9, hG9, ⟨ea, er⟩, ⟨R2, fun f => ⟨(RP f).1.fr (fun a j w => ht9.2.2.2.2.2.2.2.2.2 _ _ (by omega)), frH_again (m := 1000) (by decide) R.2.1 gb p63 e2 (RP f).2⟩⟩⟩ hS9
end
section
/-! how it begins: the names of all cells, what they hold -/
def cdCl : List Nat := [1, 3, 4, 5, 6, 7, 20, 21, 22, 23, 24, 25, 26, 27, 30, 31, 32, 33, 34, 35, 36, 37, 8, 40, 41, 42, 50, 51, 52, 9, 60, 61, 62, 63, 64, 70, 71, 72, 73, 74, 2, 80, 90, 91, 92, 93, 94, 95, 96, 97, 100, 101, 102, 110, 111, 112, 113, 114, 120, 121, 130, 131, 132, 133, 134, 135, 136, 137, 138, 139, 140, 141, 150, 160, 161, 162, 163, 164, 165, 166, 167, 170, 171, 172, 173, 180, 181, 182, 183, 184, 185, 186]
def cdC (i : Nat) : Nat := cdCl.getD i 0
def cdRl : List Nat := [35, 0, 1, 2, 3, 4, 5, 6, 7, 8, 9, 10, 11, 12, 13, 14, 15, 20, 19, 16, 17, 18, 21, 22, 23, 24, 25, 27, 28, 26, 29, 30, 31, 32, 33, 34]
def cdR (i : Nat) : Nat := cdRl.getD i 0
theorem cdC_b : ∀ i : Fin 92, cdC i.1 < 1000 := by decide +kernel
theorem cdR_b : ∀ i : Fin 36, cdR i.1 < 1000000 := by decide +kernel
theorem cdC_j : zinj 92 cdC := by
  intro i j hi hj e
  have key : ∀ i j : Fin 92, cdC i.1 = cdC j.1 → i = j := by decide +kernel
  exact congrArg Fin.val (key ⟨i, hi⟩ ⟨j, hj⟩ e)
theorem cdR_j : zinj 36 cdR := by
  intro i j hi hj e
  have key : ∀ i j : Fin 36, cdR i.1 = cdR j.1 → i = j := by decide +kernel
  exact congrArg Fin.val (key ⟨i, hi⟩ ⟨j, hj⟩ e)
def h0C : yH := zhh zkds zTc cdC (fun _ _ => 0)
def g0R : yH := zhh zkdm zTr cdR (fun _ _ => 0)
def Th0 : Nat → Option Nat := zTh zTc cdC zNm0
def Xi0 : Nat → Option Nat := zTh zTr cdR (fun _ => none)
theorem h0_P : cP h0C := by
  have : ∀ p ∈ cPL, h0C p.1 p.2.1 = p.2.2 := by decide +kernel
  exact this
theorem h0_w : cPw h0C := by
  unfold cPw cSp
  decide +kernel
theorem g0_4 : ∀ j : Fin 12, g0R 4 j.1 = 0 := by decide +kernel
theorem h0_cW : cW h0C g0R := ⟨h0_w, fun κ hκ => ⟨fun i _ w => by
  have := g0_4 ⟨3 * κ, by omega⟩
  simp only at this
  rw [this] at w
  omega, fun i _ w => by
  have := g0_4 ⟨3 * κ + 2, by omega⟩
  simp only at this
  rw [this] at w
  omega⟩⟩
theorem g0_P : rP g0R := by
  have : g0R 35 1 = 0 ∧ g0R 35 2 = 1 ∧ g0R 35 3 = 2 ∧ g0R 35 4 = 3 ∧ g0R 35 5 = 4 ∧ g0R 35 6 = 5 ∧ g0R 35 7 = 6 ∧ g0R 35 8 = 7 ∧ g0R 35 18 = 8 ∧ g0R 35 19 = 9 := by decide +kernel
  exact this
theorem R0_0 : (h0C 4 1 = 0 ∧ g0R 1 0 = 0) ∧ (∀ j : Fin 3, h0C 6 j.1 = 0 ∧ g0R 4 j.1 = 0) ∧ (h0C 3 5 = 0 ∧ g0R 2 0 = 0) ∧ (h0C 3 6 = -1 ∧ g0R 3 0 = -1) ∧ (∀ k : Fin 3, g0R 34 k.1 = 0 ∧ h0C 2 k.1 = -1) := by decide +kernel
theorem R0_s : ∀ i : Fin 2, (∀ j : Fin 15, ¬ (j.1 = 5 ∨ j.1 = 7 ∨ j.1 = 8 ∨ j.1 = 9 ∨ j.1 = 11 ∨ j.1 = 12 ∨ j.1 = 13) → h0C (20 + 10 * i.1) j.1 = 0) ∧ (∀ j : Fin 12, h0C (20 + 10 * i.1 + 1) j.1 = 0) ∧ (∀ j : Fin 50, g0R 5 (50 * i.1 + j.1) = 0) := by decide +kernel
theorem R0_d : ∀ i : Fin 2, h0C (40 + 10 * i.1) 0 = 0 ∧ ∀ j : Fin 121, g0R 6 (121 * i.1 + j.1) = 0 := by decide +kernel
theorem R0_q : ∀ i : Fin 2, (h0C (60 + 10 * i.1) 0 = 0 ∧ h0C (60 + 10 * i.1) 3 = 0) ∧ ∀ j : Fin 52, g0R 7 (52 * i.1 + j.1) = 0 := by decide +kernel
theorem R0 (F : Prop) : RR F h0C g0R := by
  obtain ⟨⟨l1, l2⟩, nn, ⟨f1, f2⟩, ⟨p1, p2⟩, im⟩ := R0_0
  have n4 : ∀ j, j < 3 → g0R 4 j = 0 := fun j hj => (nn ⟨j, hj⟩).2
  refine ⟨h0_P, g0_P, ⟨by rw [show h0C (0 + 4) 1 = 0 from l1, l2], fun i hi => by rw [show h0C (0 + 4) 1 = 0 from l1] at hi; omega, fun j hj => ?_, by rw [show h0C (0 + 3) 5 = 0 from f1, f2], by rw [show h0C (0 + 3) 6 = -1 from p1, p2], fun i hi => ?_, fun i hi => ?_, fun i hi => ?_⟩, fun k hk => Or.inl (im ⟨k, hk⟩)⟩
  · rw [show 0 + 6 = 6 from rfl, show 3 * 0 + j = j by omega, n4 j hj]
    exact (nn ⟨j, hj⟩).1
  · obtain ⟨s1, s2, s3⟩ := R0_s ⟨i, hi⟩
    simp only at s1 s2 s3
    refine ⟨fun _ => 0, fun _ => ?_, fun j hj => ?_, fun w => ?_⟩
    · rw [show 0 + 20 + 10 * i = 20 + 10 * i by omega]
      exact ⟨s1 ⟨0, by decide⟩ (by decide), s1 ⟨1, by decide⟩ (by decide), s1 ⟨2, by decide⟩ (by decide), s1 ⟨3, by decide⟩ (by decide), s1 ⟨4, by decide⟩ (by decide), s1 ⟨6, by decide⟩ (by decide), s1 ⟨10, by decide⟩ (by decide), s1 ⟨14, by decide⟩ (by decide), fun j hj => s2 ⟨j, hj⟩, fun k hk => absurd hk (by have hk' : (k : Int) < 0 := hk; omega), fun k hk => absurd hk (by have hk' : (k : Int) < 0 := hk; omega)⟩
    · rw [show 100 * 0 + 50 * i + j = 50 * i + j by omega]
      exact s3 ⟨j, hj⟩
    · rw [n4 _ (by decide)] at w
      omega
  · obtain ⟨s1, s3⟩ := R0_d ⟨i, hi⟩
    simp only at s1 s3
    refine ⟨fun _ => 0, ?_, fun j hj => ?_, fun w => ?_⟩
    · rw [show 0 + 40 + 10 * i = 40 + 10 * i by omega]
      exact ⟨s1, fun k hk => absurd hk (by have hk' : (k : Int) < 0 := hk; omega)⟩
    · rw [show 242 * 0 + 121 * i + j = 121 * i + j by omega]
      exact s3 ⟨j, hj⟩
    · rw [n4 _ (by decide)] at w
      omega
  · obtain ⟨⟨s1, s2⟩, s3⟩ := R0_q ⟨i, hi⟩
    simp only at s1 s2 s3
    refine ⟨fun _ => 0, ?_, fun j hj => ?_, fun w => ?_⟩
    · rw [show 0 + 60 + 10 * i = 60 + 10 * i by omega]
      exact ⟨s1, s2, fun k hk => absurd hk (by have hk' : (k : Int) < 0 := hk; omega), fun k hk => absurd hk (by have hk' : (k : Int) < 0 := hk; omega)⟩
    · rw [show 104 * 0 + 52 * i + j = 52 * i + j by omega]
      exact s3 ⟨j, hj⟩
    · rw [n4 _ (by decide)] at w
      omega
theorem Xi0_ok : nmR Xi0 := by
  have key : ∀ i : Fin 36, (zTr.getD i.1 (0, [])).1 = cdR i.1 := by decide +kernel
  refine ⟨zTh_at (T := zTr) (cd := cdR) (i := 0) cdR_j (by decide), fun a k ha => ?_⟩
  unfold Xi0 at ha
  by_cases hex : ∃ i, i < 36 ∧ cdR i = a
  · obtain ⟨i, hi, rfl⟩ := hex
    rw [zTh_at (T := zTr) (cd := cdR) cdR_j hi] at ha
    rw [← Option.some.inj ha]
    exact (key ⟨i, hi⟩).symm
  · rw [zTh_ne (T := zTr) (cd := cdR) (fun i hi e => hex ⟨i, hi, e⟩)] at ha
    cases ha
end
section
variable {η : zRn}
set_option maxHeartbeats 4000000 in
set_option maxRecDepth 100000 in
/-- the classes that the tables know, and what they say of nest mates and of arrays -/
theorem lw_ctx {args : Array Value} {s : State} (hts : ∀ w ∈ lw_tbl, w.before args s = true) : ∃ (D : va_G) (cy : Nat → ClassId), KW D cy s := by
  obtain ⟨c0, i0, k0⟩ := u_known (C := RX0) (T := TX0) (N := 7) (n := 7) hts (fun w hw => z_lwt (zx_0 w hw)) (hts (.instantiable RX0 7) (by decide +kernel))
  obtain ⟨c1, i1, k1⟩ := u_known (C := RX1) (T := TX1) (N := 3) (n := 3) hts (fun w hw => z_lwt (zx_1 w hw)) (hts (.instantiable RX1 3) (by decide +kernel))
  obtain ⟨c2, i2, k2⟩ := u_known (C := RX2) (T := TX2) (N := 6) (n := 6) hts (fun w hw => z_lwt (zx_2 w hw)) (hts (.instantiable RX2 6) (by decide +kernel))
  obtain ⟨c3, i3, k3⟩ := u_known (C := RX3) (T := TX3) (N := 6) (n := 6) hts (fun w hw => z_lwt (zx_3 w hw)) (hts (.instantiable RX3 6) (by decide +kernel))
  obtain ⟨c4, i4, k4⟩ := u_known (C := RX4) (T := TX4) (N := 10) (n := 10) hts (fun w hw => z_lwt (zx_4 w hw)) (hts (.instantiable RX4 10) (by decide +kernel))
  obtain ⟨c5, i5, k5⟩ := u_known (C := RX5) (T := TX5) (N := 16) (n := 16) hts (fun w hw => z_lwt (zx_5 w hw)) (hts (.instantiable RX5 16) (by decide +kernel))
  obtain ⟨c6, i6, k6⟩ := u_known (C := RX6) (T := TX6) (N := 15) (n := 15) hts (fun w hw => z_lwt (zx_6 w hw)) (hts (.instantiable RX6 15) (by decide +kernel))
  obtain ⟨c7, i7, k7⟩ := u_known (C := RX7) (T := TX7) (N := 8) (n := 8) hts (fun w hw => z_lwt (zx_7 w hw)) (hts (.instantiable RX7 8) (by decide +kernel))
  obtain ⟨c8, i8, k8⟩ := u_known (C := RX8) (T := TX8) (N := 2) (n := 2) hts (fun w hw => z_lwt (zx_8 w hw)) (hts (.instantiable RX8 2) (by decide +kernel))
  obtain ⟨c9, i9, k9⟩ := u_known (C := RX9) (T := TX9) (N := 7) (n := 7) hts (fun w hw => z_lwt (zx_9 w hw)) (hts (.instantiable RX9 7) (by decide +kernel))
  obtain ⟨c10, i10, k10⟩ := u_known (C := RX10) (T := TX10) (N := 4) (n := 4) hts (fun w hw => z_lwt (zx_10 w hw)) (hts (.instantiable RX10 4) (by decide +kernel))
  obtain ⟨c11, i11, k11⟩ := u_known (C := RX11) (T := TX11) (N := 7) (n := 7) hts (fun w hw => z_lwt (zx_11 w hw)) (hts (.instantiable RX11 7) (by decide +kernel))
  obtain ⟨c12, i12, k12⟩ := u_known (C := RX12) (T := TX12) (N := 64) (n := 64) hts (fun w hw => z_lwt (zx_12 w hw)) (hts (.instantiable RX12 64) (by decide +kernel))
  obtain ⟨d0, a0, m0, f0, g0, h0⟩ := Cond.arrayClass_spec (hts (.arrayClass .int) (by decide +kernel))
  obtain ⟨d1, a1, m1, f1, g1, h1⟩ := Cond.arrayClass_spec (hts (.arrayClass .byte) (by decide +kernel))
  obtain ⟨d2, a2, m2, f2, g2, h2⟩ := Cond.arrayClass_spec (hts (.arrayClass .boolean) (by decide +kernel))
  have o3 := va_AO.of (hts (.arrayOver (.object "ShoalClaims$Sea")) (by decide +kernel))
  obtain ⟨m3, d3, a3, p3, q3, f3, g3, h3⟩ := Cond.arrayOver_spec o3
  have o4 := va_AO.of (hts (.arrayOver (.object "ShoalClaims$Day")) (by decide +kernel))
  obtain ⟨m4, d4, a4, p4, q4, f4, g4, h4⟩ := Cond.arrayOver_spec o4
  have o5 := va_AO.of (hts (.arrayOver (.object "ShoalClaims$Dispute")) (by decide +kernel))
  obtain ⟨m5, d5, a5, p5, q5, f5, g5, h5⟩ := Cond.arrayOver_spec o5
  have o6 := va_AO.of (hts (.arrayOver (.object "ShoalClaims$Told")) (by decide +kernel))
  obtain ⟨m6, d6, a6, p6, q6, f6, g6, h6⟩ := Cond.arrayOver_spec o6
  refine ⟨(fun k => match k with | 0 => c0 | 1 => c1 | 2 => c2 | 3 => c3 | 4 => c4 | 5 => c5 | 6 => c6 | 7 => c7 | 8 => c8 | 9 => c9 | 10 => c10 | 11 => c11 | _ => c12, fun k => match k with | 0 => i0 | 1 => i1 | 2 => i2 | 3 => i3 | 4 => i4 | 5 => i5 | 6 => i6 | 7 => i7 | 8 => i8 | 9 => i9 | 10 => i10 | 11 => i11 | _ => i12), fun k => match k with | 0 => d0 | 1 => d1 | 2 => d2 | 3 => d3 | 4 => d4 | 5 => d5 | _ => d6, ⟨?_, ?_⟩, ?_⟩
  · intro k q hq
    match k, hq with
    | 0, hq => cases hq; exact k0
    | 1, hq => cases hq; exact k1
    | 2, hq => cases hq; exact k2
    | 3, hq => cases hq; exact k3
    | 4, hq => cases hq; exact k4
    | 5, hq => cases hq; exact k5
    | 6, hq => cases hq; exact k6
    | 7, hq => cases hq; exact k7
    | 8, hq => cases hq; exact k8
    | 9, hq => cases hq; exact k9
    | 10, hq => cases hq; exact k10
    | 11, hq => cases hq; exact k11
    | 12, hq => cases hq; exact k12
    | k + 13, hq => simp [vwCl] at hq
  · intro k q hq
    match k, hq with
    | 0, hq => cases hq; exact ⟨fun n z => ⟨fun k h => (by cases h), a0, g0, m0, h0⟩, f0⟩
    | 1, hq => cases hq; exact ⟨fun n z => ⟨fun k h => (by cases h), a1, g1, m1, h1⟩, f1⟩
    | 2, hq => cases hq; exact ⟨fun n z => ⟨fun k h => (by cases h), a2, g2, m2, h2⟩, f2⟩
    | 3, hq => cases hq; exact ⟨fun n z => ⟨fun k h => (by cases h), a3, f3, m3, g3⟩, a3, m3, f3, g3, p3, h3⟩
    | 4, hq => cases hq; exact ⟨fun n z => ⟨fun k h => (by cases h), a4, f4, m4, g4⟩, a4, m4, f4, g4, p4, h4⟩
    | 5, hq => cases hq; exact ⟨fun n z => ⟨fun k h => (by cases h), a5, f5, m5, g5⟩, a5, m5, f5, g5, p5, h5⟩
    | 6, hq => cases hq; exact ⟨fun n z => ⟨fun k h => (by cases h), a6, f6, m6, g6⟩, a6, m6, f6, g6, p6, h6⟩
    | k + 7, hq => simp [tyW] at hq
  · exact ⟨⟨va_Nw.of rfl (hts (nL RX11 9 yX9_init) (by decide +kernel)), va_Nw.of rfl (hts (nL RX11 22 yX4_init) (by decide +kernel)), va_Nw.of rfl (hts (nL RX11 29 yX5_init) (by decide +kernel)), va_Nw.of rfl (hts (nL RX11 36 yX10_init) (by decide +kernel)), va_Nw.of rfl (hts (nL RX11 43 yX0_init) (by decide +kernel)), va_Nw.of rfl (hts (nL RX11 50 yX3_init) (by decide +kernel))⟩, ⟨va_Nw.of rfl (hts (nL RX9 11 yX8_init) (by decide +kernel)), va_Nw.of rfl (hts (nL RX9 24 yX6_init) (by decide +kernel)), va_Nw.of rfl (hts (nL RX9 31 yX1_init) (by decide +kernel)), va_Nw.of rfl (hts (nL RX9 38 yX2_init) (by decide +kernel))⟩, ⟨va_Nw.of rfl (hts (nL RX4 11 yX6_init) (by decide +kernel)), va_Nw.of rfl (hts (nL RX4 20 yX1_init) (by decide +kernel)), va_Nw.of rfl (hts (nL RX4 27 yX2_init) (by decide +kernel))⟩, va_Nw.of rfl (hts (nL RX5 11 yX7_init) (by decide +kernel)), va_Nw.of rfl (hts (nL RX10 11 yX6_init) (by decide +kernel)), o3, o4, o5, o6⟩
theorem z_sub6 {N : Nat} (hN : N ≤ 3072) : (Int32.ofNat N - 6).toInt = (N : Int) - 6 := by
  have h1 : (Int32.ofNat N).toInt = (N : Int) := nI_toInt (n := N) (by omega)
  have h2 : (6 : Int32).toInt = 6 := rfl
  rw [Int32.toInt_sub, h1, h2]
  exact Int.bmod_eq_of_le (by omega) (by omega)
set_option maxHeartbeats 4000000 in
set_option maxRecDepth 10000 in
theorem lw_loop {p : Program} {l : Launch} {e : Env} {s : State} {m : MethodId} {below : List Frame} {meth : Method} {c : Code} {b N : Nat} {xs : Nat → Int32} {qa qr : Nat} {D : va_G} {cy : Nat → ClassId} {tb adK adV : Nat → Nat} {fv : Option Nat} (X : lwX l p s m meth c b N xs D cy tb adK adV fv) :
    ∀ (d t : Nat) (H : Heap) (locs : List Loc) (ls : Array Slot), N - 6 * t ≤ d → 6 * t ≤ N → lwI lwF s D cy adK qa qr H → va_S (fun q => s.heap.size ≤ q) s.heap H locs → lwL ls qa qr (6 * t) b → W p l e room_1 s m #[Value.ref b] below meth c H locs (128 + 39 * t) (11575 + 1090 * t) (lw_Z below #[Value.ref b] s) (F0 m 18 ls []) := by
  obtain ⟨hx, hb, hr, hml, hown, hts0, hX, hbl, hlocks, hgv⟩ := id X.1
  have hN := X.2.1
  intro d
  induction d with
  | zero =>
    intro t H locs ls hd ht hI hS hl
    refine lv_iload_n hx hb dL_18 rfl (lv_at hl 0 rfl) ?_
    refine lv_aload_n hx hb dL_19 rfl (lv_at hl 3 rfl) ?_
    refine va_slen (A := fun q => s.heap.size ≤ q) hx hb hX hbl (Nat.not_le.mpr hbl) hS dL_20 ?_
    refine lv_bipush (v := 6) hx hb dL_21 (by decide +kernel) ?_
    refine lv_isub hx hb dL_23 ?_
    have e6 : (Int32.ofNat N - 6).toInt = (N : Int) - 6 := z_sub6 hN
    refine lv_icmp_gt (tgt := 1556) hx hb dL_24 (by decide) (fun _ => ?_) (fun q => absurd (Int32.lt_iff_toInt_lt.mpr (by rw [e6, nI_toInt (by omega)]; omega)) q)
    refine lv_iconst (v := 1) hx hb dL_1556 (by decide +kernel) ?_
    refine va_forget (fun q hq => hS.2.2 q hq) ?_
    refine W.widen (k := 600000) (n := 7302250) (by omega) (by omega) ?_
    exact lw_ret hx hb hr hlocks dL_1557
  | succ d ih =>
    intro t H locs ls hd ht hI hS hl
    refine lv_iload_n hx hb dL_18 rfl (lv_at hl 0 rfl) ?_
    refine lv_aload_n hx hb dL_19 rfl (lv_at hl 3 rfl) ?_
    refine va_slen (A := fun q => s.heap.size ≤ q) hx hb hX hbl (Nat.not_le.mpr hbl) hS dL_20 ?_
    refine lv_bipush (v := 6) hx hb dL_21 (by decide +kernel) ?_
    refine lv_isub hx hb dL_23 ?_
    have e6 : (Int32.ofNat N - 6).toInt = (N : Int) - 6 := z_sub6 hN
    refine lv_icmp_gt (tgt := 1556) hx hb dL_24 (by decide) (fun _ => ?_) (fun q => ?_)
    · refine lv_iconst (v := 1) hx hb dL_1556 (by decide +kernel) ?_
      refine va_forget (fun q hq => hS.2.2 q hq) ?_
      refine W.widen (k := 600000) (n := 7302250) (by omega) (by omega) ?_
      exact lw_ret hx hb hr hlocks dL_1557
    · have hiN : 6 * t + 6 ≤ N := by
        have h1 : ¬ (N : Int) - 6 < ((6 * t : Nat) : Int) := fun h9 => q (Int32.lt_iff_toInt_lt.mpr (by rw [e6, nI_toInt (by omega)]; exact h9))
        omega
      have nxt : ∀ (cells slots : Nat), cells ≤ 128 + 39 * (t + 1) → slots ≤ 11575 + 1090 * (t + 1) → ∀ (H1 : Heap) (locs1 : List Loc), lwI lwF s D cy adK qa qr H1 → va_S (fun q => s.heap.size ≤ q) s.heap H1 locs1 → W p l e room_1 s m #[Value.ref b] below meth c H1 locs1 cells slots (lw_Z below #[Value.ref b] s) (F0 m 1550 ls []) := by
        intro cells slots hc1 hc2 H1 locs1 hI1 hS1
        refine lv_iinc (v := nI (6 * t + 6)) (lv' := [(3, .int (nI (6 * t + 6))), (2, .ref qr), (1, .ref qa), (0, .ref b)]) hx hb dL_1550 hl (k := 0) rfl (by rw [show Int32.ofInt 6 = nI 6 from by decide +kernel, nI_add]) (by decide) rfl (fun ls hl => ?_)
        refine lv_goto (tgt := 18) hx hb dL_1553 (by decide) ?_
        refine W.widen (k := 128 + 39 * (t + 1)) (n := 11575 + 1090 * (t + 1)) hc1 hc2 ?_
        exact ih (t + 1) H1 locs1 ls (by omega) (by omega) hI1 hS1 (by rw [show 6 * (t + 1) = 6 * t + 6 by omega]; exact hl)
      refine lv_aload_n hx hb dL_27 rfl (lv_at hl 3 rfl) ?_
      refine lv_iload_n hx hb dL_28 rfl (lv_at hl 0 rfl) ?_
      refine va_sld (A := fun q => s.heap.size ≤ q) hx hb hX hbl (Nat.not_le.mpr hbl) hS (vp_in_nI (by omega) (by omega)) dL_29 ?_
      refine lv_bipush (v := 31) hx hb dL_30 (by decide +kernel) ?_
      refine lv_iand hx hb dL_32 ?_
      obtain ⟨j, hj, ej⟩ := pk_andE (xs (nI (6 * t)).toNatClampNeg) (m := 31) 5 (by decide +kernel)
      refine tp_i (nI j) ej ?_
      clear ej
      match j, hj with
      | 0, _ =>
        refine lv_tableIn (off := 143) (tgt := 176) hx hb dL_33 (by decide +kernel) (by decide +kernel) (by decide +kernel) (by decide) ?_
        exact lwc_0 X hiN hI hS (by omega) hl (fun H1 locs1 hI1 hS1 => nxt _ _ (by omega) (by omega) H1 locs1 hI1 hS1)
      | 1, _ =>
        refine lv_tableIn (off := 206) (tgt := 239) hx hb dL_33 (by decide +kernel) (by decide +kernel) (by decide +kernel) (by decide) ?_
        exact lwc_1 X hiN hI hS (by omega) hl (fun H1 locs1 hI1 hS1 => nxt _ _ (by omega) (by omega) H1 locs1 hI1 hS1)
      | 2, _ =>
        refine lv_tableIn (off := 229) (tgt := 262) hx hb dL_33 (by decide +kernel) (by decide +kernel) (by decide +kernel) (by decide) ?_
        exact lwc_2 X hiN hI hS (by omega) hl (fun H1 locs1 hI1 hS1 => nxt _ _ (by omega) (by omega) H1 locs1 hI1 hS1)
      | 3, _ =>
        refine lv_tableIn (off := 262) (tgt := 295) hx hb dL_33 (by decide +kernel) (by decide +kernel) (by decide +kernel) (by decide) ?_
        exact lwc_3 X hiN hI hS (by omega) hl (fun H1 locs1 hI1 hS1 => nxt _ _ (by omega) (by omega) H1 locs1 hI1 hS1)
      | 4, _ =>
        refine lv_tableIn (off := 285) (tgt := 318) hx hb dL_33 (by decide +kernel) (by decide +kernel) (by decide +kernel) (by decide) ?_
        exact lwc_4 X hiN hI hS (by omega) hl (fun H1 locs1 hI1 hS1 => nxt _ _ (by omega) (by omega) H1 locs1 hI1 hS1)
      | 5, _ =>
        refine lv_tableIn (off := 318) (tgt := 351) hx hb dL_33 (by decide +kernel) (by decide +kernel) (by decide +kernel) (by decide) ?_
        exact lwc_5 X hiN hI hS (by omega) hl (fun H1 locs1 hI1 hS1 => nxt _ _ (by omega) (by omega) H1 locs1 hI1 hS1)
      | 6, _ =>
        refine lv_tableIn (off := 361) (tgt := 394) hx hb dL_33 (by decide +kernel) (by decide +kernel) (by decide +kernel) (by decide) ?_
        exact lwc_6 X hiN hI hS (by omega) hl (fun H1 locs1 hI1 hS1 => nxt _ _ (by omega) (by omega) H1 locs1 hI1 hS1)
      | 7, _ =>
        refine lv_tableIn (off := 404) (tgt := 437) hx hb dL_33 (by decide +kernel) (by decide +kernel) (by decide +kernel) (by decide) ?_
        exact lwc_7 X hiN hI hS (by omega) hl (fun H1 locs1 hI1 hS1 => nxt _ _ (by omega) (by omega) H1 locs1 hI1 hS1)
      | 8, _ =>
        refine lv_tableIn (off := 447) (tgt := 480) hx hb dL_33 (by decide +kernel) (by decide +kernel) (by decide +kernel) (by decide) ?_
        exact lwc_8 X hiN hI hS (by omega) hl (fun H1 locs1 hI1 hS1 => nxt _ _ (by omega) (by omega) H1 locs1 hI1 hS1)
      | 9, _ =>
        refine lv_tableIn (off := 490) (tgt := 523) hx hb dL_33 (by decide +kernel) (by decide +kernel) (by decide +kernel) (by decide) ?_
        exact lwc_9 X hiN hI hS (by omega) hl (fun H1 locs1 hI1 hS1 => nxt _ _ (by omega) (by omega) H1 locs1 hI1 hS1)
      | 10, _ =>
        refine lv_tableIn (off := 513) (tgt := 546) hx hb dL_33 (by decide +kernel) (by decide +kernel) (by decide +kernel) (by decide) ?_
        exact lwc_10 X hiN hI hS (by omega) hl (fun H1 locs1 hI1 hS1 => nxt _ _ (by omega) (by omega) H1 locs1 hI1 hS1)
      | 11, _ =>
        refine lv_tableIn (off := 556) (tgt := 589) hx hb dL_33 (by decide +kernel) (by decide +kernel) (by decide +kernel) (by decide) ?_
        exact lwc_11 X hiN hI hS (by omega) hl (fun H1 locs1 hI1 hS1 => nxt _ _ (by omega) (by omega) H1 locs1 hI1 hS1)
      | 12, _ =>
        refine lv_tableIn (off := 589) (tgt := 622) hx hb dL_33 (by decide +kernel) (by decide +kernel) (by decide +kernel) (by decide) ?_
        exact lwc_12 X hiN hI hS (by omega) hl (fun H1 locs1 hI1 hS1 => nxt _ _ (by omega) (by omega) H1 locs1 hI1 hS1)
      | 13, _ =>
        refine lv_tableIn (off := 652) (tgt := 685) hx hb dL_33 (by decide +kernel) (by decide +kernel) (by decide +kernel) (by decide) ?_
        exact lwc_13 X hiN hI hS (by omega) hl (fun H1 locs1 hI1 hS1 => nxt _ _ (by omega) (by omega) H1 locs1 hI1 hS1)
      | 14, _ =>
        refine lv_tableIn (off := 715) (tgt := 748) hx hb dL_33 (by decide +kernel) (by decide +kernel) (by decide +kernel) (by decide) ?_
        exact lwc_14 X hiN hI hS (by omega) hl (fun H1 locs1 hI1 hS1 => nxt _ _ (by omega) (by omega) H1 locs1 hI1 hS1)
      | 15, _ =>
        refine lv_tableIn (off := 784) (tgt := 817) hx hb dL_33 (by decide +kernel) (by decide +kernel) (by decide +kernel) (by decide) ?_
        exact lwc_15 X hiN hI hS (by omega) hl (fun H1 locs1 hI1 hS1 => nxt _ _ (by omega) (by omega) H1 locs1 hI1 hS1)
      | 16, _ =>
        refine lv_tableIn (off := 837) (tgt := 870) hx hb dL_33 (by decide +kernel) (by decide +kernel) (by decide +kernel) (by decide) ?_
        exact lwc_16 X hiN hI hS (by omega) hl (fun H1 locs1 hI1 hS1 => nxt _ _ (by omega) (by omega) H1 locs1 hI1 hS1)
      | 17, _ =>
        refine lv_tableIn (off := 870) (tgt := 903) hx hb dL_33 (by decide +kernel) (by decide +kernel) (by decide +kernel) (by decide) ?_
        exact lwc_17 X hiN hI hS (by omega) hl (fun H1 locs1 hI1 hS1 => nxt _ _ (by omega) (by omega) H1 locs1 hI1 hS1)
      | 18, _ =>
        refine lv_tableIn (off := 923) (tgt := 956) hx hb dL_33 (by decide +kernel) (by decide +kernel) (by decide +kernel) (by decide) ?_
        exact lwc_18 X hiN hI hS (by omega) hl (fun H1 locs1 hI1 hS1 => nxt _ _ (by omega) (by omega) H1 locs1 hI1 hS1)
      | 19, _ =>
        refine lv_tableIn (off := 982) (tgt := 1015) hx hb dL_33 (by decide +kernel) (by decide +kernel) (by decide +kernel) (by decide) ?_
        exact lwc_19 X hiN hI hS (by omega) hl (fun H1 locs1 hI1 hS1 => nxt _ _ (by omega) (by omega) H1 locs1 hI1 hS1)
      | 20, _ =>
        refine lv_tableIn (off := 1035) (tgt := 1068) hx hb dL_33 (by decide +kernel) (by decide +kernel) (by decide +kernel) (by decide) ?_
        exact lwc_20 X hiN hI hS (by omega) hl (fun H1 locs1 hI1 hS1 => nxt _ _ (by omega) (by omega) H1 locs1 hI1 hS1)
      | 21, _ =>
        refine lv_tableIn (off := 1068) (tgt := 1101) hx hb dL_33 (by decide +kernel) (by decide +kernel) (by decide +kernel) (by decide) ?_
        exact lwc_21 X hiN hI hS (by omega) hl (fun H1 locs1 hI1 hS1 => nxt _ _ (by omega) (by omega) H1 locs1 hI1 hS1)
      | 22, _ =>
        refine lv_tableIn (off := 1127) (tgt := 1160) hx hb dL_33 (by decide +kernel) (by decide +kernel) (by decide +kernel) (by decide) ?_
        exact lwc_22 X hiN hI hS (by omega) hl (fun H1 locs1 hI1 hS1 => nxt _ _ (by omega) (by omega) H1 locs1 hI1 hS1)
      | 23, _ =>
        refine lv_tableIn (off := 1190) (tgt := 1223) hx hb dL_33 (by decide +kernel) (by decide +kernel) (by decide +kernel) (by decide) ?_
        exact lwc_23 X hiN hI hS (by omega) hl (fun H1 locs1 hI1 hS1 => nxt _ _ (by omega) (by omega) H1 locs1 hI1 hS1)
      | 24, _ =>
        refine lv_tableIn (off := 1253) (tgt := 1286) hx hb dL_33 (by decide +kernel) (by decide +kernel) (by decide +kernel) (by decide) ?_
        exact lwc_24 X hiN hI hS (by omega) hl (fun H1 locs1 hI1 hS1 => nxt _ _ (by omega) (by omega) H1 locs1 hI1 hS1)
      | 25, _ =>
        refine lv_tableIn (off := 1296) (tgt := 1329) hx hb dL_33 (by decide +kernel) (by decide +kernel) (by decide +kernel) (by decide) ?_
        exact lwc_25 X hiN hI hS (by omega) hl (fun H1 locs1 hI1 hS1 => nxt _ _ (by omega) (by omega) H1 locs1 hI1 hS1)
      | 26, _ =>
        refine lv_tableIn (off := 1329) (tgt := 1362) hx hb dL_33 (by decide +kernel) (by decide +kernel) (by decide +kernel) (by decide) ?_
        exact lwc_26 X hiN hI hS (by omega) hl (fun H1 locs1 hI1 hS1 => nxt _ _ (by omega) (by omega) H1 locs1 hI1 hS1)
      | 27, _ =>
        refine lv_tableIn (off := 1372) (tgt := 1405) hx hb dL_33 (by decide +kernel) (by decide +kernel) (by decide +kernel) (by decide) ?_
        exact lwc_27 X hiN hI hS (by omega) hl (fun H1 locs1 hI1 hS1 => nxt _ _ (by omega) (by omega) H1 locs1 hI1 hS1)
      | 28, _ =>
        refine lv_tableIn (off := 1415) (tgt := 1448) hx hb dL_33 (by decide +kernel) (by decide +kernel) (by decide +kernel) (by decide) ?_
        exact lwc_28 X hiN hI hS (by omega) hl (fun H1 locs1 hI1 hS1 => nxt _ _ (by omega) (by omega) H1 locs1 hI1 hS1)
      | 29, _ =>
        refine lv_tableIn (off := 1448) (tgt := 1481) hx hb dL_33 (by decide +kernel) (by decide +kernel) (by decide +kernel) (by decide) ?_
        exact lwc_29 X hiN hI hS (by omega) hl (fun H1 locs1 hI1 hS1 => nxt _ _ (by omega) (by omega) H1 locs1 hI1 hS1)
      | 30, _ =>
        refine lv_tableIn (off := 1471) (tgt := 1504) hx hb dL_33 (by decide +kernel) (by decide +kernel) (by decide +kernel) (by decide) ?_
        exact lwc_30 X hiN hI hS (by omega) hl (fun H1 locs1 hI1 hS1 => nxt _ _ (by omega) (by omega) H1 locs1 hI1 hS1)
      | 31, _ =>
        refine lv_tableIn (off := 1494) (tgt := 1527) hx hb dL_33 (by decide +kernel) (by decide +kernel) (by decide +kernel) (by decide) ?_
        exact lwc_31 X hiN hI hS (by omega) hl (fun H1 locs1 hI1 hS1 => nxt _ _ (by omega) (by omega) H1 locs1 hI1 hS1)
      | j + 32, hj => exact absurd hj (by omega)
theorem z_lnk : (Cond.classLink RL 7 RX11 ∈ zTW ∧ Cond.instantiable RX11 7 ∈ zTW ∧ Cond.initialized RX11 ∈ zTW ∧ Cond.methodLink RL 9 yX11_init ∈ zTW ∧ Cond.instanceMethod yX11_init ∈ zTW) ∧ (Cond.classLink RL 10 RX12 ∈ zTW ∧ Cond.instantiable RX12 64 ∈ zTW ∧ Cond.initialized RX12 ∈ zTW ∧ Cond.methodLink RL 12 yX12_init ∈ zTW ∧ Cond.instanceMethod yX12_init ∈ zTW) := ⟨⟨zTin 122 (by decide +kernel) rfl, zTin 123 (by decide +kernel) rfl, zTin 101 (by decide +kernel) rfl, zTin 124 (by decide +kernel) rfl, zTin 125 (by decide +kernel) rfl⟩, ⟨zTin 1293 (by decide +kernel) rfl, zTin 1294 (by decide +kernel) rfl, zTin 113 (by decide +kernel) rfl, zTin 1295 (by decide +kernel) rfl, zTin 1296 (by decide +kernel) rfl⟩⟩
set_option maxHeartbeats 8000000 in
set_option maxRecDepth 100000 in
/-- THE LAW, from its entry -/
theorem whole_start {p : Program} {e : Env} {s : State} {m : MethodId} {below : List Frame} {meth : Method} {c : Code} (l : Launch) {b L : Nat} {xs : Nat → Int32} (hL : L ≤ 3072) (C0 : lw_At p s m meth c b L xs) : W p l e room_1 s m #[Value.ref b] below meth c s.heap [] 0 0 (lw_Z below #[Value.ref b] s) (entryFrame m ([Value.ref b] : List Value).toArray 4) := by
  obtain ⟨hx, hb, hr, hml, hown, hts0, hX, hbl, hlocks, hgv⟩ := id C0
  have S := lw_S C0
  have hown : s.vm.findClass RL = some m.cls := S.2.2.2.1
  have hts := S.2.2.2.2
  have htz : ∀ w ∈ zTW, w.before #[Value.ref b] s = true := fun w hw => hts w (List.mem_cons_of_mem _ hw)
  obtain ⟨D, cy, hKW⟩ := lw_ctx hts0
  obtain ⟨tb, adK, adV, fv, hZ⟩ := lw_stat hgv hts0
  have hK := hKW.1
  obtain ⟨A, hAe⟩ : ∃ A : Nat → Prop, A = fun q : Nat => s.heap.size ≤ q := ⟨_, rfl⟩
  have hA : ∀ q : Nat, s.heap.size ≤ q → A q := fun _ h => by rw [hAe]; exact h
  have hS : va_S A s.heap s.heap [] := va_S.rf
  have hP0 : va_P D vwCl [] s.heap := fun k q h => by simp at h
  have hD0 : va_D A [] := ⟨fun i j p q h => by simp at h, fun k q h => by simp at h⟩
  obtain ⟨⟨k1, k2, k3, k4, k5⟩, k6, k7, k8, k9, k10⟩ := z_lnk
  have hl := lv_entry ([.ref b]) (n := 4) (Nat.le_of_ble_eq_true rfl)
  rw [lg_entry_eq]
  generalize (lg_sl ([.ref b]) ++ List.replicate (4 - (lg_sl ([.ref b])).length) Slot.unset).toArray = ls at hl ⊢
  have hl : lv_has ls 4 [(0, .ref b)] := hl
  refine va_new (ci := 11) (fs := [.null, .null, .null, .null, .null, .null, .null]) (C := RX11) (T := TX11) (N := 7) hx hb hts (fun w hw => List.mem_cons_of_mem _ (zx_11 w hw)) tyX11 tyX11_ok hown (htz _ k1) (htz _ k2) (htz _ k3) hK hP0 hD0 hS hA rfl (by decide +kernel) (by decide +kernel) (by decide +kernel) dL_0 (fun q1 H1 hP1 hD1 hS1 => ?_)
  have hP1 : va_P D vwCl [(q1, .inr (11, [.null, .null, .null, .null, .null, .null, .null]))] H1 := hP1
  have hD1 : va_D A [(q1, .inr (11, [.null, .null, .null, .null, .null, .null, .null]))] := hD1
  have hA1 : A q1 := hD1.2 0 _ rfl
  have hFc : ∀ q, va_A [(q1, (.inr (11, [.null, .null, .null, .null, .null, .null, .null]) : va_E))] H1.size q → A q := fun q hq => by
    rcases z_vaA1 hq with h9 | h9
    · rw [h9]; exact hA1
    · exact hA q (Nat.le_trans hS1.1 h9)
  refine W.widen (k := 1) (n := 7) (by decide +kernel) (by decide +kernel) ?_
  refine lv_dup hx hb dL_3 rfl ?_
  refine va_callv (va_runI (As := []) (rest := [.ref q1]) S (c_X11_initF l D cy q1 H1.size) (cwI 0 hts (z_gdin zin_X11_init) rfl rfl rfl (htz _ k3) (htz _ k4) (htz _ k5) rfl (by decide +kernel) ⟨Nat.le_of_ble_eq_true rfl, Nat.le_of_ble_eq_true rfl⟩) ⟨pwB, fun U hU hW => ⟨rfl, PW.of hU hW hKW hP1 hD1⟩⟩ rfl rfl hl.1 rfl (lv_room (Nat.le_of_ble_eq_true rfl)) dL_4 ⟨by decide +kernel, by decide +kernel⟩) hS1 (fun q _ h => hFc q h) hFc (fun u t2 H2 locs2 ht2 hvm2 _ hB2 hz2 hk2 hS2 => ?_)
  obtain ⟨ad, hP2, hD2⟩ := hB2
  rw [ht2] at hP2
  refine W.widen (k := 92) (n := 2412) (by decide +kernel) (by decide +kernel) ?_
  refine W_sz (fun hsz2 => ?_)
  -- the class's cells
  generalize hAD : (fun i => ([q1, (ad 0), (ad 7), (ad 12), (ad 8), (ad 9), (ad 13), (ad 15), (ad 16), (ad 17), (ad 18), (ad 19), (ad 20), (ad 21), (ad 14), (ad 22), (ad 23), (ad 24), (ad 25), (ad 26), (ad 27), (ad 28), (ad 10), (ad 29), (ad 31), (ad 32), (ad 30), (ad 33), (ad 34), (ad 11), (ad 35), (ad 37), (ad 38), (ad 39), (ad 40), (ad 36), (ad 41), (ad 42), (ad 43), (ad 44), (ad 1), (ad 2), (ad 45), (ad 50), (ad 51), (ad 52), (ad 53), (ad 54), (ad 55), (ad 56), (ad 46), (ad 57), (ad 58), (ad 47), (ad 59), (ad 60), (ad 61), (ad 62), (ad 48), (ad 49), (ad 3), (ad 63), (ad 68), (ad 69), (ad 70), (ad 71), (ad 72), (ad 73), (ad 64), (ad 65), (ad 66), (ad 67), (ad 4), (ad 74), (ad 75), (ad 76), (ad 77), (ad 78), (ad 79), (ad 80), (ad 81), (ad 5), (ad 82), (ad 83), (ad 84), (ad 6), (ad 85), (ad 86), (ad 87), (ad 88), (ad 89), (ad 90)] : List Nat).getD i 0) = AD
  have hat := zc_at hP2
  rw [hAD] at hat
  have hj : zinj 92 AD := by rw [← hAD]; exact zAD_inj hD2
  have hAA : ∀ i, i < 92 → A (AD i) := fun i hi => by rw [← hAD]; exact hFc _ (zAD_A hD2 hi)
  have hAl : ∀ i, i < 92 → AD i < H2.size := fun i hi => by rw [← hAD]; exact zAD_lt hP2 hi
  have hA0 : AD 0 = q1 := by rw [← hAD]; rfl
  clear hP2 hD2 hAD
  have hlb : ∀ i, i < 92 → s.heap.size ≤ AD i := fun i hi => by have h9 := hAA i hi; rw [hAe] at h9; exact h9
  obtain ⟨η, hη⟩ : ∃ η : zRn, η = zηx 92 cdC AD (fun a => adK (a - 1000000), fun _ => 0) := ⟨_, rfl⟩
  have n1 : ∀ i, i < 92 → η.1 (cdC i) = AD i := fun i hi => by rw [hη]; exact zηx1 cdC_j hi
  have n2 : ∀ i, i < 92 → η.2 (AD i) = cdC i := fun i hi => by rw [hη]; exact zηx2 hj hi
  have n5 : ∀ i, i < 15 → η.1 (1000000 + i) = adK i := fun i hi => by
    rw [hη, zηx1n (fun j hj h9 => by have := cdC_b ⟨j, hj⟩; simp only at this; omega)]
    show adK (1000000 + i - 1000000) = adK i
    rw [show 1000000 + i - 1000000 = i by omega]
  clear hη
  have hH2 := zH_new (T := zTc) (cd := cdC) (AD := AD) (L := []) (Θ := zNm0) (h := fun _ _ => 0) n1 n2 zH_nil0 zTc_ok zTc_ox cdC_j (fun i hi => by have := cdC_b ⟨i, hi⟩; simp only at this; omega) (fun i hi => by
    have := cdC_b ⟨i, hi⟩
    simp only at this
    unfold zNm0
    rw [if_neg (by omega)]) (fun i hi h9 => by cases h9) hat
  have hnd2 : (([] : List Nat) ++ (List.range zTc.length).map AD).Nodup := z_ndnew List.nodup_nil hj (fun i hi h9 => by cases h9)
  have hN2 : nmC η adK (([] : List Nat) ++ (List.range zTc.length).map AD) Th0 h0C := by
    refine ⟨zNm_app zNm0_ok zTi_ns.2.2.2 cdC_j (fun i hi => by have := cdC_b ⟨i, hi⟩; simp only at this; omega), n5, fun q hq => ?_, zTh_at (T := zTc) (cd := cdC) (i := 0) cdC_j (by decide), fun k hk w a a1 a2 => ?_⟩
    · rw [List.nil_append] at hq
      obtain ⟨i, hi, rfl⟩ := List.mem_map.mp hq
      rw [n2 i (List.mem_range.mp hi)]
      exact ⟨_, zTh_at (T := zTc) (cd := cdC) cdC_j (List.mem_range.mp hi)⟩
    · show zTh zTc cdC zNm0 a = none
      rw [zTh_ne (T := zTc) (cd := cdC) (fun i hi h9 => by have := cdC_b ⟨i, hi⟩; simp only at this; omega)]
      unfold zNm0
      rw [if_neg (by omega)]
  have hLA2 : ∀ q ∈ (([] : List Nat) ++ (List.range zTc.length).map AD), s.heap.size ≤ q ∧ q < H2.size := fun q hq => by
    rw [List.nil_append] at hq
    obtain ⟨i, hi, rfl⟩ := List.mem_map.mp hq
    exact ⟨hlb i (List.mem_range.mp hi), hAl i (List.mem_range.mp hi)⟩
  have hηa : η.1 1 = q1 := (n1 0 (by decide)).trans hA0
  have hH2 : zH η zkds D vwCl cy (([] : List Nat) ++ (List.range zTc.length).map AD) Th0 h0C H2 := hH2
  obtain ⟨h, hh⟩ : ∃ h : yH, h = h0C := ⟨_, rfl⟩
  obtain ⟨Θ, hΘ⟩ : ∃ Θ : Nat → Option Nat, Θ = Th0 := ⟨_, rfl⟩
  rw [← hh, ← hΘ] at hH2 hN2
  generalize ([] : List Nat) ++ (List.range zTc.length).map AD = LL at hH2 hnd2 hLA2 hN2
  clear hat hj hAA hAl hA0 hlb n1 n2 n5
  refine lv_astore_n (lv' := [(1, .ref q1), (0, .ref b)]) hx hb dL_7 rfl hl (by decide) rfl (fun ls hl => ?_)
  -- the reference
  have hLA : ∀ q ∈ LL, A q := fun q hq => by rw [hAe]; exact (hLA2 q hq).1
  have hDL : va_D A ([] ++ va_pl LL (zF η zkds cy Θ h)) := z_D hnd2 hLA
  refine va_new (ci := 12) (fs := [.int 0, .null, .null, .null, .null, .null, .null, .null, .null, .int 0, .int 0, .int 0, .int 0, .int 0, .long 0, .int 0, .int 0, .int 0, .null, .null, .int 0, .int 0, .int 0, .int 0, .int 0, .int 0, .int 0, .int 0, .int 0, .int 0, .null, .null, .null, .int 0, .int 0, .int 0, .null, .null, .null, .null, .null, .null, .null, .null, .null, .null, .null, .null, .null, .int 0, .int 0, .int 0, .null, .null, .null, .int 0, .int 0, .int 0, .null, .null, .null, .null, .null, .null]) (C := RX12) (T := TX12) (N := 64) hx hb hts (fun w hw => List.mem_cons_of_mem _ (zx_12 w hw)) tyX12 tyX12_ok hown (htz _ k6) (htz _ k7) (htz _ k8) hK hH2.1 hDL hS2 hA rfl (by decide +kernel) (by decide +kernel) (by decide +kernel) dL_8 (fun q2 H3 hP3 hD3 hS3 => ?_)
  have hq2 : q2 ∉ LL := va_pl_fresh2 hD3
  have hi3 : (([] ++ va_pl LL (zF η zkds cy Θ h)) ++ [(q2, (.inr (12, [.int 0, .null, .null, .null, .null, .null, .null, .null, .null, .int 0, .int 0, .int 0, .int 0, .int 0, .long 0, .int 0, .int 0, .int 0, .null, .null, .int 0, .int 0, .int 0, .int 0, .int 0, .int 0, .int 0, .int 0, .int 0, .int 0, .null, .null, .null, .int 0, .int 0, .int 0, .null, .null, .null, .null, .null, .null, .null, .null, .null, .null, .null, .null, .null, .int 0, .int 0, .int 0, .null, .null, .null, .int 0, .int 0, .int 0, .null, .null, .null, .null, .null, .null]) : va_E))])[([] ++ va_pl LL (zF η zkds cy Θ h)).length]? = some (q2, .inr (12, [.int 0, .null, .null, .null, .null, .null, .null, .null, .null, .int 0, .int 0, .int 0, .int 0, .int 0, .long 0, .int 0, .int 0, .int 0, .null, .null, .int 0, .int 0, .int 0, .int 0, .int 0, .int 0, .int 0, .int 0, .int 0, .int 0, .null, .null, .null, .int 0, .int 0, .int 0, .null, .null, .null, .null, .null, .null, .null, .null, .null, .null, .null, .null, .null, .int 0, .int 0, .int 0, .null, .null, .null, .int 0, .int 0, .int 0, .null, .null, .null, .null, .null, .null])) := by rw [List.getElem?_append_right (Nat.le_refl _), Nat.sub_self]; rfl
  have hA2 : A q2 := hD3.2 _ _ hi3
  have hH3 : zH η zkds D vwCl cy LL Θ h H3 := ⟨fun k q hk => hP3 k q (by rw [List.getElem?_append_left (List.getElem?_eq_some_iff.mp hk).1]; exact hk), hH2.2⟩
  have hPc : va_P D vwCl [(q2, .inr (12, [.int 0, .null, .null, .null, .null, .null, .null, .null, .null, .int 0, .int 0, .int 0, .int 0, .int 0, .long 0, .int 0, .int 0, .int 0, .null, .null, .int 0, .int 0, .int 0, .int 0, .int 0, .int 0, .int 0, .int 0, .int 0, .int 0, .null, .null, .null, .int 0, .int 0, .int 0, .null, .null, .null, .null, .null, .null, .null, .null, .null, .null, .null, .null, .null, .int 0, .int 0, .int 0, .null, .null, .null, .int 0, .int 0, .int 0, .null, .null, .null, .null, .null, .null]))] H3 := fun k q hk => by
    cases k with
    | zero =>
      have e9 : q = (q2, .inr (12, [.int 0, .null, .null, .null, .null, .null, .null, .null, .null, .int 0, .int 0, .int 0, .int 0, .int 0, .long 0, .int 0, .int 0, .int 0, .null, .null, .int 0, .int 0, .int 0, .int 0, .int 0, .int 0, .int 0, .int 0, .int 0, .int 0, .null, .null, .null, .int 0, .int 0, .int 0, .null, .null, .null, .null, .null, .null, .null, .null, .null, .null, .null, .null, .null, .int 0, .int 0, .int 0, .null, .null, .null, .int 0, .int 0, .int 0, .null, .null, .null, .null, .null, .null])) := (Option.some.inj hk).symm
      rw [e9]
      exact hP3 _ _ hi3
    | succ k => simp at hk
  have hDc : va_D A [(q2, (.inr (12, [.int 0, .null, .null, .null, .null, .null, .null, .null, .null, .int 0, .int 0, .int 0, .int 0, .int 0, .long 0, .int 0, .int 0, .int 0, .null, .null, .int 0, .int 0, .int 0, .int 0, .int 0, .int 0, .int 0, .int 0, .int 0, .int 0, .null, .null, .null, .int 0, .int 0, .int 0, .null, .null, .null, .null, .null, .null, .null, .null, .null, .null, .null, .null, .null, .int 0, .int 0, .int 0, .null, .null, .null, .int 0, .int 0, .int 0, .null, .null, .null, .null, .null, .null]) : va_E))] := by
    refine ⟨fun i j x y hx hy _ => ?_, fun k q hk => ?_⟩
    · have := (List.getElem?_eq_some_iff.mp hx).1
      have := (List.getElem?_eq_some_iff.mp hy).1
      simp only [List.length_cons, List.length_nil] at *
      omega
    · cases k with
      | zero =>
        have e9 : q = (q2, .inr (12, [.int 0, .null, .null, .null, .null, .null, .null, .null, .null, .int 0, .int 0, .int 0, .int 0, .int 0, .long 0, .int 0, .int 0, .int 0, .null, .null, .int 0, .int 0, .int 0, .int 0, .int 0, .int 0, .int 0, .int 0, .int 0, .int 0, .null, .null, .null, .int 0, .int 0, .int 0, .null, .null, .null, .null, .null, .null, .null, .null, .null, .null, .null, .null, .null, .int 0, .int 0, .int 0, .null, .null, .null, .int 0, .int 0, .int 0, .null, .null, .null, .null, .null, .null])) := (Option.some.inj hk).symm
        rw [e9]
        exact hA2
      | succ k => simp at hk
  have hFd : ∀ q, va_A [(q2, (.inr (12, [.int 0, .null, .null, .null, .null, .null, .null, .null, .null, .int 0, .int 0, .int 0, .int 0, .int 0, .long 0, .int 0, .int 0, .int 0, .null, .null, .int 0, .int 0, .int 0, .int 0, .int 0, .int 0, .int 0, .int 0, .int 0, .int 0, .null, .null, .null, .int 0, .int 0, .int 0, .null, .null, .null, .null, .null, .null, .null, .null, .null, .null, .null, .null, .null, .int 0, .int 0, .int 0, .null, .null, .null, .int 0, .int 0, .int 0, .null, .null, .null, .null, .null, .null]) : va_E))] H3.size q → A q := fun q hq => by
    rcases z_vaA1 hq with h9 | h9
    · rw [h9]; exact hA2
    · exact hA q (Nat.le_trans hS3.1 h9)
  refine lv_dup hx hb dL_11 rfl ?_
  refine va_callv (va_runI (As := []) (rest := [.ref q2]) S (c_X12_init l D cy q2 H3.size) (cwI 0 hts (z_gdin zin_X12_init) rfl rfl rfl (htz _ k8) (htz _ k9) (htz _ k10) rfl (by decide +kernel) ⟨Nat.le_of_ble_eq_true rfl, Nat.le_of_ble_eq_true rfl⟩) ⟨pwB, fun U hU hW => ⟨rfl, PW.of hU hW hKW hPc hDc⟩⟩ rfl rfl hl.1 rfl (lv_room (Nat.le_of_ble_eq_true rfl)) dL_12 ⟨by decide +kernel, by decide +kernel⟩) hS3 (fun q _ h => hFd q h) hFd (fun u t4 H4 locs4 ht4 hvm4 _ hB4 hz4 hk4 hS4 => ?_)
  obtain ⟨y_1, y_2, y_3, y_4, y_5, y_6, y_7, y_8, y_9, y_10, y_11, y_12, y_13, y_14, y_15, y_16, y_17, y_18, y_19, y_20, y_21, y_22, y_23, y_24, y_25, y_26, y_27, y_28, y_29, y_30, y_31, y_32, y_33, y_34, y_35, hP4, hD4⟩ := hB4
  rw [ht4] at hP4
  refine W.widen (k := 128) (n := 11575) (by decide +kernel) (by decide +kernel) ?_
  refine W_sz (fun hsz4 => ?_)
  generalize hAD : (fun i => ([q2, y_1, y_2, y_3, y_4, y_5, y_6, y_7, y_8, y_9, y_10, y_11, y_12, y_13, y_14, y_15, y_16, y_17, y_18, y_19, y_20, y_21, y_22, y_23, y_24, y_25, y_26, y_27, y_28, y_29, y_30, y_31, y_32, y_33, y_34, y_35] : List Nat).getD i 0) = AR
  have hat := zr_at hP4
  rw [hAD] at hat
  have hj : zinj 36 AR := by rw [← hAD]; exact zAD_inj hD4
  have hAq : ∀ i, i < 36 → AR i = q2 ∨ H3.size ≤ AR i := fun i hi => by rw [← hAD]; exact z_vaA1 (zAD_A hD4 hi)
  have hAl : ∀ i, i < 36 → AR i < H4.size := fun i hi => by rw [← hAD]; exact zAD_lt hP4 hi
  have hA0 : AR 0 = q2 := by rw [← hAD]; rfl
  clear hP4 hD4 hAD
  have hs2 : s.heap.size ≤ q2 := by rw [hAe] at hA2; exact hA2
  have hlb : ∀ i, i < 36 → s.heap.size ≤ AR i := fun i hi => by
    rcases hAq i hi with h9 | h9
    · omega
    · have := hS3.1
      omega
  have hLM : ∀ i, i < 36 → AR i ∉ LL := fun i hi h9 => by
    rcases hAq i hi with h8 | h8
    · rw [h8] at h9
      exact hq2 h9
    · have := zH_lt hH3 h9
      omega
  have hH4 : zH η zkds D vwCl cy LL Θ h H4 := zH_kept hH3 (fun q hq => hk4 q (zH_lt hH3 hq) (fun h9 => by
    rcases z_vaA1 h9 with h8 | h8
    · rw [h8] at hq
      exact hq2 hq
    · have := zH_lt hH3 hq
      omega))
  obtain ⟨ζ, hζ⟩ : ∃ ζ : zRn, ζ = zηx 36 cdR AR (fun _ => 0, fun _ => 0) := ⟨_, rfl⟩
  have m1 : ∀ i, i < 36 → ζ.1 (cdR i) = AR i := fun i hi => by rw [hζ]; exact zηx1 cdR_j hi
  have m2 : ∀ i, i < 36 → ζ.2 (AR i) = cdR i := fun i hi => by rw [hζ]; exact zηx2 hj hi
  clear hζ
  have hG4 : zH ζ zkdm D vwCl cy (([] : List Nat) ++ (List.range zTr.length).map AR) Xi0 g0R H4 := zH_new (T := zTr) (cd := cdR) (AD := AR) (L := []) (Θ := fun _ => none) (h := fun _ _ => 0) m1 m2 zH_nil zTr_ok zTr_ox cdR_j (fun i hi => cdR_b ⟨i, hi⟩) (fun i hi => rfl) (fun i hi h9 => by cases h9) hat
  have hnd4 : (([] : List Nat) ++ (List.range zTr.length).map AR).Nodup := z_ndnew List.nodup_nil hj (fun i hi h9 => by cases h9)
  have hMM : ∀ q ∈ (([] : List Nat) ++ (List.range zTr.length).map AR), s.heap.size ≤ q ∧ q ∉ LL := fun q hq => by
    rw [List.nil_append] at hq
    obtain ⟨i, hi, rfl⟩ := List.mem_map.mp hq
    exact ⟨hlb i (List.mem_range.mp hi), hLM i (List.mem_range.mp hi)⟩
  have hηr : ζ.1 35 = q2 := (m1 0 (by decide)).trans hA0
  generalize ([] : List Nat) ++ (List.range zTr.length).map AR = MM at hG4 hnd4 hMM
  refine lv_astore_n (lv' := [(2, .ref q2), (1, .ref q1), (0, .ref b)]) hx hb dL_15 rfl hl (by decide) rfl (fun ls hl => ?_)
  refine lv_iconst (v := nI 0) hx hb dL_16 (by decide +kernel) ?_
  refine lv_istore_n (lv' := [(3, .int (nI 0)), (2, .ref q2), (1, .ref q1), (0, .ref b)]) hx hb dL_17 rfl hl (by decide) rfl (fun ls hl => ?_)
  rw [hAe] at hS4
  have hR : RW lwF h g0R := by
    rw [hh]
    exact ⟨R0 lwF, fun _ => h0_cW⟩
  have hI : lwI lwF s D cy adK q1 q2 H4 := ⟨η, ζ, LL, MM, Θ, Xi0, h, g0R, ⟨hnd2, hnd4, fun q h8 h9 => (hMM q h9).2 h8, fun q hq => (hLA2 q hq).1, fun q hq => (hMM q hq).1⟩, hN2, Xi0_ok, hH4, hG4, ⟨hηa, hηr⟩, hR⟩
  have Y : lwX l p s m meth c b L xs D cy tb adK adV fv := ⟨C0, hL, hKW, hZ⟩
  exact lw_loop Y L 0 H4 locs4 ls (by omega) (by omega) hI hS4 hl
end
