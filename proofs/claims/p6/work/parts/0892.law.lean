set_option maxHeartbeats 4000000 in
theorem lwc_0 {p : Program} {l : Launch} {e : Env} {s : State} {m : MethodId} {below : List Frame} {meth : Method} {c : Code} {b N : Nat} {xs : Nat → Int32} {Q : State → Prop} {H : Heap} {locs : List Loc} {cells slots : Nat} {ls : Array Slot} {qa qr i : Nat} {D : va_G} {cy : Nat → ClassId} {tb adK adV : Nat → Nat} {fv : Option Nat} (X : lwX l p s m meth c b N xs D cy tb adK adV fv) (hi : i + 6 ≤ N) (hI : lwI lwF s D cy adK qa qr H) (hS : va_S (fun q => s.heap.size ≤ q) s.heap H locs) (hcs : cells ≤ 600000 ∧ slots ≤ 7302250) (hl : lwL ls qa qr i b)
    (K : ∀ (H1 : Heap) (locs1 : List Loc), lwI lwF s D cy adK qa qr H1 → va_S (fun q => s.heap.size ≤ q) s.heap H1 locs1 → W p l e room_1 s m #[Value.ref b] below meth c H1 locs1 (cells) (slots) Q (F0 m 1550 ls [])) : W p l e room_1 s m #[Value.ref b] below meth c H locs cells slots Q (F0 m 176 ls []) := by
  obtain ⟨hx, hb, -, -, -, -, -, -, -, -⟩ := id X.1
  obtain ⟨η, ζ, L, M, Θ, Ξ, h, g, hB, hN, hNR, hH, hG, ⟨ea, er⟩, ⟨R, RP⟩⟩ := hI
  obtain ⟨bb, bm, bl, -⟩ := cT_b hH hN.2.2.2.1 R
  obtain ⟨gb, g1, g4⟩ := rBd_of hG hNR
  obtain ⟨v, h2, g2, e1, e2, R2⟩ := RR_feed (n := 6) (m := 6) (x1 := (xs (i + 1)).toInt) (x2 := (xs (i + 2)).toInt) (x3 := (xs (i + 3)).toInt) (x4 := (xs (i + 4)).toInt) (x5 := (xs (i + 5)).toInt) ⟨by decide, by decide⟩ R bl bm
  have k2 := fr2_feed (by decide) R.1 bm e1
  have w2 : lwF → cW h2 g2 := fun f => ⟨frW_feed (by decide) R.1 bm e1 (RP f).1, frH_feed (by decide) R.2.1 g1 e2 (RP f).2⟩
  refine lv_aload_n hx hb dL_176 rfl (lv_at hl 2 rfl) ?_
  refine lw_arg X.1 X.2.1 hS hl 1 hi (by decide) (by decide +kernel) dL_177 dL_178 dL_179 dL_180 dL_181 ?_
  refine lw_arg X.1 X.2.1 hS hl 2 hi (by decide) (by decide +kernel) dL_182 dL_183 dL_184 dL_185 dL_186 ?_
  refine lw_arg X.1 X.2.1 hS hl 3 hi (by decide) (by decide +kernel) dL_187 dL_188 dL_189 dL_190 dL_191 ?_
  refine lw_arg X.1 X.2.1 hS hl 4 hi (by decide) (by decide +kernel) dL_192 dL_193 dL_194 dL_195 dL_196 ?_
  refine lw_arg X.1 X.2.1 hS hl 5 hi (by decide) (by decide +kernel) dL_197 dL_198 dL_199 dL_200 dL_201 ?_
  refine lwCf (As := [(xs (i + 1)).toInt, (xs (i + 2)).toInt, (xs (i + 3)).toInt, (xs (i + 4)).toInt, (xs (i + 5)).toInt]) X (m_X11_feed l) (ycv_of yw_X11_feed 13 dL_202 zlL_13 rfl (by decide +kernel) (by decide +kernel) (zk_ex (kk := 63) (ts := [0, 0, 0, 0, 0]) _ _ rfl (zkK ⟨63, by decide⟩) rfl rfl rfl)) rfl (fun _ hx => by
      simp only [List.mem_cons, List.not_mem_nil, or_false] at hx
      rcases hx with rfl | rfl | rfl | rfl | rfl <;> exact ⟨z_lo _, z_hi _⟩) hB hN hH hG ea e1 hS hcs hl (rest := []) (by decide) (by simp only [List.map_cons, List.map_nil, List.reverse_cons, List.reverse_nil, List.nil_append, List.cons_append, z_ofi]) (fun H8 locs8 hH8 hG8 hS8 => ?_)
  refine lv_pop hx hb dL_205 rfl ?_
  refine lv_aload_n hx hb dL_206 rfl (lv_at hl 1 rfl) ?_
  refine lw_arg X.1 X.2.1 hS8 hl 1 hi (by decide) (by decide +kernel) dL_207 dL_208 dL_209 dL_210 dL_211 ?_
  refine lw_arg X.1 X.2.1 hS8 hl 2 hi (by decide) (by decide +kernel) dL_212 dL_213 dL_214 dL_215 dL_216 ?_
  refine lw_arg X.1 X.2.1 hS8 hl 3 hi (by decide) (by decide +kernel) dL_217 dL_218 dL_219 dL_220 dL_221 ?_
  refine lw_arg X.1 X.2.1 hS8 hl 4 hi (by decide) (by decide +kernel) dL_222 dL_223 dL_224 dL_225 dL_226 ?_
  refine lw_arg X.1 X.2.1 hS8 hl 5 hi (by decide) (by decide +kernel) dL_227 dL_228 dL_229 dL_230 dL_231 ?_
  refine lwRf (As := [(xs (i + 1)).toInt, (xs (i + 2)).toInt, (xs (i + 3)).toInt, (xs (i + 4)).toInt, (xs (i + 5)).toInt]) X (m_X12_feed l) (ycv_of yw_X12_feed 17 dL_232 zlL_17 rfl (by decide +kernel) (by decide +kernel) (zk_ex (kk := 35) (ts := [0, 0, 0, 0, 0]) _ _ rfl (zkR ⟨35, by decide⟩) rfl rfl rfl)) rfl (fun _ hx => by
      simp only [List.mem_cons, List.not_mem_nil, or_false] at hx
      rcases hx with rfl | rfl | rfl | rfl | rfl <;> exact ⟨z_lo _, z_hi _⟩) hB hNR hH8 hG8 er e2 hS8 hcs hl (rest := []) (by decide) (by simp only [List.map_cons, List.map_nil, List.reverse_cons, List.reverse_nil, List.nil_append, List.cons_append, z_ofi]) (fun H9 locs9 hH9 hG9 hS9 => ?_)
  refine lv_pop hx hb dL_235 rfl ?_
  refine lv_goto (tgt := 1550) hx hb dL_236 (by decide) ?_
  exact K H9 locs9 ⟨η, ζ, L, M, Θ, Ξ, h2, g2, hB, hN.keep k2, hNR, hH9, hG9, ⟨ea, er⟩, ⟨R2, fun f => w2 f⟩⟩ hS9
set_option maxHeartbeats 4000000 in
theorem lwc_1 {p : Program} {l : Launch} {e : Env} {s : State} {m : MethodId} {below : List Frame} {meth : Method} {c : Code} {b N : Nat} {xs : Nat → Int32} {Q : State → Prop} {H : Heap} {locs : List Loc} {cells slots : Nat} {ls : Array Slot} {qa qr i : Nat} {D : va_G} {cy : Nat → ClassId} {tb adK adV : Nat → Nat} {fv : Option Nat} (X : lwX l p s m meth c b N xs D cy tb adK adV fv) (hi : i + 6 ≤ N) (hI : lwI lwF s D cy adK qa qr H) (hS : va_S (fun q => s.heap.size ≤ q) s.heap H locs) (hcs : cells ≤ 600000 ∧ slots ≤ 7302250) (hl : lwL ls qa qr i b)
    (K : ∀ (H1 : Heap) (locs1 : List Loc), lwI lwF s D cy adK qa qr H1 → va_S (fun q => s.heap.size ≤ q) s.heap H1 locs1 → W p l e room_1 s m #[Value.ref b] below meth c H1 locs1 (cells) (slots) Q (F0 m 1550 ls [])) : W p l e room_1 s m #[Value.ref b] below meth c H locs cells slots Q (F0 m 239 ls []) := by
  obtain ⟨hx, hb, -, -, -, -, -, -, -, -⟩ := id X.1
  obtain ⟨η, ζ, L, M, Θ, Ξ, h, g, hB, hN, hNR, hH, hG, ⟨ea, er⟩, ⟨R, RP⟩⟩ := hI
  obtain ⟨bb, bm, bl, -⟩ := cT_b hH hN.2.2.2.1 R
  obtain ⟨gb, g1, g4⟩ := rBd_of hG hNR
  obtain ⟨v, h2, g2, e1, e2, R2⟩ := RR_end (n := 6) (m := 6) (x := (xs (i + 1)).toInt) R bl bm
  have k2 := fr2_end R.1 bm e1
  have w2 : lwF → cW h2 g2 := fun f => ⟨frW_end R.1 bm e1 (RP f).1, frH_end R.2.1 g1 e2 (RP f).2⟩
  refine lv_aload_n hx hb dL_239 rfl (lv_at hl 2 rfl) ?_
  refine lw_arg X.1 X.2.1 hS hl 1 hi (by decide) (by decide +kernel) dL_240 dL_241 dL_242 dL_243 dL_244 ?_
  refine lwCf (As := [(xs (i + 1)).toInt]) X (m_X11_end l) (ycv_of yw_X11_end 18 dL_245 zlL_18 rfl (by decide +kernel) (by decide +kernel) (zk_ex (kk := 63) (ts := [0]) _ _ rfl (zkK ⟨63, by decide⟩) rfl rfl rfl)) rfl (fun _ hx => by
      simp only [List.mem_cons, List.not_mem_nil, or_false] at hx
      rcases hx with rfl <;> exact ⟨z_lo _, z_hi _⟩) hB hN hH hG ea e1 hS hcs hl (rest := []) (by decide) (by simp only [List.map_cons, List.map_nil, List.reverse_cons, List.reverse_nil, List.nil_append, List.cons_append, z_ofi]) (fun H8 locs8 hH8 hG8 hS8 => ?_)
  refine lv_pop hx hb dL_248 rfl ?_
  refine lv_aload_n hx hb dL_249 rfl (lv_at hl 1 rfl) ?_
  refine lw_arg X.1 X.2.1 hS8 hl 1 hi (by decide) (by decide +kernel) dL_250 dL_251 dL_252 dL_253 dL_254 ?_
  refine lwRf (As := [(xs (i + 1)).toInt]) X (m_X12_end l) (ycv_of yw_X12_end 22 dL_255 zlL_22 rfl (by decide +kernel) (by decide +kernel) (zk_ex (kk := 35) (ts := [0]) _ _ rfl (zkR ⟨35, by decide⟩) rfl rfl rfl)) rfl (fun _ hx => by
      simp only [List.mem_cons, List.not_mem_nil, or_false] at hx
      rcases hx with rfl <;> exact ⟨z_lo _, z_hi _⟩) hB hNR hH8 hG8 er e2 hS8 hcs hl (rest := []) (by decide) (by simp only [List.map_cons, List.map_nil, List.reverse_cons, List.reverse_nil, List.nil_append, List.cons_append, z_ofi]) (fun H9 locs9 hH9 hG9 hS9 => ?_)
  refine lv_pop hx hb dL_258 rfl ?_
  refine lv_goto (tgt := 1550) hx hb dL_259 (by decide) ?_
  exact K H9 locs9 ⟨η, ζ, L, M, Θ, Ξ, h2, g2, hB, hN.keep k2, hNR, hH9, hG9, ⟨ea, er⟩, ⟨R2, fun f => w2 f⟩⟩ hS9
set_option maxHeartbeats 4000000 in
theorem lwc_2 {p : Program} {l : Launch} {e : Env} {s : State} {m : MethodId} {below : List Frame} {meth : Method} {c : Code} {b N : Nat} {xs : Nat → Int32} {Q : State → Prop} {H : Heap} {locs : List Loc} {cells slots : Nat} {ls : Array Slot} {qa qr i : Nat} {D : va_G} {cy : Nat → ClassId} {tb adK adV : Nat → Nat} {fv : Option Nat} (X : lwX l p s m meth c b N xs D cy tb adK adV fv) (hi : i + 6 ≤ N) (hI : lwI lwF s D cy adK qa qr H) (hS : va_S (fun q => s.heap.size ≤ q) s.heap H locs) (hcs : cells ≤ 600000 ∧ slots ≤ 7302250) (hl : lwL ls qa qr i b)
    (K : ∀ (H1 : Heap) (locs1 : List Loc), lwI lwF s D cy adK qa qr H1 → va_S (fun q => s.heap.size ≤ q) s.heap H1 locs1 → W p l e room_1 s m #[Value.ref b] below meth c H1 locs1 (cells) (slots) Q (F0 m 1550 ls [])) : W p l e room_1 s m #[Value.ref b] below meth c H locs cells slots Q (F0 m 262 ls []) := by
  obtain ⟨hx, hb, -, -, -, -, -, -, -, -⟩ := id X.1
  obtain ⟨η, ζ, L, M, Θ, Ξ, h, g, hB, hN, hNR, hH, hG, ⟨ea, er⟩, ⟨R, RP⟩⟩ := hI
  obtain ⟨bb, bm, bl, -⟩ := cT_b hH hN.2.2.2.1 R
  obtain ⟨gb, g1, g4⟩ := rBd_of hG hNR
  obtain ⟨v, h2, g2, e1, e2, R2⟩ := RR_text (n := 2800) (m := 2600) (sort := (xs (i + 1)).toInt) (at_ := (xs (i + 2)).toInt) ⟨by decide, by decide⟩ R bl bm g4
  have k2 := fr2_text (by decide) R.1 bm (fun j hj => by rw [show h 6 j = g 4 j by have := R.2.2.1.2.2.1 j hj; rw [show 0 + 6 = 6 from rfl, show 3 * 0 + j = j by omega] at this; exact this]; exact g4 j (by omega)) e1
  have w2 : lwF → cW h2 g2 := fun f => ⟨frW_text (by decide) R.1 bm (fun j hj => by rw [show h 6 j = g 4 j by have := R.2.2.1.2.2.1 j hj; rw [show 0 + 6 = 6 from rfl, show 3 * 0 + j = j by omega] at this; exact this]; exact g4 j (by omega)) e1 (RP f).1, frH_text (by decide) R.2.1 g1 g4 e2 (RP f).2⟩
  refine lv_aload_n hx hb dL_262 rfl (lv_at hl 2 rfl) ?_
  refine lw_arg X.1 X.2.1 hS hl 1 hi (by decide) (by decide +kernel) dL_263 dL_264 dL_265 dL_266 dL_267 ?_
  refine lw_arg X.1 X.2.1 hS hl 2 hi (by decide) (by decide +kernel) dL_268 dL_269 dL_270 dL_271 dL_272 ?_
  refine lwCf (As := [(xs (i + 1)).toInt, (xs (i + 2)).toInt]) X (m_X11_text l) (ycv_of yw_X11_text 23 dL_273 zlL_23 rfl (by decide +kernel) (by decide +kernel) (zk_ex (kk := 63) (ts := [0, 0]) _ _ rfl (zkK ⟨63, by decide⟩) rfl rfl rfl)) rfl (fun _ hx => by
      simp only [List.mem_cons, List.not_mem_nil, or_false] at hx
      rcases hx with rfl | rfl <;> exact ⟨z_lo _, z_hi _⟩) hB hN hH hG ea e1 hS hcs hl (rest := []) (by decide) (by simp only [List.map_cons, List.map_nil, List.reverse_cons, List.reverse_nil, List.nil_append, List.cons_append, z_ofi]) (fun H8 locs8 hH8 hG8 hS8 => ?_)
  refine lv_pop hx hb dL_276 rfl ?_
  refine lv_aload_n hx hb dL_277 rfl (lv_at hl 1 rfl) ?_
  refine lw_arg X.1 X.2.1 hS8 hl 1 hi (by decide) (by decide +kernel) dL_278 dL_279 dL_280 dL_281 dL_282 ?_
  refine lw_arg X.1 X.2.1 hS8 hl 2 hi (by decide) (by decide +kernel) dL_283 dL_284 dL_285 dL_286 dL_287 ?_
  refine lwRf (As := [(xs (i + 1)).toInt, (xs (i + 2)).toInt]) X (m_X12_text l) (ycv_of yw_X12_text 27 dL_288 zlL_27 rfl (by decide +kernel) (by decide +kernel) (zk_ex (kk := 35) (ts := [0, 0]) _ _ rfl (zkR ⟨35, by decide⟩) rfl rfl rfl)) rfl (fun _ hx => by
      simp only [List.mem_cons, List.not_mem_nil, or_false] at hx
      rcases hx with rfl | rfl <;> exact ⟨z_lo _, z_hi _⟩) hB hNR hH8 hG8 er e2 hS8 hcs hl (rest := []) (by decide) (by simp only [List.map_cons, List.map_nil, List.reverse_cons, List.reverse_nil, List.nil_append, List.cons_append, z_ofi]) (fun H9 locs9 hH9 hG9 hS9 => ?_)
  refine lv_pop hx hb dL_291 rfl ?_
  refine lv_goto (tgt := 1550) hx hb dL_292 (by decide) ?_
  exact K H9 locs9 ⟨η, ζ, L, M, Θ, Ξ, h2, g2, hB, hN.keep k2, hNR, hH9, hG9, ⟨ea, er⟩, ⟨R2, fun f => w2 f⟩⟩ hS9
set_option maxHeartbeats 4000000 in
theorem lwc_29 {p : Program} {l : Launch} {e : Env} {s : State} {m : MethodId} {below : List Frame} {meth : Method} {c : Code} {b N : Nat} {xs : Nat → Int32} {Q : State → Prop} {H : Heap} {locs : List Loc} {cells slots : Nat} {ls : Array Slot} {qa qr i : Nat} {D : va_G} {cy : Nat → ClassId} {tb adK adV : Nat → Nat} {fv : Option Nat} (X : lwX l p s m meth c b N xs D cy tb adK adV fv) (hi : i + 6 ≤ N) (hI : lwI lwF s D cy adK qa qr H) (hS : va_S (fun q => s.heap.size ≤ q) s.heap H locs) (hcs : cells ≤ 600000 ∧ slots ≤ 7302250) (hl : lwL ls qa qr i b)
    (K : ∀ (H1 : Heap) (locs1 : List Loc), lwI lwF s D cy adK qa qr H1 → va_S (fun q => s.heap.size ≤ q) s.heap H1 locs1 → W p l e room_1 s m #[Value.ref b] below meth c H1 locs1 (cells) (slots) Q (F0 m 1550 ls [])) : W p l e room_1 s m #[Value.ref b] below meth c H locs cells slots Q (F0 m 1481 ls []) := by
  obtain ⟨hx, hb, -, -, -, -, -, -, -, -⟩ := id X.1
  obtain ⟨η, ζ, L, M, Θ, Ξ, h, g, hB, hN, hNR, hH, hG, ⟨ea, er⟩, ⟨R, RP⟩⟩ := hI
  obtain ⟨bb, bm, bl, -⟩ := cT_b hH hN.2.2.2.1 R
  obtain ⟨gb, g1, g4⟩ := rBd_of hG hNR
  obtain ⟨v, h2, g2, e1, e2, R2, kk⟩ := RR_count (n := 6) (m := 6) (x := (xs (i + 1)).toInt) R bl bm.2
  have k2 : ∀ k, h2 2 k = h 2 k := fun k => kk 2 k
  have w2 : lwF → cW h2 g2 := fun f => ((RP f).c ((RP f).p.fr (fun a j _ => kk a j))).r (frK_count R.2.1 e2)
  refine lv_aload_n hx hb dL_1481 rfl (lv_at hl 2 rfl) ?_
  refine lw_arg X.1 X.2.1 hS hl 1 hi (by decide) (by decide +kernel) dL_1482 dL_1483 dL_1484 dL_1485 dL_1486 ?_
  refine lwCf (As := [(xs (i + 1)).toInt]) X (m_X11_count l) (ycv_of yw_X11_count 136 dL_1487 zlL_136 rfl (by decide +kernel) (by decide +kernel) (zk_ex (kk := 63) (ts := [0]) _ _ rfl (zkK ⟨63, by decide⟩) rfl rfl rfl)) rfl (fun _ hx => by
      simp only [List.mem_cons, List.not_mem_nil, or_false] at hx
      rcases hx with rfl <;> exact ⟨z_lo _, z_hi _⟩) hB hN hH hG ea e1 hS hcs hl (rest := []) (by decide) (by simp only [List.map_cons, List.map_nil, List.reverse_cons, List.reverse_nil, List.nil_append, List.cons_append, z_ofi]) (fun H8 locs8 hH8 hG8 hS8 => ?_)
  refine lv_pop hx hb dL_1490 rfl ?_
  refine lv_aload_n hx hb dL_1491 rfl (lv_at hl 1 rfl) ?_
  refine lw_arg X.1 X.2.1 hS8 hl 1 hi (by decide) (by decide +kernel) dL_1492 dL_1493 dL_1494 dL_1495 dL_1496 ?_
  refine lwRf (As := [(xs (i + 1)).toInt]) X (m_X12_count l) (ycv_of yw_X12_count 139 dL_1497 zlL_139 rfl (by decide +kernel) (by decide +kernel) (zk_ex (kk := 35) (ts := [0]) _ _ rfl (zkR ⟨35, by decide⟩) rfl rfl rfl)) rfl (fun _ hx => by
      simp only [List.mem_cons, List.not_mem_nil, or_false] at hx
      rcases hx with rfl <;> exact ⟨z_lo _, z_hi _⟩) hB hNR hH8 hG8 er e2 hS8 hcs hl (rest := []) (by decide) (by simp only [List.map_cons, List.map_nil, List.reverse_cons, List.reverse_nil, List.nil_append, List.cons_append, z_ofi]) (fun H9 locs9 hH9 hG9 hS9 => ?_)
  refine lv_pop hx hb dL_1500 rfl ?_
  refine lv_goto (tgt := 1550) hx hb dL_1501 (by decide) ?_
  exact K H9 locs9 ⟨η, ζ, L, M, Θ, Ξ, h2, g2, hB, hN.keep k2, hNR, hH9, hG9, ⟨ea, er⟩, ⟨R2, fun f => w2 f⟩⟩ hS9
set_option maxHeartbeats 4000000 in
theorem lwc_3 {p : Program} {l : Launch} {e : Env} {s : State} {m : MethodId} {below : List Frame} {meth : Method} {c : Code} {b N : Nat} {xs : Nat → Int32} {Q : State → Prop} {H : Heap} {locs : List Loc} {cells slots : Nat} {ls : Array Slot} {qa qr i : Nat} {D : va_G} {cy : Nat → ClassId} {tb adK adV : Nat → Nat} {fv : Option Nat} (X : lwX l p s m meth c b N xs D cy tb adK adV fv) (hi : i + 6 ≤ N) (hI : lwI lwF s D cy adK qa qr H) (hS : va_S (fun q => s.heap.size ≤ q) s.heap H locs) (hcs : cells ≤ 600000 ∧ slots ≤ 7302250) (hl : lwL ls qa qr i b)
    (K : ∀ (H1 : Heap) (locs1 : List Loc), lwI lwF s D cy adK qa qr H1 → va_S (fun q => s.heap.size ≤ q) s.heap H1 locs1 → W p l e room_1 s m #[Value.ref b] below meth c H1 locs1 (cells) (slots) Q (F0 m 1550 ls [])) : W p l e room_1 s m #[Value.ref b] below meth c H locs cells slots Q (F0 m 295 ls []) := by
  obtain ⟨hx, hb, -, -, -, -, -, -, -, -⟩ := id X.1
  obtain ⟨η, ζ, L, M, Θ, Ξ, h, g, hB, hN, hNR, hH, hG, ⟨ea, er⟩, ⟨R, RP⟩⟩ := hI
  obtain ⟨bb, bm, bl, -⟩ := cT_b hH hN.2.2.2.1 R
  obtain ⟨gb, g1, g4⟩ := rBd_of hG hNR
  obtain ⟨v, h2, g2, e1, e2, R2, kk⟩ := RR_fault (n := 6) (m := 6) (x := (xs (i + 1)).toInt) R bl bm.2
  have k2 : ∀ k, h2 2 k = h 2 k := fun k => kk 2 k
  have w2 : lwF → cW h2 g2 := fun f => ((RP f).c ((RP f).p.fr (fun a j _ => kk a j))).r (frK_fault R.2.1 e2)
  refine lv_aload_n hx hb dL_295 rfl (lv_at hl 2 rfl) ?_
  refine lw_arg X.1 X.2.1 hS hl 1 hi (by decide) (by decide +kernel) dL_296 dL_297 dL_298 dL_299 dL_300 ?_
  refine lwCf (As := [(xs (i + 1)).toInt]) X (m_X11_fault l) (ycv_of yw_X11_fault 28 dL_301 zlL_28 rfl (by decide +kernel) (by decide +kernel) (zk_ex (kk := 63) (ts := [0]) _ _ rfl (zkK ⟨63, by decide⟩) rfl rfl rfl)) rfl (fun _ hx => by
      simp only [List.mem_cons, List.not_mem_nil, or_false] at hx
      rcases hx with rfl <;> exact ⟨z_lo _, z_hi _⟩) hB hN hH hG ea e1 hS hcs hl (rest := []) (by decide) (by simp only [List.map_cons, List.map_nil, List.reverse_cons, List.reverse_nil, List.nil_append, List.cons_append, z_ofi]) (fun H8 locs8 hH8 hG8 hS8 => ?_)
  refine lv_pop hx hb dL_304 rfl ?_
  refine lv_aload_n hx hb dL_305 rfl (lv_at hl 1 rfl) ?_
  refine lw_arg X.1 X.2.1 hS8 hl 1 hi (by decide) (by decide +kernel) dL_306 dL_307 dL_308 dL_309 dL_310 ?_
  refine lwRf (As := [(xs (i + 1)).toInt]) X (m_X12_fault l) (ycv_of yw_X12_fault 31 dL_311 zlL_31 rfl (by decide +kernel) (by decide +kernel) (zk_ex (kk := 35) (ts := [0]) _ _ rfl (zkR ⟨35, by decide⟩) rfl rfl rfl)) rfl (fun _ hx => by
      simp only [List.mem_cons, List.not_mem_nil, or_false] at hx
      rcases hx with rfl <;> exact ⟨z_lo _, z_hi _⟩) hB hNR hH8 hG8 er e2 hS8 hcs hl (rest := []) (by decide) (by simp only [List.map_cons, List.map_nil, List.reverse_cons, List.reverse_nil, List.nil_append, List.cons_append, z_ofi]) (fun H9 locs9 hH9 hG9 hS9 => ?_)
  refine lv_pop hx hb dL_314 rfl ?_
  refine lv_goto (tgt := 1550) hx hb dL_315 (by decide) ?_
  exact K H9 locs9 ⟨η, ζ, L, M, Θ, Ξ, h2, g2, hB, hN.keep k2, hNR, hH9, hG9, ⟨ea, er⟩, ⟨R2, fun f => w2 f⟩⟩ hS9
set_option maxHeartbeats 4000000 in
theorem lwc_4 {p : Program} {l : Launch} {e : Env} {s : State} {m : MethodId} {below : List Frame} {meth : Method} {c : Code} {b N : Nat} {xs : Nat → Int32} {Q : State → Prop} {H : Heap} {locs : List Loc} {cells slots : Nat} {ls : Array Slot} {qa qr i : Nat} {D : va_G} {cy : Nat → ClassId} {tb adK adV : Nat → Nat} {fv : Option Nat} (X : lwX l p s m meth c b N xs D cy tb adK adV fv) (hi : i + 6 ≤ N) (hI : lwI lwF s D cy adK qa qr H) (hS : va_S (fun q => s.heap.size ≤ q) s.heap H locs) (hcs : cells ≤ 600000 ∧ slots ≤ 7302250) (hl : lwL ls qa qr i b)
    (K : ∀ (H1 : Heap) (locs1 : List Loc), lwI lwF s D cy adK qa qr H1 → va_S (fun q => s.heap.size ≤ q) s.heap H1 locs1 → W p l e room_1 s m #[Value.ref b] below meth c H1 locs1 (cells) (slots) Q (F0 m 1550 ls [])) : W p l e room_1 s m #[Value.ref b] below meth c H locs cells slots Q (F0 m 318 ls []) := by
  obtain ⟨hx, hb, -, -, -, -, -, -, -, -⟩ := id X.1
  obtain ⟨η, ζ, L, M, Θ, Ξ, h, g, hB, hN, hNR, hH, hG, ⟨ea, er⟩, ⟨R, RP⟩⟩ := hI
  obtain ⟨bb, bm, bl, -⟩ := cT_b hH hN.2.2.2.1 R
  obtain ⟨gb, g1, g4⟩ := rBd_of hG hNR
  obtain ⟨v, h2, g2, e1, e2, R2, kk⟩ := RR_sea (n := 300) (m := 300) (x := (xs (i + 1)).toInt) (w := (xs (i + 2)).toInt) (by decide) R bl bm.2 (rQ_of hG hNR) g4
  have k2 : ∀ k, h2 2 k = h 2 k := fun k => kk 2 k
  have w2 : lwF → cW h2 g2 := fun f => ((RP f).c ((RP f).p.fr (fun a j _ => kk a j))).r (frK_sea (h := h) (by decide) R (rQ_of hG hNR) g4 e2)
  refine lv_aload_n hx hb dL_318 rfl (lv_at hl 2 rfl) ?_
  refine lw_arg X.1 X.2.1 hS hl 1 hi (by decide) (by decide +kernel) dL_319 dL_320 dL_321 dL_322 dL_323 ?_
  refine lw_arg X.1 X.2.1 hS hl 2 hi (by decide) (by decide +kernel) dL_324 dL_325 dL_326 dL_327 dL_328 ?_
  refine lwCf (As := [(xs (i + 1)).toInt, (xs (i + 2)).toInt]) X (m_X11_sea l) (ycv_of yw_X11_sea 32 dL_329 zlL_32 rfl (by decide +kernel) (by decide +kernel) (zk_ex (kk := 63) (ts := [0, 0]) _ _ rfl (zkK ⟨63, by decide⟩) rfl rfl rfl)) rfl (fun _ hx => by
      simp only [List.mem_cons, List.not_mem_nil, or_false] at hx
      rcases hx with rfl | rfl <;> exact ⟨z_lo _, z_hi _⟩) hB hN hH hG ea e1 hS hcs hl (rest := []) (by decide) (by simp only [List.map_cons, List.map_nil, List.reverse_cons, List.reverse_nil, List.nil_append, List.cons_append, z_ofi]) (fun H8 locs8 hH8 hG8 hS8 => ?_)
  refine lv_aload_n hx hb dL_332 rfl (lv_at hl 1 rfl) ?_
  refine lw_arg X.1 X.2.1 hS8 hl 1 hi (by decide) (by decide +kernel) dL_333 dL_334 dL_335 dL_336 dL_337 ?_
  refine lw_arg X.1 X.2.1 hS8 hl 2 hi (by decide) (by decide +kernel) dL_338 dL_339 dL_340 dL_341 dL_342 ?_
  refine lwRf (As := [(xs (i + 1)).toInt, (xs (i + 2)).toInt]) X (m_X12_sea l) (ycv_of yw_X12_sea 35 dL_343 zlL_35 rfl (by decide +kernel) (by decide +kernel) (zk_ex (kk := 35) (ts := [0, 0]) _ _ rfl (zkR ⟨35, by decide⟩) rfl rfl rfl)) rfl (fun _ hx => by
      simp only [List.mem_cons, List.not_mem_nil, or_false] at hx
      rcases hx with rfl | rfl <;> exact ⟨z_lo _, z_hi _⟩) hB hNR hH8 hG8 er e2 hS8 hcs hl (rest := [.int (Int32.ofInt v)]) (by simp [Value.category]) (by simp only [List.map_cons, List.map_nil, List.reverse_cons, List.reverse_nil, List.nil_append, List.cons_append, z_ofi]) (fun H9 locs9 hH9 hG9 hS9 => ?_)
  refine lv_icmp_eq (tgt := 1550) hx hb dL_346 (by decide) (fun _ => ?_) (fun hne => absurd rfl hne)
  exact K H9 locs9 ⟨η, ζ, L, M, Θ, Ξ, h2, g2, hB, hN.keep k2, hNR, hH9, hG9, ⟨ea, er⟩, ⟨R2, fun f => w2 f⟩⟩ hS9
set_option maxHeartbeats 4000000 in
theorem lwc_5 {p : Program} {l : Launch} {e : Env} {s : State} {m : MethodId} {below : List Frame} {meth : Method} {c : Code} {b N : Nat} {xs : Nat → Int32} {Q : State → Prop} {H : Heap} {locs : List Loc} {cells slots : Nat} {ls : Array Slot} {qa qr i : Nat} {D : va_G} {cy : Nat → ClassId} {tb adK adV : Nat → Nat} {fv : Option Nat} (X : lwX l p s m meth c b N xs D cy tb adK adV fv) (hi : i + 6 ≤ N) (hI : lwI lwF s D cy adK qa qr H) (hS : va_S (fun q => s.heap.size ≤ q) s.heap H locs) (hcs : cells ≤ 600000 ∧ slots ≤ 7302250) (hl : lwL ls qa qr i b)
    (K : ∀ (H1 : Heap) (locs1 : List Loc), lwI lwF s D cy adK qa qr H1 → va_S (fun q => s.heap.size ≤ q) s.heap H1 locs1 → W p l e room_1 s m #[Value.ref b] below meth c H1 locs1 (cells) (slots) Q (F0 m 1550 ls [])) : W p l e room_1 s m #[Value.ref b] below meth c H locs cells slots Q (F0 m 351 ls []) := by
  obtain ⟨hx, hb, -, -, -, -, -, -, -, -⟩ := id X.1
  obtain ⟨η, ζ, L, M, Θ, Ξ, h, g, hB, hN, hNR, hH, hG, ⟨ea, er⟩, ⟨R, RP⟩⟩ := hI
  obtain ⟨bb, bm, bl, -⟩ := cT_b hH hN.2.2.2.1 R
  obtain ⟨gb, g1, g4⟩ := rBd_of hG hNR
  obtain ⟨v, h2, g2, e1, e2, R2, kk⟩ := RR_shoal (n := 300) (m := 300) (x := (xs (i + 1)).toInt) (k := (xs (i + 2)).toInt) (w := (xs (i + 3)).toInt) (by decide) R bl bm.2 (rQ_of hG hNR) g4
  have k2 : ∀ k, h2 2 k = h 2 k := fun k => kk 2 k
  have w2 : lwF → cW h2 g2 := fun f => ((RP f).c ((RP f).p.fr (fun a j _ => kk a j))).r (frK_shoal (h := h) (by decide) R (rQ_of hG hNR) g4 e2)
  refine lv_aload_n hx hb dL_351 rfl (lv_at hl 2 rfl) ?_
  refine lw_arg X.1 X.2.1 hS hl 1 hi (by decide) (by decide +kernel) dL_352 dL_353 dL_354 dL_355 dL_356 ?_
  refine lw_arg X.1 X.2.1 hS hl 2 hi (by decide) (by decide +kernel) dL_357 dL_358 dL_359 dL_360 dL_361 ?_
  refine lw_arg X.1 X.2.1 hS hl 3 hi (by decide) (by decide +kernel) dL_362 dL_363 dL_364 dL_365 dL_366 ?_
  refine lwCf (As := [(xs (i + 1)).toInt, (xs (i + 2)).toInt, (xs (i + 3)).toInt]) X (m_X11_shoal l) (ycv_of yw_X11_shoal 36 dL_367 zlL_36 rfl (by decide +kernel) (by decide +kernel) (zk_ex (kk := 63) (ts := [0, 0, 0]) _ _ rfl (zkK ⟨63, by decide⟩) rfl rfl rfl)) rfl (fun _ hx => by
      simp only [List.mem_cons, List.not_mem_nil, or_false] at hx
      rcases hx with rfl | rfl | rfl <;> exact ⟨z_lo _, z_hi _⟩) hB hN hH hG ea e1 hS hcs hl (rest := []) (by decide) (by simp only [List.map_cons, List.map_nil, List.reverse_cons, List.reverse_nil, List.nil_append, List.cons_append, z_ofi]) (fun H8 locs8 hH8 hG8 hS8 => ?_)
  refine lv_pop hx hb dL_370 rfl ?_
  refine lv_aload_n hx hb dL_371 rfl (lv_at hl 1 rfl) ?_
  refine lw_arg X.1 X.2.1 hS8 hl 1 hi (by decide) (by decide +kernel) dL_372 dL_373 dL_374 dL_375 dL_376 ?_
  refine lw_arg X.1 X.2.1 hS8 hl 2 hi (by decide) (by decide +kernel) dL_377 dL_378 dL_379 dL_380 dL_381 ?_
  refine lw_arg X.1 X.2.1 hS8 hl 3 hi (by decide) (by decide +kernel) dL_382 dL_383 dL_384 dL_385 dL_386 ?_
  refine lwRf (As := [(xs (i + 1)).toInt, (xs (i + 2)).toInt, (xs (i + 3)).toInt]) X (m_X12_shoal l) (ycv_of yw_X12_shoal 40 dL_387 zlL_40 rfl (by decide +kernel) (by decide +kernel) (zk_ex (kk := 35) (ts := [0, 0, 0]) _ _ rfl (zkR ⟨35, by decide⟩) rfl rfl rfl)) rfl (fun _ hx => by
      simp only [List.mem_cons, List.not_mem_nil, or_false] at hx
      rcases hx with rfl | rfl | rfl <;> exact ⟨z_lo _, z_hi _⟩) hB hNR hH8 hG8 er e2 hS8 hcs hl (rest := []) (by decide) (by simp only [List.map_cons, List.map_nil, List.reverse_cons, List.reverse_nil, List.nil_append, List.cons_append, z_ofi]) (fun H9 locs9 hH9 hG9 hS9 => ?_)
  refine lv_pop hx hb dL_390 rfl ?_
  refine lv_goto (tgt := 1550) hx hb dL_391 (by decide) ?_
  exact K H9 locs9 ⟨η, ζ, L, M, Θ, Ξ, h2, g2, hB, hN.keep k2, hNR, hH9, hG9, ⟨ea, er⟩, ⟨R2, fun f => w2 f⟩⟩ hS9
set_option maxHeartbeats 4000000 in
theorem lwc_6 {p : Program} {l : Launch} {e : Env} {s : State} {m : MethodId} {below : List Frame} {meth : Method} {c : Code} {b N : Nat} {xs : Nat → Int32} {Q : State → Prop} {H : Heap} {locs : List Loc} {cells slots : Nat} {ls : Array Slot} {qa qr i : Nat} {D : va_G} {cy : Nat → ClassId} {tb adK adV : Nat → Nat} {fv : Option Nat} (X : lwX l p s m meth c b N xs D cy tb adK adV fv) (hi : i + 6 ≤ N) (hI : lwI lwF s D cy adK qa qr H) (hS : va_S (fun q => s.heap.size ≤ q) s.heap H locs) (hcs : cells ≤ 600000 ∧ slots ≤ 7302250) (hl : lwL ls qa qr i b)
    (K : ∀ (H1 : Heap) (locs1 : List Loc), lwI lwF s D cy adK qa qr H1 → va_S (fun q => s.heap.size ≤ q) s.heap H1 locs1 → W p l e room_1 s m #[Value.ref b] below meth c H1 locs1 (cells) (slots) Q (F0 m 1550 ls [])) : W p l e room_1 s m #[Value.ref b] below meth c H locs cells slots Q (F0 m 394 ls []) := by
  obtain ⟨hx, hb, -, -, -, -, -, -, -, -⟩ := id X.1
  obtain ⟨η, ζ, L, M, Θ, Ξ, h, g, hB, hN, hNR, hH, hG, ⟨ea, er⟩, ⟨R, RP⟩⟩ := hI
  obtain ⟨bb, bm, bl, -⟩ := cT_b hH hN.2.2.2.1 R
  obtain ⟨gb, g1, g4⟩ := rBd_of hG hNR
  obtain ⟨v, h2, g2, e1, e2, R2, kk⟩ := RR_boat (n := 300) (m := 300) (x := (xs (i + 1)).toInt) (k := (xs (i + 2)).toInt) (w := (xs (i + 3)).toInt) (by decide) R bl bm.2 (rQ_of hG hNR) g4
  have k2 : ∀ k, h2 2 k = h 2 k := fun k => kk 2 k
  have w2 : lwF → cW h2 g2 := fun f => ((RP f).c ((RP f).p.fr (fun a j _ => kk a j))).r (frK_boat (h := h) (by decide) R (rQ_of hG hNR) g4 e2)
  refine lv_aload_n hx hb dL_394 rfl (lv_at hl 2 rfl) ?_
  refine lw_arg X.1 X.2.1 hS hl 1 hi (by decide) (by decide +kernel) dL_395 dL_396 dL_397 dL_398 dL_399 ?_
  refine lw_arg X.1 X.2.1 hS hl 2 hi (by decide) (by decide +kernel) dL_400 dL_401 dL_402 dL_403 dL_404 ?_
  refine lw_arg X.1 X.2.1 hS hl 3 hi (by decide) (by decide +kernel) dL_405 dL_406 dL_407 dL_408 dL_409 ?_
  refine lwCf (As := [(xs (i + 1)).toInt, (xs (i + 2)).toInt, (xs (i + 3)).toInt]) X (m_X11_boat l) (ycv_of yw_X11_boat 41 dL_410 zlL_41 rfl (by decide +kernel) (by decide +kernel) (zk_ex (kk := 63) (ts := [0, 0, 0]) _ _ rfl (zkK ⟨63, by decide⟩) rfl rfl rfl)) rfl (fun _ hx => by
      simp only [List.mem_cons, List.not_mem_nil, or_false] at hx
      rcases hx with rfl | rfl | rfl <;> exact ⟨z_lo _, z_hi _⟩) hB hN hH hG ea e1 hS hcs hl (rest := []) (by decide) (by simp only [List.map_cons, List.map_nil, List.reverse_cons, List.reverse_nil, List.nil_append, List.cons_append, z_ofi]) (fun H8 locs8 hH8 hG8 hS8 => ?_)
  refine lv_pop hx hb dL_413 rfl ?_
  refine lv_aload_n hx hb dL_414 rfl (lv_at hl 1 rfl) ?_
  refine lw_arg X.1 X.2.1 hS8 hl 1 hi (by decide) (by decide +kernel) dL_415 dL_416 dL_417 dL_418 dL_419 ?_
  refine lw_arg X.1 X.2.1 hS8 hl 2 hi (by decide) (by decide +kernel) dL_420 dL_421 dL_422 dL_423 dL_424 ?_
  refine lw_arg X.1 X.2.1 hS8 hl 3 hi (by decide) (by decide +kernel) dL_425 dL_426 dL_427 dL_428 dL_429 ?_
  refine lwRf (As := [(xs (i + 1)).toInt, (xs (i + 2)).toInt, (xs (i + 3)).toInt]) X (m_X12_boat l) (ycv_of yw_X12_boat 44 dL_430 zlL_44 rfl (by decide +kernel) (by decide +kernel) (zk_ex (kk := 35) (ts := [0, 0, 0]) _ _ rfl (zkR ⟨35, by decide⟩) rfl rfl rfl)) rfl (fun _ hx => by
      simp only [List.mem_cons, List.not_mem_nil, or_false] at hx
      rcases hx with rfl | rfl | rfl <;> exact ⟨z_lo _, z_hi _⟩) hB hNR hH8 hG8 er e2 hS8 hcs hl (rest := []) (by decide) (by simp only [List.map_cons, List.map_nil, List.reverse_cons, List.reverse_nil, List.nil_append, List.cons_append, z_ofi]) (fun H9 locs9 hH9 hG9 hS9 => ?_)
  refine lv_pop hx hb dL_433 rfl ?_
  refine lv_goto (tgt := 1550) hx hb dL_434 (by decide) ?_
  exact K H9 locs9 ⟨η, ζ, L, M, Θ, Ξ, h2, g2, hB, hN.keep k2, hNR, hH9, hG9, ⟨ea, er⟩, ⟨R2, fun f => w2 f⟩⟩ hS9
set_option maxHeartbeats 4000000 in
theorem lwc_7 {p : Program} {l : Launch} {e : Env} {s : State} {m : MethodId} {below : List Frame} {meth : Method} {c : Code} {b N : Nat} {xs : Nat → Int32} {Q : State → Prop} {H : Heap} {locs : List Loc} {cells slots : Nat} {ls : Array Slot} {qa qr i : Nat} {D : va_G} {cy : Nat → ClassId} {tb adK adV : Nat → Nat} {fv : Option Nat} (X : lwX l p s m meth c b N xs D cy tb adK adV fv) (hi : i + 6 ≤ N) (hI : lwI lwF s D cy adK qa qr H) (hS : va_S (fun q => s.heap.size ≤ q) s.heap H locs) (hcs : cells ≤ 600000 ∧ slots ≤ 7302250) (hl : lwL ls qa qr i b)
    (K : ∀ (H1 : Heap) (locs1 : List Loc), lwI lwF s D cy adK qa qr H1 → va_S (fun q => s.heap.size ≤ q) s.heap H1 locs1 → W p l e room_1 s m #[Value.ref b] below meth c H1 locs1 (cells) (slots) Q (F0 m 1550 ls [])) : W p l e room_1 s m #[Value.ref b] below meth c H locs cells slots Q (F0 m 437 ls []) := by
  obtain ⟨hx, hb, -, -, -, -, -, -, -, -⟩ := id X.1
  obtain ⟨η, ζ, L, M, Θ, Ξ, h, g, hB, hN, hNR, hH, hG, ⟨ea, er⟩, ⟨R, RP⟩⟩ := hI
  obtain ⟨bb, bm, bl, -⟩ := cT_b hH hN.2.2.2.1 R
  obtain ⟨gb, g1, g4⟩ := rBd_of hG hNR
  obtain ⟨v, h2, g2, e1, e2, R2, kk⟩ := RR_far (n := 300) (m := 300) (x := (xs (i + 1)).toInt) (k := (xs (i + 2)).toInt) (w := (xs (i + 3)).toInt) (by decide) R bl bm.2 (rQ_of hG hNR) g4
  have k2 : ∀ k, h2 2 k = h 2 k := fun k => kk 2 k
  have w2 : lwF → cW h2 g2 := fun f => ((RP f).c ((RP f).p.fr (fun a j _ => kk a j))).r (frK_far (h := h) (by decide) R (rQ_of hG hNR) g4 e2)
  refine lv_aload_n hx hb dL_437 rfl (lv_at hl 2 rfl) ?_
  refine lw_arg X.1 X.2.1 hS hl 1 hi (by decide) (by decide +kernel) dL_438 dL_439 dL_440 dL_441 dL_442 ?_
  refine lw_arg X.1 X.2.1 hS hl 2 hi (by decide) (by decide +kernel) dL_443 dL_444 dL_445 dL_446 dL_447 ?_
  refine lw_arg X.1 X.2.1 hS hl 3 hi (by decide) (by decide +kernel) dL_448 dL_449 dL_450 dL_451 dL_452 ?_
  refine lwCf (As := [(xs (i + 1)).toInt, (xs (i + 2)).toInt, (xs (i + 3)).toInt]) X (m_X11_far l) (ycv_of yw_X11_far 45 dL_453 zlL_45 rfl (by decide +kernel) (by decide +kernel) (zk_ex (kk := 63) (ts := [0, 0, 0]) _ _ rfl (zkK ⟨63, by decide⟩) rfl rfl rfl)) rfl (fun _ hx => by
      simp only [List.mem_cons, List.not_mem_nil, or_false] at hx
      rcases hx with rfl | rfl | rfl <;> exact ⟨z_lo _, z_hi _⟩) hB hN hH hG ea e1 hS hcs hl (rest := []) (by decide) (by simp only [List.map_cons, List.map_nil, List.reverse_cons, List.reverse_nil, List.nil_append, List.cons_append, z_ofi]) (fun H8 locs8 hH8 hG8 hS8 => ?_)
  refine lv_pop hx hb dL_456 rfl ?_
  refine lv_aload_n hx hb dL_457 rfl (lv_at hl 1 rfl) ?_
  refine lw_arg X.1 X.2.1 hS8 hl 1 hi (by decide) (by decide +kernel) dL_458 dL_459 dL_460 dL_461 dL_462 ?_
  refine lw_arg X.1 X.2.1 hS8 hl 2 hi (by decide) (by decide +kernel) dL_463 dL_464 dL_465 dL_466 dL_467 ?_
  refine lw_arg X.1 X.2.1 hS8 hl 3 hi (by decide) (by decide +kernel) dL_468 dL_469 dL_470 dL_471 dL_472 ?_
  refine lwRf (As := [(xs (i + 1)).toInt, (xs (i + 2)).toInt, (xs (i + 3)).toInt]) X (m_X12_far l) (ycv_of yw_X12_far 48 dL_473 zlL_48 rfl (by decide +kernel) (by decide +kernel) (zk_ex (kk := 35) (ts := [0, 0, 0]) _ _ rfl (zkR ⟨35, by decide⟩) rfl rfl rfl)) rfl (fun _ hx => by
      simp only [List.mem_cons, List.not_mem_nil, or_false] at hx
      rcases hx with rfl | rfl | rfl <;> exact ⟨z_lo _, z_hi _⟩) hB hNR hH8 hG8 er e2 hS8 hcs hl (rest := []) (by decide) (by simp only [List.map_cons, List.map_nil, List.reverse_cons, List.reverse_nil, List.nil_append, List.cons_append, z_ofi]) (fun H9 locs9 hH9 hG9 hS9 => ?_)
  refine lv_pop hx hb dL_476 rfl ?_
  refine lv_goto (tgt := 1550) hx hb dL_477 (by decide) ?_
  exact K H9 locs9 ⟨η, ζ, L, M, Θ, Ξ, h2, g2, hB, hN.keep k2, hNR, hH9, hG9, ⟨ea, er⟩, ⟨R2, fun f => w2 f⟩⟩ hS9
set_option maxHeartbeats 4000000 in
theorem lwc_9 {p : Program} {l : Launch} {e : Env} {s : State} {m : MethodId} {below : List Frame} {meth : Method} {c : Code} {b N : Nat} {xs : Nat → Int32} {Q : State → Prop} {H : Heap} {locs : List Loc} {cells slots : Nat} {ls : Array Slot} {qa qr i : Nat} {D : va_G} {cy : Nat → ClassId} {tb adK adV : Nat → Nat} {fv : Option Nat} (X : lwX l p s m meth c b N xs D cy tb adK adV fv) (hi : i + 6 ≤ N) (hI : lwI lwF s D cy adK qa qr H) (hS : va_S (fun q => s.heap.size ≤ q) s.heap H locs) (hcs : cells ≤ 600000 ∧ slots ≤ 7302250) (hl : lwL ls qa qr i b)
    (K : ∀ (H1 : Heap) (locs1 : List Loc), lwI lwF s D cy adK qa qr H1 → va_S (fun q => s.heap.size ≤ q) s.heap H1 locs1 → W p l e room_1 s m #[Value.ref b] below meth c H1 locs1 (cells) (slots) Q (F0 m 1550 ls [])) : W p l e room_1 s m #[Value.ref b] below meth c H locs cells slots Q (F0 m 523 ls []) := by
  obtain ⟨hx, hb, -, -, -, -, -, -, -, -⟩ := id X.1
  obtain ⟨η, ζ, L, M, Θ, Ξ, h, g, hB, hN, hNR, hH, hG, ⟨ea, er⟩, ⟨R, RP⟩⟩ := hI
  obtain ⟨bb, bm, bl, -⟩ := cT_b hH hN.2.2.2.1 R
  obtain ⟨gb, g1, g4⟩ := rBd_of hG hNR
  obtain ⟨v, h2, g2, e1, e2, R2, kk⟩ := RR_loud (n := 300) (m := 300) (x := (xs (i + 1)).toInt) (by decide) (by decide) R (RP trivial).p.1 bl bm.2 (rQ_of hG hNR) g4
  have k2 : ∀ k, h2 2 k = h 2 k := fun k => kk 2 k
  have w2 : lwF → cW h2 g2 := fun f => ((RP f).c ((RP f).p.fr (fun a j _ => kk a j))).r (frK_loud (h := h) (by decide) R (rQ_of hG hNR) g4 e2)
  refine lv_aload_n hx hb dL_523 rfl (lv_at hl 2 rfl) ?_
  refine lw_arg X.1 X.2.1 hS hl 1 hi (by decide) (by decide +kernel) dL_524 dL_525 dL_526 dL_527 dL_528 ?_
  refine lwCf (As := [(xs (i + 1)).toInt]) X (m_X11_loud l) (ycv_of yw_X11_loud 53 dL_529 zlL_53 rfl (by decide +kernel) (by decide +kernel) (zk_ex (kk := 63) (ts := [0]) _ _ rfl (zkK ⟨63, by decide⟩) rfl rfl rfl)) rfl (fun _ hx => by
      simp only [List.mem_cons, List.not_mem_nil, or_false] at hx
      rcases hx with rfl <;> exact ⟨z_lo _, z_hi _⟩) hB hN hH hG ea e1 hS hcs hl (rest := []) (by decide) (by simp only [List.map_cons, List.map_nil, List.reverse_cons, List.reverse_nil, List.nil_append, List.cons_append, z_ofi]) (fun H8 locs8 hH8 hG8 hS8 => ?_)
  refine lv_pop hx hb dL_532 rfl ?_
  refine lv_aload_n hx hb dL_533 rfl (lv_at hl 1 rfl) ?_
  refine lw_arg X.1 X.2.1 hS8 hl 1 hi (by decide) (by decide +kernel) dL_534 dL_535 dL_536 dL_537 dL_538 ?_
  refine lwRf (As := [(xs (i + 1)).toInt]) X (m_X12_loud l) (ycv_of yw_X12_loud 56 dL_539 zlL_56 rfl (by decide +kernel) (by decide +kernel) (zk_ex (kk := 35) (ts := [0]) _ _ rfl (zkR ⟨35, by decide⟩) rfl rfl rfl)) rfl (fun _ hx => by
      simp only [List.mem_cons, List.not_mem_nil, or_false] at hx
      rcases hx with rfl <;> exact ⟨z_lo _, z_hi _⟩) hB hNR hH8 hG8 er e2 hS8 hcs hl (rest := []) (by decide) (by simp only [List.map_cons, List.map_nil, List.reverse_cons, List.reverse_nil, List.nil_append, List.cons_append, z_ofi]) (fun H9 locs9 hH9 hG9 hS9 => ?_)
  refine lv_pop hx hb dL_542 rfl ?_
  refine lv_goto (tgt := 1550) hx hb dL_543 (by decide) ?_
  exact K H9 locs9 ⟨η, ζ, L, M, Θ, Ξ, h2, g2, hB, hN.keep k2, hNR, hH9, hG9, ⟨ea, er⟩, ⟨R2, fun f => w2 f⟩⟩ hS9
set_option maxHeartbeats 4000000 in
theorem lwc_10 {p : Program} {l : Launch} {e : Env} {s : State} {m : MethodId} {below : List Frame} {meth : Method} {c : Code} {b N : Nat} {xs : Nat → Int32} {Q : State → Prop} {H : Heap} {locs : List Loc} {cells slots : Nat} {ls : Array Slot} {qa qr i : Nat} {D : va_G} {cy : Nat → ClassId} {tb adK adV : Nat → Nat} {fv : Option Nat} (X : lwX l p s m meth c b N xs D cy tb adK adV fv) (hi : i + 6 ≤ N) (hI : lwI lwF s D cy adK qa qr H) (hS : va_S (fun q => s.heap.size ≤ q) s.heap H locs) (hcs : cells ≤ 600000 ∧ slots ≤ 7302250) (hl : lwL ls qa qr i b)
    (K : ∀ (H1 : Heap) (locs1 : List Loc), lwI lwF s D cy adK qa qr H1 → va_S (fun q => s.heap.size ≤ q) s.heap H1 locs1 → W p l e room_1 s m #[Value.ref b] below meth c H1 locs1 (cells) (slots) Q (F0 m 1550 ls [])) : W p l e room_1 s m #[Value.ref b] below meth c H locs cells slots Q (F0 m 546 ls []) := by
  obtain ⟨hx, hb, -, -, -, -, -, -, -, -⟩ := id X.1
  obtain ⟨η, ζ, L, M, Θ, Ξ, h, g, hB, hN, hNR, hH, hG, ⟨ea, er⟩, ⟨R, RP⟩⟩ := hI
  obtain ⟨bb, bm, bl, -⟩ := cT_b hH hN.2.2.2.1 R
  obtain ⟨gb, g1, g4⟩ := rBd_of hG hNR
  obtain ⟨v, h2, g2, e1, e2, R2, kk⟩ := RR_deed (n := 300) (m := 300) (x := (xs (i + 1)).toInt) (k := (xs (i + 2)).toInt) (w := (xs (i + 3)).toInt) R bl bm.2 g4
  have k2 : ∀ k, h2 2 k = h 2 k := fun k => kk 2 k
  have w2 : lwF → cW h2 g2 := fun f => ((RP f).c ((RP f).p.fr (fun a j _ => kk a j))).r (frK_deed R g4 e2)
  refine lv_aload_n hx hb dL_546 rfl (lv_at hl 2 rfl) ?_
  refine lw_arg X.1 X.2.1 hS hl 1 hi (by decide) (by decide +kernel) dL_547 dL_548 dL_549 dL_550 dL_551 ?_
  refine lw_arg X.1 X.2.1 hS hl 2 hi (by decide) (by decide +kernel) dL_552 dL_553 dL_554 dL_555 dL_556 ?_
  refine lw_arg X.1 X.2.1 hS hl 3 hi (by decide) (by decide +kernel) dL_557 dL_558 dL_559 dL_560 dL_561 ?_
  refine lwCf (As := [(xs (i + 1)).toInt, (xs (i + 2)).toInt, (xs (i + 3)).toInt]) X (m_X11_deed l) (ycv_of yw_X11_deed 57 dL_562 zlL_57 rfl (by decide +kernel) (by decide +kernel) (zk_ex (kk := 63) (ts := [0, 0, 0]) _ _ rfl (zkK ⟨63, by decide⟩) rfl rfl rfl)) rfl (fun _ hx => by
      simp only [List.mem_cons, List.not_mem_nil, or_false] at hx
      rcases hx with rfl | rfl | rfl <;> exact ⟨z_lo _, z_hi _⟩) hB hN hH hG ea e1 hS hcs hl (rest := []) (by decide) (by simp only [List.map_cons, List.map_nil, List.reverse_cons, List.reverse_nil, List.nil_append, List.cons_append, z_ofi]) (fun H8 locs8 hH8 hG8 hS8 => ?_)
  refine lv_pop hx hb dL_565 rfl ?_
  refine lv_aload_n hx hb dL_566 rfl (lv_at hl 1 rfl) ?_
  refine lw_arg X.1 X.2.1 hS8 hl 1 hi (by decide) (by decide +kernel) dL_567 dL_568 dL_569 dL_570 dL_571 ?_
  refine lw_arg X.1 X.2.1 hS8 hl 2 hi (by decide) (by decide +kernel) dL_572 dL_573 dL_574 dL_575 dL_576 ?_
  refine lw_arg X.1 X.2.1 hS8 hl 3 hi (by decide) (by decide +kernel) dL_577 dL_578 dL_579 dL_580 dL_581 ?_
  refine lwRf (As := [(xs (i + 1)).toInt, (xs (i + 2)).toInt, (xs (i + 3)).toInt]) X (m_X12_deed l) (ycv_of yw_X12_deed 60 dL_582 zlL_60 rfl (by decide +kernel) (by decide +kernel) (zk_ex (kk := 35) (ts := [0, 0, 0]) _ _ rfl (zkR ⟨35, by decide⟩) rfl rfl rfl)) rfl (fun _ hx => by
      simp only [List.mem_cons, List.not_mem_nil, or_false] at hx
      rcases hx with rfl | rfl | rfl <;> exact ⟨z_lo _, z_hi _⟩) hB hNR hH8 hG8 er e2 hS8 hcs hl (rest := []) (by decide) (by simp only [List.map_cons, List.map_nil, List.reverse_cons, List.reverse_nil, List.nil_append, List.cons_append, z_ofi]) (fun H9 locs9 hH9 hG9 hS9 => ?_)
  refine lv_pop hx hb dL_585 rfl ?_
  refine lv_goto (tgt := 1550) hx hb dL_586 (by decide) ?_
  exact K H9 locs9 ⟨η, ζ, L, M, Θ, Ξ, h2, g2, hB, hN.keep k2, hNR, hH9, hG9, ⟨ea, er⟩, ⟨R2, fun f => w2 f⟩⟩ hS9
set_option maxHeartbeats 4000000 in
theorem lwc_24 {p : Program} {l : Launch} {e : Env} {s : State} {m : MethodId} {below : List Frame} {meth : Method} {c : Code} {b N : Nat} {xs : Nat → Int32} {Q : State → Prop} {H : Heap} {locs : List Loc} {cells slots : Nat} {ls : Array Slot} {qa qr i : Nat} {D : va_G} {cy : Nat → ClassId} {tb adK adV : Nat → Nat} {fv : Option Nat} (X : lwX l p s m meth c b N xs D cy tb adK adV fv) (hi : i + 6 ≤ N) (hI : lwI lwF s D cy adK qa qr H) (hS : va_S (fun q => s.heap.size ≤ q) s.heap H locs) (hcs : cells ≤ 600000 ∧ slots ≤ 7302250) (hl : lwL ls qa qr i b)
    (K : ∀ (H1 : Heap) (locs1 : List Loc), lwI lwF s D cy adK qa qr H1 → va_S (fun q => s.heap.size ≤ q) s.heap H1 locs1 → W p l e room_1 s m #[Value.ref b] below meth c H1 locs1 (cells) (slots) Q (F0 m 1550 ls [])) : W p l e room_1 s m #[Value.ref b] below meth c H locs cells slots Q (F0 m 1286 ls []) := by
  obtain ⟨hx, hb, -, -, -, -, -, -, -, -⟩ := id X.1
  obtain ⟨η, ζ, L, M, Θ, Ξ, h, g, hB, hN, hNR, hH, hG, ⟨ea, er⟩, ⟨R, RP⟩⟩ := hI
  obtain ⟨bb, bm, bl, -⟩ := cT_b hH hN.2.2.2.1 R
  obtain ⟨gb, g1, g4⟩ := rBd_of hG hNR
  obtain ⟨v, h2, g2, e1, e2, R2, kk⟩ := RR_least (n := 300) (m := 300) (x := (xs (i + 1)).toInt) (k := (xs (i + 2)).toInt) (w := (xs (i + 3)).toInt) (by decide) (by decide) R (RP trivial).p bl bm.2 (rQ_of hG hNR) g4
  have k2 : ∀ k, h2 2 k = h 2 k := fun k => kk 2 k
  have w2 : lwF → cW h2 g2 := fun f => ((RP f).c ((RP f).p.fr (fun a j _ => kk a j))).r (frK_least (h := h) (by decide) R (rQ_of hG hNR) g4 e2)
  refine lv_aload_n hx hb dL_1286 rfl (lv_at hl 2 rfl) ?_
  refine lw_arg X.1 X.2.1 hS hl 1 hi (by decide) (by decide +kernel) dL_1287 dL_1288 dL_1289 dL_1290 dL_1291 ?_
  refine lw_arg X.1 X.2.1 hS hl 2 hi (by decide) (by decide +kernel) dL_1292 dL_1293 dL_1294 dL_1295 dL_1296 ?_
  refine lw_arg X.1 X.2.1 hS hl 3 hi (by decide) (by decide +kernel) dL_1297 dL_1298 dL_1299 dL_1300 dL_1301 ?_
  refine lwCf (As := [(xs (i + 1)).toInt, (xs (i + 2)).toInt, (xs (i + 3)).toInt]) X (m_X11_least l) (ycv_of yw_X11_least 116 dL_1302 zlL_116 rfl (by decide +kernel) (by decide +kernel) (zk_ex (kk := 63) (ts := [0, 0, 0]) _ _ rfl (zkK ⟨63, by decide⟩) rfl rfl rfl)) rfl (fun _ hx => by
      simp only [List.mem_cons, List.not_mem_nil, or_false] at hx
      rcases hx with rfl | rfl | rfl <;> exact ⟨z_lo _, z_hi _⟩) hB hN hH hG ea e1 hS hcs hl (rest := []) (by decide) (by simp only [List.map_cons, List.map_nil, List.reverse_cons, List.reverse_nil, List.nil_append, List.cons_append, z_ofi]) (fun H8 locs8 hH8 hG8 hS8 => ?_)
  refine lv_pop hx hb dL_1305 rfl ?_
  refine lv_aload_n hx hb dL_1306 rfl (lv_at hl 1 rfl) ?_
  refine lw_arg X.1 X.2.1 hS8 hl 1 hi (by decide) (by decide +kernel) dL_1307 dL_1308 dL_1309 dL_1310 dL_1311 ?_
  refine lw_arg X.1 X.2.1 hS8 hl 2 hi (by decide) (by decide +kernel) dL_1312 dL_1313 dL_1314 dL_1315 dL_1316 ?_
  refine lw_arg X.1 X.2.1 hS8 hl 3 hi (by decide) (by decide +kernel) dL_1317 dL_1318 dL_1319 dL_1320 dL_1321 ?_
  refine lwRf (As := [(xs (i + 1)).toInt, (xs (i + 2)).toInt, (xs (i + 3)).toInt]) X (m_X12_least l) (ycv_of yw_X12_least 119 dL_1322 zlL_119 rfl (by decide +kernel) (by decide +kernel) (zk_ex (kk := 35) (ts := [0, 0, 0]) _ _ rfl (zkR ⟨35, by decide⟩) rfl rfl rfl)) rfl (fun _ hx => by
      simp only [List.mem_cons, List.not_mem_nil, or_false] at hx
      rcases hx with rfl | rfl | rfl <;> exact ⟨z_lo _, z_hi _⟩) hB hNR hH8 hG8 er e2 hS8 hcs hl (rest := []) (by decide) (by simp only [List.map_cons, List.map_nil, List.reverse_cons, List.reverse_nil, List.nil_append, List.cons_append, z_ofi]) (fun H9 locs9 hH9 hG9 hS9 => ?_)
  refine lv_pop hx hb dL_1325 rfl ?_
  refine lv_goto (tgt := 1550) hx hb dL_1326 (by decide) ?_
  exact K H9 locs9 ⟨η, ζ, L, M, Θ, Ξ, h2, g2, hB, hN.keep k2, hNR, hH9, hG9, ⟨ea, er⟩, ⟨R2, fun f => w2 f⟩⟩ hS9
set_option maxHeartbeats 4000000 in
theorem lwc_25 {p : Program} {l : Launch} {e : Env} {s : State} {m : MethodId} {below : List Frame} {meth : Method} {c : Code} {b N : Nat} {xs : Nat → Int32} {Q : State → Prop} {H : Heap} {locs : List Loc} {cells slots : Nat} {ls : Array Slot} {qa qr i : Nat} {D : va_G} {cy : Nat → ClassId} {tb adK adV : Nat → Nat} {fv : Option Nat} (X : lwX l p s m meth c b N xs D cy tb adK adV fv) (hi : i + 6 ≤ N) (hI : lwI lwF s D cy adK qa qr H) (hS : va_S (fun q => s.heap.size ≤ q) s.heap H locs) (hcs : cells ≤ 600000 ∧ slots ≤ 7302250) (hl : lwL ls qa qr i b)
    (K : ∀ (H1 : Heap) (locs1 : List Loc), lwI lwF s D cy adK qa qr H1 → va_S (fun q => s.heap.size ≤ q) s.heap H1 locs1 → W p l e room_1 s m #[Value.ref b] below meth c H1 locs1 (cells) (slots) Q (F0 m 1550 ls [])) : W p l e room_1 s m #[Value.ref b] below meth c H locs cells slots Q (F0 m 1329 ls []) := by
  obtain ⟨hx, hb, -, -, -, -, -, -, -, -⟩ := id X.1
  obtain ⟨η, ζ, L, M, Θ, Ξ, h, g, hB, hN, hNR, hH, hG, ⟨ea, er⟩, ⟨R, RP⟩⟩ := hI
  obtain ⟨bb, bm, bl, -⟩ := cT_b hH hN.2.2.2.1 R
  obtain ⟨gb, g1, g4⟩ := rBd_of hG hNR
  obtain ⟨v, h2, g2, e1, e2, ⟨R2, w1⟩, k2⟩ := RR_winds (n := 300) (m := 300) (x := (xs (i + 1)).toInt) (w := (xs (i + 2)).toInt) (by decide) (by decide) R (RP trivial).p bl bm.2 (rQ_of hG hNR) g4
  have w2 : lwF → cW h2 g2 := fun f => ((RP f).c w1).r (frK_winds (h := h) (by decide) R (rQ_of hG hNR) g4 e2)
  refine lv_aload_n hx hb dL_1329 rfl (lv_at hl 2 rfl) ?_
  refine lw_arg X.1 X.2.1 hS hl 1 hi (by decide) (by decide +kernel) dL_1330 dL_1331 dL_1332 dL_1333 dL_1334 ?_
  refine lw_arg X.1 X.2.1 hS hl 2 hi (by decide) (by decide +kernel) dL_1335 dL_1336 dL_1337 dL_1338 dL_1339 ?_
  refine lwCf (As := [(xs (i + 1)).toInt, (xs (i + 2)).toInt]) X (m_X11_winds l) (ycv_of yw_X11_winds 120 dL_1340 zlL_120 rfl (by decide +kernel) (by decide +kernel) (zk_ex (kk := 63) (ts := [0, 0]) _ _ rfl (zkK ⟨63, by decide⟩) rfl rfl rfl)) rfl (fun _ hx => by
      simp only [List.mem_cons, List.not_mem_nil, or_false] at hx
      rcases hx with rfl | rfl <;> exact ⟨z_lo _, z_hi _⟩) hB hN hH hG ea e1 hS hcs hl (rest := []) (by decide) (by simp only [List.map_cons, List.map_nil, List.reverse_cons, List.reverse_nil, List.nil_append, List.cons_append, z_ofi]) (fun H8 locs8 hH8 hG8 hS8 => ?_)
  refine lv_pop hx hb dL_1343 rfl ?_
  refine lv_aload_n hx hb dL_1344 rfl (lv_at hl 1 rfl) ?_
  refine lw_arg X.1 X.2.1 hS8 hl 1 hi (by decide) (by decide +kernel) dL_1345 dL_1346 dL_1347 dL_1348 dL_1349 ?_
  refine lw_arg X.1 X.2.1 hS8 hl 2 hi (by decide) (by decide +kernel) dL_1350 dL_1351 dL_1352 dL_1353 dL_1354 ?_
  refine lwRf (As := [(xs (i + 1)).toInt, (xs (i + 2)).toInt]) X (m_X12_winds l) (ycv_of yw_X12_winds 123 dL_1355 zlL_123 rfl (by decide +kernel) (by decide +kernel) (zk_ex (kk := 35) (ts := [0, 0]) _ _ rfl (zkR ⟨35, by decide⟩) rfl rfl rfl)) rfl (fun _ hx => by
      simp only [List.mem_cons, List.not_mem_nil, or_false] at hx
      rcases hx with rfl | rfl <;> exact ⟨z_lo _, z_hi _⟩) hB hNR hH8 hG8 er e2 hS8 hcs hl (rest := []) (by decide) (by simp only [List.map_cons, List.map_nil, List.reverse_cons, List.reverse_nil, List.nil_append, List.cons_append, z_ofi]) (fun H9 locs9 hH9 hG9 hS9 => ?_)
  refine lv_pop hx hb dL_1358 rfl ?_
  refine lv_goto (tgt := 1550) hx hb dL_1359 (by decide) ?_
  exact K H9 locs9 ⟨η, ζ, L, M, Θ, Ξ, h2, g2, hB, hN.keep k2, hNR, hH9, hG9, ⟨ea, er⟩, ⟨R2, fun f => w2 f⟩⟩ hS9
set_option maxHeartbeats 4000000 in
theorem lwc_26 {p : Program} {l : Launch} {e : Env} {s : State} {m : MethodId} {below : List Frame} {meth : Method} {c : Code} {b N : Nat} {xs : Nat → Int32} {Q : State → Prop} {H : Heap} {locs : List Loc} {cells slots : Nat} {ls : Array Slot} {qa qr i : Nat} {D : va_G} {cy : Nat → ClassId} {tb adK adV : Nat → Nat} {fv : Option Nat} (X : lwX l p s m meth c b N xs D cy tb adK adV fv) (hi : i + 6 ≤ N) (hI : lwI lwF s D cy adK qa qr H) (hS : va_S (fun q => s.heap.size ≤ q) s.heap H locs) (hcs : cells ≤ 600000 ∧ slots ≤ 7302250) (hl : lwL ls qa qr i b)
    (K : ∀ (H1 : Heap) (locs1 : List Loc), lwI lwF s D cy adK qa qr H1 → va_S (fun q => s.heap.size ≤ q) s.heap H1 locs1 → W p l e room_1 s m #[Value.ref b] below meth c H1 locs1 (cells) (slots) Q (F0 m 1550 ls [])) : W p l e room_1 s m #[Value.ref b] below meth c H locs cells slots Q (F0 m 1362 ls []) := by
  obtain ⟨hx, hb, -, -, -, -, -, -, -, -⟩ := id X.1
  obtain ⟨η, ζ, L, M, Θ, Ξ, h, g, hB, hN, hNR, hH, hG, ⟨ea, er⟩, ⟨R, RP⟩⟩ := hI
  obtain ⟨bb, bm, bl, -⟩ := cT_b hH hN.2.2.2.1 R
  obtain ⟨gb, g1, g4⟩ := rBd_of hG hNR
  obtain ⟨v, h2, g2, e1, e2, R2, kk⟩ := RR_meet (n := 300) (m := 300) (x := (xs (i + 1)).toInt) (k := (xs (i + 2)).toInt) (w := (xs (i + 3)).toInt) (by decide) (by decide) R (RP trivial).2 bl bm.2 (rQ_of hG hNR) g4
  have k2 : ∀ k, h2 2 k = h 2 k := fun k => kk 2 k
  have w2 : lwF → cW h2 g2 := fun f => ((RP f).c ((RP f).p.fr (fun a j _ => kk a j))).r (frK_meet (h := h) (by decide) R (RP trivial).2 (rQ_of hG hNR) g4 e2)
  refine lv_aload_n hx hb dL_1362 rfl (lv_at hl 2 rfl) ?_
  refine lw_arg X.1 X.2.1 hS hl 1 hi (by decide) (by decide +kernel) dL_1363 dL_1364 dL_1365 dL_1366 dL_1367 ?_
  refine lw_arg X.1 X.2.1 hS hl 2 hi (by decide) (by decide +kernel) dL_1368 dL_1369 dL_1370 dL_1371 dL_1372 ?_
  refine lw_arg X.1 X.2.1 hS hl 3 hi (by decide) (by decide +kernel) dL_1373 dL_1374 dL_1375 dL_1376 dL_1377 ?_
  refine lwCf (As := [(xs (i + 1)).toInt, (xs (i + 2)).toInt, (xs (i + 3)).toInt]) X (m_X11_meet l) (ycv_of yw_X11_meet 124 dL_1378 zlL_124 rfl (by decide +kernel) (by decide +kernel) (zk_ex (kk := 63) (ts := [0, 0, 0]) _ _ rfl (zkK ⟨63, by decide⟩) rfl rfl rfl)) rfl (fun _ hx => by
      simp only [List.mem_cons, List.not_mem_nil, or_false] at hx
      rcases hx with rfl | rfl | rfl <;> exact ⟨z_lo _, z_hi _⟩) hB hN hH hG ea e1 hS hcs hl (rest := []) (by decide) (by simp only [List.map_cons, List.map_nil, List.reverse_cons, List.reverse_nil, List.nil_append, List.cons_append, z_ofi]) (fun H8 locs8 hH8 hG8 hS8 => ?_)
  refine lv_pop hx hb dL_1381 rfl ?_
  refine lv_aload_n hx hb dL_1382 rfl (lv_at hl 1 rfl) ?_
  refine lw_arg X.1 X.2.1 hS8 hl 1 hi (by decide) (by decide +kernel) dL_1383 dL_1384 dL_1385 dL_1386 dL_1387 ?_
  refine lw_arg X.1 X.2.1 hS8 hl 2 hi (by decide) (by decide +kernel) dL_1388 dL_1389 dL_1390 dL_1391 dL_1392 ?_
  refine lw_arg X.1 X.2.1 hS8 hl 3 hi (by decide) (by decide +kernel) dL_1393 dL_1394 dL_1395 dL_1396 dL_1397 ?_
  refine lwRf (As := [(xs (i + 1)).toInt, (xs (i + 2)).toInt, (xs (i + 3)).toInt]) X (m_X12_meet l) (ycv_of yw_X12_meet 127 dL_1398 zlL_127 rfl (by decide +kernel) (by decide +kernel) (zk_ex (kk := 35) (ts := [0, 0, 0]) _ _ rfl (zkR ⟨35, by decide⟩) rfl rfl rfl)) rfl (fun _ hx => by
      simp only [List.mem_cons, List.not_mem_nil, or_false] at hx
      rcases hx with rfl | rfl | rfl <;> exact ⟨z_lo _, z_hi _⟩) hB hNR hH8 hG8 er e2 hS8 hcs hl (rest := []) (by decide) (by simp only [List.map_cons, List.map_nil, List.reverse_cons, List.reverse_nil, List.nil_append, List.cons_append, z_ofi]) (fun H9 locs9 hH9 hG9 hS9 => ?_)
  refine lv_pop hx hb dL_1401 rfl ?_
  refine lv_goto (tgt := 1550) hx hb dL_1402 (by decide) ?_
  exact K H9 locs9 ⟨η, ζ, L, M, Θ, Ξ, h2, g2, hB, hN.keep k2, hNR, hH9, hG9, ⟨ea, er⟩, ⟨R2, fun f => w2 f⟩⟩ hS9
set_option maxHeartbeats 4000000 in
theorem lwc_28 {p : Program} {l : Launch} {e : Env} {s : State} {m : MethodId} {below : List Frame} {meth : Method} {c : Code} {b N : Nat} {xs : Nat → Int32} {Q : State → Prop} {H : Heap} {locs : List Loc} {cells slots : Nat} {ls : Array Slot} {qa qr i : Nat} {D : va_G} {cy : Nat → ClassId} {tb adK adV : Nat → Nat} {fv : Option Nat} (X : lwX l p s m meth c b N xs D cy tb adK adV fv) (hi : i + 6 ≤ N) (hI : lwI lwF s D cy adK qa qr H) (hS : va_S (fun q => s.heap.size ≤ q) s.heap H locs) (hcs : cells ≤ 600000 ∧ slots ≤ 7302250) (hl : lwL ls qa qr i b)
    (K : ∀ (H1 : Heap) (locs1 : List Loc), lwI lwF s D cy adK qa qr H1 → va_S (fun q => s.heap.size ≤ q) s.heap H1 locs1 → W p l e room_1 s m #[Value.ref b] below meth c H1 locs1 (cells) (slots) Q (F0 m 1550 ls [])) : W p l e room_1 s m #[Value.ref b] below meth c H locs cells slots Q (F0 m 1448 ls []) := by
  obtain ⟨hx, hb, -, -, -, -, -, -, -, -⟩ := id X.1
  obtain ⟨η, ζ, L, M, Θ, Ξ, h, g, hB, hN, hNR, hH, hG, ⟨ea, er⟩, ⟨R, RP⟩⟩ := hI
  obtain ⟨bb, bm, bl, -⟩ := cT_b hH hN.2.2.2.1 R
  obtain ⟨gb, g1, g4⟩ := rBd_of hG hNR
  obtain ⟨v, h2, g2, e1, e2, R2, kk⟩ := RR_tells (n := 300) (m := 900) (x := (xs (i + 1)).toInt) (w := (xs (i + 2)).toInt) (by decide) (by decide) R (RP trivial).p bl bm.2 (rQ_of hG hNR) g4
  have k2 : ∀ k, h2 2 k = h 2 k := fun k => kk 2 k
  have w2 : lwF → cW h2 g2 := fun f => ((RP f).c ((RP f).p.fr (fun a j _ => kk a j))).r (frK_tells (h := h) (by decide) R (rQ_of hG hNR) g4 e2)
  refine lv_aload_n hx hb dL_1448 rfl (lv_at hl 2 rfl) ?_
  refine lw_arg X.1 X.2.1 hS hl 1 hi (by decide) (by decide +kernel) dL_1449 dL_1450 dL_1451 dL_1452 dL_1453 ?_
  refine lw_arg X.1 X.2.1 hS hl 2 hi (by decide) (by decide +kernel) dL_1454 dL_1455 dL_1456 dL_1457 dL_1458 ?_
  refine lwCf (As := [(xs (i + 1)).toInt, (xs (i + 2)).toInt]) X (m_X11_tells l) (ycv_of yw_X11_tells 132 dL_1459 zlL_132 rfl (by decide +kernel) (by decide +kernel) (zk_ex (kk := 63) (ts := [0, 0]) _ _ rfl (zkK ⟨63, by decide⟩) rfl rfl rfl)) rfl (fun _ hx => by
      simp only [List.mem_cons, List.not_mem_nil, or_false] at hx
      rcases hx with rfl | rfl <;> exact ⟨z_lo _, z_hi _⟩) hB hN hH hG ea e1 hS hcs hl (rest := []) (by decide) (by simp only [List.map_cons, List.map_nil, List.reverse_cons, List.reverse_nil, List.nil_append, List.cons_append, z_ofi]) (fun H8 locs8 hH8 hG8 hS8 => ?_)
  refine lv_pop hx hb dL_1462 rfl ?_
  refine lv_aload_n hx hb dL_1463 rfl (lv_at hl 1 rfl) ?_
  refine lw_arg X.1 X.2.1 hS8 hl 1 hi (by decide) (by decide +kernel) dL_1464 dL_1465 dL_1466 dL_1467 dL_1468 ?_
  refine lw_arg X.1 X.2.1 hS8 hl 2 hi (by decide) (by decide +kernel) dL_1469 dL_1470 dL_1471 dL_1472 dL_1473 ?_
  refine lwRf (As := [(xs (i + 1)).toInt, (xs (i + 2)).toInt]) X (m_X12_tells l) (ycv_of yw_X12_tells 135 dL_1474 zlL_135 rfl (by decide +kernel) (by decide +kernel) (zk_ex (kk := 35) (ts := [0, 0]) _ _ rfl (zkR ⟨35, by decide⟩) rfl rfl rfl)) rfl (fun _ hx => by
      simp only [List.mem_cons, List.not_mem_nil, or_false] at hx
      rcases hx with rfl | rfl <;> exact ⟨z_lo _, z_hi _⟩) hB hNR hH8 hG8 er e2 hS8 hcs hl (rest := []) (by decide) (by simp only [List.map_cons, List.map_nil, List.reverse_cons, List.reverse_nil, List.nil_append, List.cons_append, z_ofi]) (fun H9 locs9 hH9 hG9 hS9 => ?_)
  refine lv_pop hx hb dL_1477 rfl ?_
  refine lv_goto (tgt := 1550) hx hb dL_1478 (by decide) ?_
  exact K H9 locs9 ⟨η, ζ, L, M, Θ, Ξ, h2, g2, hB, hN.keep k2, hNR, hH9, hG9, ⟨ea, er⟩, ⟨R2, fun f => w2 f⟩⟩ hS9
set_option maxRecDepth 100000 in
theorem zq_X11_image : lw_tbl[1278]? = some (.code yX11_image cX11_image 2 (some .boolean)) := rfl
theorem zw_X11_image : zMV yX11_image cX11_image 2 (some .boolean) 1 := ⟨⟨zTin 101 (by decide +kernel) rfl, zTin 1278 zq_X11_image rfl, ⟨by decide, by decide⟩, by decide +kernel⟩, zTin 1276 (by decide +kernel) rfl, zTin 1277 (by decide +kernel) rfl⟩
theorem fb_img {η : zRn} {D : va_G} {cy : Nat → ClassId} {L : List Nat} {Θ : Nat → Option Nat} {h : Nat → Nat → Int} {av : List Value} {sz base : Nat} {tb adK adV : Nat → Nat} {fv : Option Nat} : FrameBlind (va_Pc av (fun U => U.heap.size = sz ∧ zH η zkds D vwCl cy L Θ h U.heap ∧ KW D cy U ∧ zS0 base tb adK adV fv U)) := fun _ U g mk q => ⟨q.1, q.2.1, q.2.2.1, q.2.2.2.1.call, q.2.2.2.2.same rfl rfl⟩
theorem fb_ag {η : zRn} {D : va_G} {cy : Nat → ClassId} {L : List Nat} {Θ : Nat → Option Nat} {h : Nat → Nat → Int} {av : List Value} {base : Nat} {tb adK adV : Nat → Nat} {fv : Option Nat} : FrameBlind (va_Pc av (fun U => zH η zkds D vwCl cy L Θ h U.heap ∧ KW D cy U ∧ zS0 base tb adK adV fv U)) := fun _ U g mk q => ⟨q.1, q.2.1, q.2.2.1.call, q.2.2.2.same rfl rfl⟩
set_option maxHeartbeats 4000000 in
set_option maxRecDepth 10000 in
theorem lwc_30 {p : Program} {l : Launch} {e : Env} {s : State} {m : MethodId} {below : List Frame} {meth : Method} {c : Code} {b N : Nat} {xs : Nat → Int32} {Q : State → Prop} {H : Heap} {locs : List Loc} {cells slots : Nat} {ls : Array Slot} {qa qr i : Nat} {D : va_G} {cy : Nat → ClassId} {tb adK adV : Nat → Nat} {fv : Option Nat} (X : lwX l p s m meth c b N xs D cy tb adK adV fv) (hi : i + 6 ≤ N) (hI : lwI lwF s D cy adK qa qr H) (hS : va_S (fun q => s.heap.size ≤ q) s.heap H locs) (hcs : cells + 39 ≤ 600000 ∧ slots + 1090 ≤ 7302250) (hl : lwL ls qa qr i b)
    (K : ∀ (H1 : Heap) (locs1 : List Loc), lwI lwF s D cy adK qa qr H1 → va_S (fun q => s.heap.size ≤ q) s.heap H1 locs1 → W p l e room_1 s m #[Value.ref b] below meth c H1 locs1 (cells + 39) (slots + 1090) Q (F0 m 1550 ls [])) : W p l e room_1 s m #[Value.ref b] below meth c H locs cells slots Q (F0 m 1504 ls []) := by
  obtain ⟨hx, hb, -, -, -, -, -, -, -, -⟩ := id X.1
  obtain ⟨η, ζ, L, M, Θ, Ξ, h, g, hB, hN, hNR, hH, hG, ⟨ea, er⟩, ⟨R, RP⟩⟩ := hI
  obtain ⟨hLn, hMn, hLM, hLb, hMb⟩ := id hB
  obtain ⟨C0, hN3, hKW, hZ⟩ := id X
  have S := lw_S C0
  have hts := S.2.2.2.2
  have htz : ∀ w ∈ zTW, w.before #[Value.ref b] s = true := fun w hw => hts w (List.mem_cons_of_mem _ hw)
  obtain ⟨bb, bm, bl, -⟩ := cT_b hH hN.2.2.2.1 R
  obtain ⟨gb, g1, g4⟩ := rBd_of hG hNR
  obtain ⟨-, p63, -, -⟩ := rP_of hG hNR
  have hIm : ∀ k, k < 3 → h 2 k = -1 ∨ (h 2 k = ((1000 * (k + 1) + 3 : Nat) : Int) ∧ cPb (1000 * (k + 1)) h) := fun k hk => by
    rcases R.2.2.2 k hk with q | ⟨-, q2, q3, -⟩
    · exact Or.inl q.2
    · exact Or.inr ⟨q2, q3⟩
  refine lv_aload_n hx hb dL_1504 rfl (lv_at hl 2 rfl) ?_
  refine lw_arg X.1 X.2.1 hS hl 1 hi (by decide) (by decide +kernel) dL_1505 dL_1506 dL_1507 dL_1508 dL_1509 ?_
  obtain ⟨p0, hp0⟩ := zH_get hH hN.2.2.2.1 zkd_63 (by decide)
  rw [zE_o rfl] at hp0
  rw [← ea] at hl ⊢
  have hfree : ∀ q, (q ∈ L ∨ H.size ≤ q) → s.heap.size ≤ q := fun q hq => hq.elim (hLb q) (fun h9 => Nat.le_trans hS.1 h9)
  refine va_calli (va_runV (C := RX11) (n := 1) (As := [.int (xs (i + 1))]) (rest := []) (bytes := cX11_image) (maxL := 2) (ret := some .boolean) S (c_img l (x := xs (i + 1)) (h := h) (D := D) (cy := cy) (tb := tb) (adK := adK) (adV := adV) (fv := fv) hLn hLb hS.1 hN R.1 hIm) ⟨callB_of _ hts (z_good zTW_good zw_X11_image.1.2.1) rfl rfl rfl (htz _ zw_X11_image.1.1) (htz _ zlL_140) ⟨zw_X11_image.1.2.2.1.1, zw_X11_image.1.2.2.1.2, zw_X11_image.1.2.2.2⟩ ⟨by decide +kernel, by decide +kernel⟩, htz _ zw_X11_image.2.1, htz _ zw_X11_image.2.2⟩ ⟨fb_img, va_recv hKW.1 hH.1 rfl hp0, fun U hU hW => ⟨rfl, by rw [hU], by rw [hU]; exact hH, hKW.warm hW, hZ.go hW (fun q h1 h2 => by rw [hU]; exact hS.2.1 q h1 h2)⟩⟩ rfl rfl hl.1 rfl (lv_room (Nat.le_of_ble_eq_true rfl)) dL_1510 hcs) hS (fun q _ h9 => hfree q h9) hfree (fun v8 u8 t8 H8 locs8 ht8 hvm8 w8 hB8 hz8 hk8 hS8 => ?_)
  subst w8
  have hG8 : zH ζ zkdm D vwCl cy M Ξ g H8 := zH_kept hG (fun q hq => hk8 q (zH_lt hG hq) (fun z => by
    rcases z with z | z
    · exact hLM q z hq
    · have := zH_lt hG hq
      omega))
  rw [ht8] at hB8
  rw [ea] at hl
  refine lv_pop hx hb dL_1513 rfl ?_
  refine lv_aload_n hx hb dL_1514 rfl (lv_at hl 1 rfl) ?_
  refine lw_arg X.1 X.2.1 hS8 hl 1 hi (by decide) (by decide +kernel) dL_1515 dL_1516 dL_1517 dL_1518 dL_1519 ?_
  rcases hB8 with ⟨w0, w1, hH8⟩ | ⟨k, hk, hxk, w1, η2, L2, Θ2, h1, h2, hH8, hLn8, hL8, hN8, ea8, hi8, ht9⟩
  · obtain ⟨e2, R2⟩ := RR_imageN (m := 1000) R bl bm.2 w0
    refine lwRf (η := η) (As := [(xs (i + 1)).toInt]) X (m_X12_image l) (ycv_of yw_X12_image 144 dL_1520 zlL_144 rfl (by decide +kernel) (by decide +kernel) (zk_ex (kk := 35) (ts := [0]) _ _ rfl (zkR ⟨35, by decide⟩) rfl rfl rfl)) rfl (fun _ hx => by
      simp only [List.mem_cons, List.not_mem_nil, or_false] at hx
      rcases hx with rfl <;> exact ⟨z_lo _, z_hi _⟩) hB hNR hH8 hG8 er e2 hS8 hcs hl (rest := []) (by decide) (by simp only [List.map_cons, List.map_nil, List.reverse_cons, List.reverse_nil, List.nil_append, List.cons_append, z_ofi]) (fun H9 locs9 hH9 hG9 hS9 => ?_)
    refine lv_pop hx hb dL_1523 rfl ?_
    refine lv_goto (tgt := 1550) hx hb dL_1524 (by decide) ?_
    exact K H9 locs9 ⟨η, ζ, L, M, Θ, Ξ, h, _, hB, hN, hNR, hH9, hG9, ⟨ea, er⟩, ⟨R2, fun f => (RP f).r (fun a j w1 w2 => zup_ne (by omega))⟩⟩ hS9
  · obtain ⟨RX1, bl1, bm1⟩ := RX_of hk R bl bm.2 hi8
    obtain ⟨g2, e2, R2⟩ := RX_image (m := 1000) (by decide) hk RX1 bl1 bm1 gb p63 ht9
    rw [← hxk] at e2
    have hB8 : lwB s L2 M := by
      refine ⟨hLn8, hMn, fun q hq hqM => ?_, fun q hq => hfree q (hL8 q hq), hMb⟩
      rcases hL8 q hq with z | z
      · exact hLM q z hqM
      · have := zH_lt hG hqM
        omega
    refine lwRf (η := η2) (As := [(xs (i + 1)).toInt]) X (m_X12_image l) (ycv_of yw_X12_image 144 dL_1520 zlL_144 rfl (by decide +kernel) (by decide +kernel) (zk_ex (kk := 35) (ts := [0]) _ _ rfl (zkR ⟨35, by decide⟩) rfl rfl rfl)) rfl (fun _ hx => by
      simp only [List.mem_cons, List.not_mem_nil, or_false] at hx
      rcases hx with rfl <;> exact ⟨z_lo _, z_hi _⟩) hB8 hNR hH8 hG8 er e2 hS8 hcs hl (rest := []) (by decide) (by simp only [List.map_cons, List.map_nil, List.reverse_cons, List.reverse_nil, List.nil_append, List.cons_append, z_ofi]) (fun H9 locs9 hH9 hG9 hS9 => ?_)
    refine lv_pop hx hb dL_1523 rfl ?_
    refine lv_goto (tgt := 1550) hx hb dL_1524 (by decide) ?_
    exact K H9 locs9 ⟨η2, ζ, L2, M, Θ2, Ξ, h2, g2, hB8, hN8, hNR, hH9, hG9, ⟨ea8.trans ea, er⟩, ⟨R2, fun f => ⟨(RP f).1.fr (fun a j w => (ht9.2.2.2.2.2.2.2.2.2 _ _ (by omega)).trans (hi8.1 _ _ (by omega) (by omega))), frH_image (m := 1000) (by decide) R.2.1 gb p63 e2 (RP f).2⟩⟩⟩ hS9
set_option maxHeartbeats 4000000 in
set_option maxRecDepth 10000 in
theorem lwc_31 {p : Program} {l : Launch} {e : Env} {s : State} {m : MethodId} {below : List Frame} {meth : Method} {c : Code} {b N : Nat} {xs : Nat → Int32} {Q : State → Prop} {H : Heap} {locs : List Loc} {cells slots : Nat} {ls : Array Slot} {qa qr i : Nat} {D : va_G} {cy : Nat → ClassId} {tb adK adV : Nat → Nat} {fv : Option Nat} (X : lwX l p s m meth c b N xs D cy tb adK adV fv) (hi : i + 6 ≤ N) (hI : lwI lwF s D cy adK qa qr H) (hS : va_S (fun q => s.heap.size ≤ q) s.heap H locs) (hcs : cells ≤ 600000 ∧ slots ≤ 7302250) (hl : lwL ls qa qr i b)
    (K : ∀ (H1 : Heap) (locs1 : List Loc), lwI lwF s D cy adK qa qr H1 → va_S (fun q => s.heap.size ≤ q) s.heap H1 locs1 → W p l e room_1 s m #[Value.ref b] below meth c H1 locs1 (cells) (slots) Q (F0 m 1550 ls [])) : W p l e room_1 s m #[Value.ref b] below meth c H locs cells slots Q (F0 m 1527 ls []) := by
  obtain ⟨hx, hb, -, -, -, -, -, -, -, -⟩ := id X.1
  obtain ⟨η, ζ, L, M, Θ, Ξ, h, g, hB, hN, hNR, hH, hG, ⟨ea, er⟩, ⟨R, RP⟩⟩ := hI
  obtain ⟨hLn, hMn, hLM, hLb, hMb⟩ := id hB
  obtain ⟨C0, hN3, hKW, hZ⟩ := id X
  have S := lw_S C0
  have hts := S.2.2.2.2
  have htz : ∀ w ∈ zTW, w.before #[Value.ref b] s = true := fun w hw => hts w (List.mem_cons_of_mem _ hw)
  obtain ⟨bb, bm, bl, -⟩ := cT_b hH hN.2.2.2.1 R
  obtain ⟨gb, g1, g4⟩ := rBd_of hG hNR
  obtain ⟨-, p63, -, -⟩ := rP_of hG hNR
  have hIm : ∀ k, k < 3 → h 2 k = -1 ∨ (h 2 k = ((1000 * (k + 1) + 3 : Nat) : Int) ∧ cPb (1000 * (k + 1)) h) := fun k hk => by
    rcases R.2.2.2 k hk with q | ⟨-, q2, q3, -⟩
    · exact Or.inl q.2
    · exact Or.inr ⟨q2, q3⟩
  refine lv_aload_n hx hb dL_1527 rfl (lv_at hl 2 rfl) ?_
  refine lw_arg X.1 X.2.1 hS hl 1 hi (by decide) (by decide +kernel) dL_1528 dL_1529 dL_1530 dL_1531 dL_1532 ?_
  obtain ⟨p0, hp0⟩ := zH_get hH hN.2.2.2.1 zkd_63 (by decide)
  rw [zE_o rfl] at hp0
  rw [← ea] at hl ⊢
  refine va_calli (va_runV (C := RX11) (n := 1) (As := [.int (xs (i + 1))]) (rest := []) (bytes := cX11_again) (maxL := 2) (ret := some .boolean) S (c_again l (x := xs (i + 1)) (h := h) (D := D) (cy := cy) (tb := tb) (adK := adK) (adV := adV) (fv := fv) hLn hLb hN R.1 hIm) ⟨callB_of _ hts (z_good zTW_good zw_X11_again.1.2.1) rfl rfl rfl (htz _ zw_X11_again.1.1) (htz _ zlL_145) ⟨zw_X11_again.1.2.2.1.1, zw_X11_again.1.2.2.1.2, zw_X11_again.1.2.2.2⟩ ⟨by decide +kernel, by decide +kernel⟩, htz _ zw_X11_again.2.1, htz _ zw_X11_again.2.2⟩ ⟨fb_ag, va_recv hKW.1 hH.1 rfl hp0, fun U hU hW => ⟨rfl, by rw [hU]; exact hH, hKW.warm hW, hZ.go hW (fun q h1 h2 => by rw [hU]; exact hS.2.1 q h1 h2)⟩⟩ rfl rfl hl.1 rfl (lv_room (Nat.le_of_ble_eq_true rfl)) dL_1533 hcs) hS (fun q _ h9 => hLb q h9) hLb (fun v8 u8 t8 H8 locs8 ht8 hvm8 w8 hB8 hz8 hk8 hS8 => ?_)
  subst w8
  have hG8 : zH ζ zkdm D vwCl cy M Ξ g H8 := zH_kept hG (fun q hq => hk8 q (zH_lt hG hq) (fun z => hLM q z hq))
  rw [ht8] at hB8
  rw [ea] at hl
  refine lv_pop hx hb dL_1536 rfl ?_
  refine lv_aload_n hx hb dL_1537 rfl (lv_at hl 1 rfl) ?_
  refine lw_arg X.1 X.2.1 hS8 hl 1 hi (by decide) (by decide +kernel) dL_1538 dL_1539 dL_1540 dL_1541 dL_1542 ?_
  rcases hB8 with ⟨w0, w1, hH8⟩ | ⟨k, hk, hxk, w1, h2k, h2, hH8, ht9⟩
  · obtain ⟨e2, R2⟩ := RR_againN (m := 1000) R bl bm.2 p63 w0
    refine lwRf (η := η) (As := [(xs (i + 1)).toInt]) X (m_X12_again l) (ycv_of yw_X12_again 148 dL_1543 zlL_148 rfl (by decide +kernel) (by decide +kernel) (zk_ex (kk := 35) (ts := [0]) _ _ rfl (zkR ⟨35, by decide⟩) rfl rfl rfl)) rfl (fun _ hx => by
      simp only [List.mem_cons, List.not_mem_nil, or_false] at hx
      rcases hx with rfl <;> exact ⟨z_lo _, z_hi _⟩) hB hNR hH8 hG8 er e2 hS8 hcs hl (rest := []) (by decide) (by simp only [List.map_cons, List.map_nil, List.reverse_cons, List.reverse_nil, List.nil_append, List.cons_append, z_ofi]) (fun H9 locs9 hH9 hG9 hS9 => ?_)
    refine lv_pop hx hb dL_1546 rfl ?_
    refine lv_goto (tgt := 1550) hx hb dL_1547 (by decide) ?_
    exact K H9 locs9 ⟨η, ζ, L, M, Θ, Ξ, h, _, hB, hN, hNR, hH9, hG9, ⟨ea, er⟩, ⟨R2, fun f => (RP f).r (fun a j w1 w2 => zup_ne (by omega))⟩⟩ hS9
  · obtain ⟨g2, e2, R2⟩ := RR_again (m := 1000) (by decide) hk R h2k bl bm.2 gb p63 ht9
    rw [← hxk] at e2
    refine lwRf (η := η) (As := [(xs (i + 1)).toInt]) X (m_X12_again l) (ycv_of yw_X12_again 148 dL_1543 zlL_148 rfl (by decide +kernel) (by decide +kernel) (zk_ex (kk := 35) (ts := [0]) _ _ rfl (zkR ⟨35, by decide⟩) rfl rfl rfl)) rfl (fun _ hx => by
      simp only [List.mem_cons, List.not_mem_nil, or_false] at hx
      rcases hx with rfl <;> exact ⟨z_lo _, z_hi _⟩) hB hNR hH8 hG8 er e2 hS8 hcs hl (rest := []) (by decide) (by simp only [List.map_cons, List.map_nil, List.reverse_cons, List.reverse_nil, List.nil_append, List.cons_append, z_ofi]) (fun H9 locs9 hH9 hG9 hS9 => ?_)
    refine lv_pop hx hb dL_1546 rfl ?_
    refine lv_goto (tgt := 1550) hx hb dL_1547 (by decide) ?_
    exact K H9 locs9 ⟨η, ζ, L, M, Θ, Ξ, h2, g2, hB, hN.keep (fun k => ht9.2.2.2.2.2.2.2.2.2 _ _ (by omega)), hNR, hH9, hG9, ⟨ea, er⟩, ⟨R2, fun f => ⟨(RP f).1.fr (fun a j w => ht9.2.2.2.2.2.2.2.2.2 _ _ (by omega)), frH_again (m := 1000) (by decide) R.2.1 gb p63 e2 (RP f).2⟩⟩⟩ hS9
