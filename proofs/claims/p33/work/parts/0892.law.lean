set_option maxHeartbeats 4000000 in
theorem lwc_0 {η : zRn} {p : Program} {l : Launch} {e : Env} {s : State} {m : MethodId} {below : List Frame} {meth : Method} {c : Code} {b N : Nat} {xs : Nat → Int32} {Q : State → Prop} {H : Heap} {locs : List Loc} {cells slots : Nat} {ls : Array Slot} {a r i : Nat} {D : va_G} {cy : Nat → ClassId} {tb adK adV : Nat → Nat} {fv : Option Nat} (X : lwX l p s m meth c b N xs η D cy tb adK adV fv) (ha1 : a < 1000000) (hr1 : r < 1000000) (hi : i + 6 ≤ N) (hI : lwI s η D cy a r H) (hS : va_S (fun q => s.heap.size ≤ q) s.heap H locs) (hcs : cells ≤ 600000 ∧ slots ≤ 7302250) (hl : lwL ls η a r i b)
    (K : ∀ (H1 : Heap) (locs1 : List Loc), lwI s η D cy a r H1 → va_S (fun q => s.heap.size ≤ q) s.heap H1 locs1 → W p l e room_1 s m #[Value.ref b] below meth c H1 locs1 (cells) (slots) Q (F0 m 1550 ls [])) : W p l e room_1 s m #[Value.ref b] below meth c H locs cells slots Q (F0 m 176 ls []) := by
  obtain ⟨hx, hb, -, -, -, -, -, -, -, -⟩ := id X.1
  obtain ⟨L, M, Θ, Ξ, h, g, hB, hH, hG, ha, hr, hR, hJ⟩ := hI
  refine lv_aload_n hx hb dL_176 rfl (lv_at hl 2 rfl) ?_
  refine lw_arg X.1 X.2.1 hS hl 1 hi (by decide) (by decide +kernel) dL_177 dL_178 dL_179 dL_180 dL_181 ?_
  refine lw_arg X.1 X.2.1 hS hl 2 hi (by decide) (by decide +kernel) dL_182 dL_183 dL_184 dL_185 dL_186 ?_
  refine lw_arg X.1 X.2.1 hS hl 3 hi (by decide) (by decide +kernel) dL_187 dL_188 dL_189 dL_190 dL_191 ?_
  refine lw_arg X.1 X.2.1 hS hl 4 hi (by decide) (by decide +kernel) dL_192 dL_193 dL_194 dL_195 dL_196 ?_
  refine lw_arg X.1 X.2.1 hS hl 5 hi (by decide) (by decide +kernel) dL_197 dL_198 dL_199 dL_200 dL_201 ?_
  refine lwC (As := [(xs (i + 1)).toInt, (xs (i + 2)).toInt, (xs (i + 3)).toInt, (xs (i + 4)).toInt, (xs (i + 5)).toInt]) (T := [h a 0, h (h a 0).toNat 0, cLn h a]) (ivs := [(-2147483648, 2147483647), (-2147483648, 2147483647), (-2147483648, 2147483647), (-2147483648, 2147483647), (-2147483648, 2147483647)]) (Tiv := [(0, 2147483647), (0, 2147483647), (0, 600)]) X (zp_X11_feed_0 l) (zcv_2 zw_X11_feed zr_X11_feed_0 13 dL_202 zlL_13 (by decide +kernel) (by decide +kernel)) rfl rfl rfl (by decide) (zg_c (z_lo _) (z_hi _) (zg_c (z_lo _) (z_hi _) (zg_c (z_lo _) (z_hi _) (zg_c (z_lo _) (z_hi _) (zg_c (z_lo _) (z_hi _) zg_n))))) (tIv_ok hH ha) (by decide +kernel) ha1 hB hH hG ha (tOv_ok (n := 7) rfl hH ha) hS hcs hl (rest := []) (by decide) (by simp only [List.map_cons, List.map_nil, List.reverse_cons, List.reverse_nil, List.nil_append, List.cons_append, z_ofi]) (fun out q ρ h8 H8 locs8 ho hq oE oV oH oX oG oS => ?_)
  have b9 := z_gdn (a := a) (As := [(xs (i + 1)).toInt, (xs (i + 2)).toInt, (xs (i + 3)).toInt, (xs (i + 4)).toInt, (xs (i + 5)).toInt]) (T := [h a 0, h (h a 0).toNat 0, cLn h a]) (ρ := ρ) (n := 7) (j := 2) rfl (by simp)
  have e8 : ∃ v : Int, Int32.ofInt (zev ((([0, (a : Int)] ++ [(xs (i + 1)).toInt, (xs (i + 2)).toInt, (xs (i + 3)).toInt, (xs (i + 4)).toInt, (xs (i + 5)).toInt]) ++ [h a 0, h (h a 0).toNat 0, cLn h a]) ++ ρ) q) = Int32.ofInt v ∧ ((581 ≤ cLn h a ∧ v = -1 ∧ cLn h8 a = cLn h a) ∨ (cLn h a ≤ 580 ∧ v = cLn h a + 20 ∧ cLn h8 a = cLn h a + 20)) := by
    rcases List.mem_cons.mp ho with rfl | ho
    · have e9 := (oE.2 9 (581, 600) rfl).1
      rw [b9] at e9
      have eq : q = (0, 0, -1) := (List.cons.inj hq).1.symm
      have en := cTl_ok (v := (0, 9, 0)) oV z_gd1 (by decide +kernel)
      refine ⟨-1, by rw [eq]; rfl, Or.inl ⟨e9, rfl, ?_⟩⟩
      rw [en]
      show _ + (0 : Int) = _
      rw [b9, Int.add_zero]
      rfl
    · rcases List.mem_cons.mp ho with rfl | ho
      · have e9 := (oE.2 9 (0, 580) rfl).2
        rw [b9] at e9
        have eq : q = (0, 9, 20) := (List.cons.inj hq).1.symm
        have en := cTl_ok (v := (0, 9, 20)) oV z_gd1 (by decide +kernel)
        refine ⟨cLn h a + 20, ?_, Or.inr ⟨e9, rfl, ?_⟩⟩
        · rw [eq]
          show Int32.ofInt (_ + 20) = _
          rw [b9]
          rfl
        · rw [en]
          show _ + (20 : Int) = _
          rw [b9]
          rfl
      · cases ho
  obtain ⟨v8, ev8, hv8⟩ := e8
  refine tp_i _ ev8 ?_
  refine lv_pop hx hb dL_205 rfl ?_
  refine lv_aload_n hx hb dL_206 rfl (lv_at hl 1 rfl) ?_
  refine lw_arg X.1 X.2.1 oS hl 1 hi (by decide) (by decide +kernel) dL_207 dL_208 dL_209 dL_210 dL_211 ?_
  refine lw_arg X.1 X.2.1 oS hl 2 hi (by decide) (by decide +kernel) dL_212 dL_213 dL_214 dL_215 dL_216 ?_
  refine lw_arg X.1 X.2.1 oS hl 3 hi (by decide) (by decide +kernel) dL_217 dL_218 dL_219 dL_220 dL_221 ?_
  refine lw_arg X.1 X.2.1 oS hl 4 hi (by decide) (by decide +kernel) dL_222 dL_223 dL_224 dL_225 dL_226 ?_
  refine lw_arg X.1 X.2.1 oS hl 5 hi (by decide) (by decide +kernel) dL_227 dL_228 dL_229 dL_230 dL_231 ?_
  refine lwR (As := [(xs (i + 1)).toInt, (xs (i + 2)).toInt, (xs (i + 3)).toInt, (xs (i + 4)).toInt, (xs (i + 5)).toInt]) (T := [g r 2, rSz g r 0]) (ivs := [(-2147483648, 2147483647), (-2147483648, 2147483647), (-2147483648, 2147483647), (-2147483648, 2147483647), (-2147483648, 2147483647)]) (Tiv := [(0, 2147483647), (0, 600)]) X (zp_X12_feed_0 l) (zcv_2 zw_X12_feed zr_X12_feed_0 17 dL_232 zlL_17 (by decide +kernel) (by decide +kernel)) rfl rfl rfl (by decide) (zg_c (z_lo _) (z_hi _) (zg_c (z_lo _) (z_hi _) (zg_c (z_lo _) (z_hi _) (zg_c (z_lo _) (z_hi _) (zg_c (z_lo _) (z_hi _) zg_n))))) (uIv_ok oG hr) (by decide +kernel) hr1 hB oH oG hr (uOv_ok (n := 7) rfl oG hr) oS hcs hl (rest := []) (by decide) (by simp only [List.map_cons, List.map_nil, List.reverse_cons, List.reverse_nil, List.nil_append, List.cons_append, z_ofi]) (fun out2 q2 ρ2 g9 H9 locs9 ho2 hq2 oE2 oV2 oH2 oX2 oG2 oS2 => ?_)
  have b8 := z_gdn (a := r) (As := [(xs (i + 1)).toInt, (xs (i + 2)).toInt, (xs (i + 3)).toInt, (xs (i + 4)).toInt, (xs (i + 5)).toInt]) (T := [g r 2, rSz g r 0]) (ρ := ρ2) (n := 7) (j := 1) rfl (by simp)
  have e9 : ∃ v : Int, Int32.ofInt (zev ((([0, (r : Int)] ++ [(xs (i + 1)).toInt, (xs (i + 2)).toInt, (xs (i + 3)).toInt, (xs (i + 4)).toInt, (xs (i + 5)).toInt]) ++ [g r 2, rSz g r 0]) ++ ρ2) q2) = Int32.ofInt v ∧ ((581 ≤ rSz g r 0 ∧ v = -1 ∧ rSz g9 r 0 = rSz g r 0) ∨ (rSz g r 0 ≤ 580 ∧ v = rSz g r 0 + 20 ∧ rSz g9 r 0 = rSz g r 0 + 20)) := by
    rcases List.mem_cons.mp ho2 with rfl | ho2
    · have e9 := (oE2.2 8 (581, 600) rfl).1
      rw [b8] at e9
      have eq : q2 = (0, 0, -1) := (List.cons.inj hq2).1.symm
      have en := jEl_ok (f := 2) (kd := 1) (k := 0) (v := (0, 8, 0)) oV2 z_gd1 (by decide +kernel)
      refine ⟨-1, by rw [eq]; rfl, Or.inl ⟨e9, rfl, ?_⟩⟩
      show g9 (g9 r 2).toNat 0 = _
      rw [en]
      show _ + (0 : Int) = _
      rw [b8, Int.add_zero]
      rfl
    · rcases List.mem_cons.mp ho2 with rfl | ho2
      · have e9 := (oE2.2 8 (0, 580) rfl).2
        rw [b8] at e9
        have eq : q2 = (0, 8, 20) := (List.cons.inj hq2).1.symm
        have en := jEl_ok (f := 2) (kd := 1) (k := 0) (v := (0, 8, 20)) oV2 z_gd1 (by decide +kernel)
        refine ⟨rSz g r 0 + 20, ?_, Or.inr ⟨e9, rfl, ?_⟩⟩
        · rw [eq]
          show Int32.ofInt (_ + 20) = _
          rw [b8]
          rfl
        · show g9 (g9 r 2).toNat 0 = _
          rw [en]
          show _ + (20 : Int) = _
          rw [b8]
          rfl
      · cases ho2
  obtain ⟨v9, ev9, hv9⟩ := e9
  refine tp_i _ ev9 ?_
  have hR0 := hR.1
  have ev : v8 = v9 := by omega
  have hln : rSz g9 r 0 = cLn h8 a := by omega
  subst ev
  refine lv_pop hx hb dL_235 rfl ?_
  refine lv_goto (tgt := 1550) hx hb dL_236 (by decide) ?_
  obtain ⟨-, -, -, e3⟩ := cKp hH ha oX (by decide +kernel)
  refine K H9 locs9 ⟨L, M, Θ, Ξ, h8, g9, hB, oH2, oG2, ha, hr, ⟨hln, fun k hk => ?_⟩, fun t ht => ?_⟩ oS2
  · refine lRk_eq (hR.2 k hk) (e3 k hk).1 (e3 k hk).2 ?_ ?_
    · rcases (show k = 0 ∨ k = 1 ∨ k = 2 by omega) with rfl | rfl | rfl <;> exact rKk oG hr oX2 (by decide +kernel) (by decide +kernel)
    · rcases (show k = 0 ∨ k = 1 ∨ k = 2 by omega) with rfl | rfl | rfl <;> exact rKs oG hr oX2 (by decide +kernel) (by decide +kernel)
  · rcases (show t = 0 ∨ t = 1 ∨ t = 2 ∨ t = 3 by omega) with rfl | rfl | rfl | rfl <;> exact rKj oG hr oX2 (by decide +kernel) (by decide +kernel) (hJ _ (by decide))
set_option maxHeartbeats 4000000 in
theorem lwc_1 {η : zRn} {p : Program} {l : Launch} {e : Env} {s : State} {m : MethodId} {below : List Frame} {meth : Method} {c : Code} {b N : Nat} {xs : Nat → Int32} {Q : State → Prop} {H : Heap} {locs : List Loc} {cells slots : Nat} {ls : Array Slot} {a r i : Nat} {D : va_G} {cy : Nat → ClassId} {tb adK adV : Nat → Nat} {fv : Option Nat} (X : lwX l p s m meth c b N xs η D cy tb adK adV fv) (ha1 : a < 1000000) (hr1 : r < 1000000) (hi : i + 6 ≤ N) (hI : lwI s η D cy a r H) (hS : va_S (fun q => s.heap.size ≤ q) s.heap H locs) (hcs : cells ≤ 600000 ∧ slots ≤ 7302250) (hl : lwL ls η a r i b)
    (K : ∀ (H1 : Heap) (locs1 : List Loc), lwI s η D cy a r H1 → va_S (fun q => s.heap.size ≤ q) s.heap H1 locs1 → W p l e room_1 s m #[Value.ref b] below meth c H1 locs1 (cells) (slots) Q (F0 m 1550 ls [])) : W p l e room_1 s m #[Value.ref b] below meth c H locs cells slots Q (F0 m 239 ls []) := by
  obtain ⟨hx, hb, -, -, -, -, -, -, -, -⟩ := id X.1
  obtain ⟨L, M, Θ, Ξ, h, g, hB, hH, hG, ha, hr, hR, hJ⟩ := hI
  obtain ⟨hLn, hMn, hLM, hLb, hMb, hNm⟩ := id hB
  obtain ⟨C0, hN, hη, hKW, hZ⟩ := id X
  have S := lw_S C0
  have hts := S.2.2.2.2
  have htz : ∀ w ∈ zTW, w.before #[Value.ref b] s = true := fun w hw => hts w (List.mem_cons_of_mem _ hw)
  refine lv_aload_n hx hb dL_239 rfl (lv_at hl 2 rfl) ?_
  refine lw_arg X.1 X.2.1 hS hl 1 hi (by decide) (by decide +kernel) dL_240 dL_241 dL_242 dL_243 dL_244 ?_
  obtain ⟨p0, hp0⟩ := zH_get hH ha zkd_63 (by decide)
  rw [zE_o rfl] at hp0
  refine va_calli (va_runV (C := RX11) (n := 1) (As := [.int (xs (i + 1))]) (rest := []) (bytes := cX11_end) (maxL := 2) (ret := some .int) S (c_end l (x := xs (i + 1)) (h := h) hLn ha) ⟨callB_of _ hts (z_good zTW_good zw_X11_end.1.2.1) rfl rfl rfl (htz _ zw_X11_end.1.1) (htz _ zlL_18) ⟨zw_X11_end.1.2.2.1.1, zw_X11_end.1.2.2.1.2, zw_X11_end.1.2.2.2⟩ ⟨by decide +kernel, by decide +kernel⟩, htz _ zw_X11_end.2.1, htz _ zw_X11_end.2.2⟩ ⟨fb_zH, va_recv hKW.1 hH.1 rfl hp0, fun U hU hW => ⟨rfl, by rw [hU]; exact hH, hKW.warm hW⟩⟩ rfl rfl hl.1 rfl (lv_room (Nat.le_of_ble_eq_true rfl)) dL_245 hcs) hS (fun q _ h9 => hLb q h9) hLb (fun v8 h8 t8 H8 locs8 ht8 hvm8 hp8 hB8 hz8 hk8 hS8 => ?_)
  obtain ⟨w1, w2, w3⟩ := hp8
  rw [ht8] at hB8
  have hG8 : zH η zkdm D vwCl cy M Ξ g H8 := zH_kept hG (fun q hq => hk8 q (zH_lt hG hq) (fun z => hLM q z hq))
  refine lv_pop hx hb dL_248 rfl ?_
  refine lv_aload_n hx hb dL_249 rfl (lv_at hl 1 rfl) ?_
  refine lw_arg X.1 X.2.1 hS8 hl 1 hi (by decide) (by decide +kernel) dL_250 dL_251 dL_252 dL_253 dL_254 ?_
  obtain ⟨p9, hp9⟩ := zH_get hG8 hr zkm_35 (by decide +kernel)
  rw [zE_o rfl] at hp9
  refine va_calli (va_runV (C := RX12) (n := 1) (As := [.int (xs (i + 1))]) (rest := []) (bytes := cX12_end) (maxL := 2) (ret := some .int) S (r_end l (x := xs (i + 1)) (g := g) hMn hr) ⟨callB_of _ hts (z_good zTW_good zw_X12_end.1.2.1) rfl rfl rfl (htz _ zw_X12_end.1.1) (htz _ zlL_22) ⟨zw_X12_end.1.2.2.1.1, zw_X12_end.1.2.2.1.2, zw_X12_end.1.2.2.2⟩ ⟨by decide +kernel, by decide +kernel⟩, htz _ zw_X12_end.2.1, htz _ zw_X12_end.2.2⟩ ⟨fb_zH, va_recv hKW.1 hG8.1 rfl hp9, fun U hU hW => ⟨rfl, by rw [hU]; exact hG8, hKW.warm hW⟩⟩ rfl rfl hl.1 rfl (lv_room (Nat.le_of_ble_eq_true rfl)) dL_255 hcs) hS8 (fun q _ h9 => hMb q h9) hMb (fun v9 g9 t9 H9 locs9 ht9 hvm9 hq9 hB9 hz9 hk9 hS9 => ?_)
  obtain ⟨u1, u2, u3⟩ := hq9
  rw [ht9] at hB9
  have hH9 : zH η zkds D vwCl cy L Θ h8 H9 := zH_kept hB8 (fun q hq => hk9 q (zH_lt hB8 hq) (fun z => hLM q hq z))
  have c0 := cP0 hH ha
  have c1 := cP1 hH ha
  have c2 := cP2 hH ha
  have q2 := rP2 hG hr
  have hne2 : (g r 2).toNat ≠ r := fun q => by rw [q, hr] at q2; cases q2.2
  -- the class
  have A8 : (v8 = -1 → cLn h8 a = cLn h a) ∧ (v8 ≠ -1 → cLn h8 a = (xs (i + 1)).toInt) ∧ ∀ k, k < 3 → cIm h8 a k = cIm h a k ∧ (0 ≤ cIm h a k → cIl h8 a k = cIl h a k) := by
    by_cases hv : v8 = -1
    · have := w2 hv
      subst this
      exact ⟨fun _ => rfl, fun q => absurd hv q, fun k hk => ⟨rfl, fun _ => rfl⟩⟩
    · have e8 := w3 hv
      have oX : ∀ q kk j, Θ q = some kk → zinE [(1, 1, 1)] kk j j = false → h8 q j = h q j := fun q kk j hq hz => by
        rw [e8, zup_ne]
        rintro ⟨rfl, rfl⟩
        rw [c2.2] at hq
        cases hq
        revert hz
        decide
      obtain ⟨f0, f1, f2, f3⟩ := cKp hH ha oX (by decide)
      refine ⟨fun q => absurd q hv, fun _ => ?_, f3⟩
      unfold cLn
      rw [f0, f2, e8, zup_at]
  have B9 : (v9 = -1 → rSz g9 r 0 = rSz g r 0) ∧ (v9 ≠ -1 → rSz g9 r 0 = (xs (i + 1)).toInt) ∧ (∀ q kk j, Ξ q = some kk → zinE [(1, 0, 0), (35, 0, 0)] kk j j = false → g9 q j = g q j) := by
    have eX : ∀ q kk j, Ξ q = some kk → zinE [(1, 0, 0), (35, 0, 0)] kk j j = false → zup g r 0 0 q j = g q j := fun q kk j hq hz => by
      rw [zup_ne]
      rintro ⟨rfl, rfl⟩
      rw [hr] at hq
      cases hq
      revert hz
      decide
    have e2 : zup g r 0 0 r 2 = g r 2 := eX r 35 2 hr (by decide)
    by_cases hv : v9 = -1
    · have e9 := u2 hv
      refine ⟨fun _ => ?_, fun q => absurd hv q, fun q kk j hq hz => by rw [e9]; exact eX q kk j hq hz⟩
      unfold rSz
      rw [e9, e2]
      exact zup_ne (fun q => hne2 q.1)
    · have e9 := u3 hv
      refine ⟨fun q => absurd q hv, fun _ => ?_, fun q kk j hq hz => ?_⟩
      · unfold rSz
        have : g9 r 2 = g r 2 := by rw [e9, zup_ne (fun q => hne2 q.1.symm)]; exact e2
        rw [this, e9, zup_at]
      · rw [e9, zup_ne]
        · exact eX q kk j hq hz
        · rintro ⟨rfl, rfl⟩
          rw [q2.2] at hq
          cases hq
          revert hz
          decide
  obtain ⟨A1, A2, A3⟩ := A8
  obtain ⟨B1, B2, oX2⟩ := B9
  have hR0 := hR.1
  have hln : rSz g9 r 0 = cLn h8 a := by
    have hm : (-1 : Int32).toInt = -1 := rfl
    rcases w1 with ⟨d1, d2, d3⟩ | ⟨d1, d3⟩
    · rcases u1 with ⟨f1, f2, f3⟩ | ⟨f1, f3⟩
      · have n8 : v8 ≠ -1 := fun q => by rw [d3] at q; rw [q, hm] at d1; omega
        have n9 : v9 ≠ -1 := fun q => by rw [f3] at q; rw [q, hm] at d1; omega
        rw [A2 n8, B2 n9]
      · rw [hR0] at f1
        exact absurd ⟨d1, d2⟩ f1
    · rcases u1 with ⟨f1, f2, f3⟩ | ⟨f1, f3⟩
      · rw [hR0] at f2
        exact absurd ⟨f1, f2⟩ d1
      · rw [A1 d3, B1 f3]
        exact hR0
  have hvv : v9 = v8 := by
    rcases w1 with ⟨d1, d2, d3⟩ | ⟨d1, d3⟩
    · rcases u1 with ⟨f1, f2, f3⟩ | ⟨f1, f3⟩
      · rw [d3, f3]
      · rw [hR0] at f1
        exact absurd ⟨d1, d2⟩ f1
    · rcases u1 with ⟨f1, f2, f3⟩ | ⟨f1, f3⟩
      · rw [hR0] at f2
        exact absurd ⟨f1, f2⟩ d1
      · rw [d3, f3]
  refine lv_pop hx hb dL_258 rfl ?_
  refine lv_goto (tgt := 1550) hx hb dL_259 (by decide) ?_
  refine K H9 locs9 ⟨L, M, Θ, Ξ, h8, g9, hB, hH9, hB9, ha, hr, ⟨hln, fun k hk => ?_⟩, fun t ht => ?_⟩ hS9
  · refine lRk_eq (hR.2 k hk) (A3 k hk).1 (A3 k hk).2 ?_ ?_
    · rcases (show k = 0 ∨ k = 1 ∨ k = 2 by omega) with rfl | rfl | rfl <;> exact rKk hG hr oX2 (by decide +kernel) (by decide +kernel)
    · rcases (show k = 0 ∨ k = 1 ∨ k = 2 by omega) with rfl | rfl | rfl <;> exact rKs hG hr oX2 (by decide +kernel) (by decide +kernel)
  · rcases (show t = 0 ∨ t = 1 ∨ t = 2 ∨ t = 3 by omega) with rfl | rfl | rfl | rfl <;> exact rKj hG hr oX2 (by decide +kernel) (by decide +kernel) (hJ _ (by decide))
