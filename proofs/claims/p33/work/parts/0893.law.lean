set_option maxRecDepth 100000 in
theorem zq_X11_image : lw_tbl[1278]? = some (.code yX11_image cX11_image 2 (some .boolean)) := rfl
theorem zw_X11_image : zMV yX11_image cX11_image 2 (some .boolean) 1 := ⟨⟨zTin 101 (by decide +kernel) rfl, zTin 1278 zq_X11_image rfl, ⟨by decide, by decide⟩, by decide +kernel⟩, zTin 1276 (by decide +kernel) rfl, zTin 1277 (by decide +kernel) rfl⟩
def txr (outs : List zAS) : Bool := outs.all (fun o => jB o 0 && decide (jEl o.2.2.2.1 2 1 0 = some (0, 0, 0)))
def txc (outs : List zAS) : Bool := outs.all (fun o => decide (cTl o.2.2.2.1 = some (0, 0, 0)))
theorem z_evc {a : Nat} {As T ρ : List Int} {x : Int} : zev ((([0, (a : Int)] ++ As) ++ T) ++ ρ) (0, 0, x) = x := by
  unfold zev
  simp
theorem z_ev0 {a : Nat} {As T ρ : List Int} : zev ((([0, (a : Int)] ++ As) ++ T) ++ ρ) (0, 0, 0) = 0 := by
  unfold zev
  simp
set_option maxHeartbeats 4000000 in
theorem lwc_2 {η : zRn} {p : Program} {l : Launch} {e : Env} {s : State} {m : MethodId} {below : List Frame} {meth : Method} {c : Code} {b N : Nat} {xs : Nat → Int32} {Q : State → Prop} {H : Heap} {locs : List Loc} {cells slots : Nat} {ls : Array Slot} {a r i : Nat} {D : va_G} {cy : Nat → ClassId} {tb adK adV : Nat → Nat} {fv : Option Nat} (X : lwX l p s m meth c b N xs η D cy tb adK adV fv) (ha1 : a < 1000000) (hr1 : r < 1000000) (hi : i + 6 ≤ N) (hI : lwI s η D cy a r H) (hS : va_S (fun q => s.heap.size ≤ q) s.heap H locs) (hcs : cells ≤ 600000 ∧ slots ≤ 7302250) (hl : lwL ls η a r i b)
    (K : ∀ (H1 : Heap) (locs1 : List Loc), lwI s η D cy a r H1 → va_S (fun q => s.heap.size ≤ q) s.heap H1 locs1 → W p l e room_1 s m #[Value.ref b] below meth c H1 locs1 (cells) (slots) Q (F0 m 1550 ls [])) : W p l e room_1 s m #[Value.ref b] below meth c H locs cells slots Q (F0 m 262 ls []) := by
  obtain ⟨hx, hb, -, -, -, -, -, -, -, -⟩ := id X.1
  obtain ⟨L, M, Θ, Ξ, h, g, hB, hH, hG, ha, hr, hR, hJ⟩ := hI
  refine lv_aload_n hx hb dL_262 rfl (lv_at hl 2 rfl) ?_
  refine lw_arg X.1 X.2.1 hS hl 1 hi (by decide) (by decide +kernel) dL_263 dL_264 dL_265 dL_266 dL_267 ?_
  refine lw_arg X.1 X.2.1 hS hl 2 hi (by decide) (by decide +kernel) dL_268 dL_269 dL_270 dL_271 dL_272 ?_
  refine lwC (As := [(xs (i + 1)).toInt, (xs (i + 2)).toInt]) (T := []) (ivs := [(-2147483648, 2147483647), (-2147483648, 2147483647)]) (Tiv := []) X (zp_X11_text_0 l) (zcv_2 zw_X11_text zr_X11_text_0 23 dL_273 zlL_23 (by decide +kernel) (by decide +kernel)) rfl rfl rfl (by decide) (zg_c (z_lo _) (z_hi _) (zg_c (z_lo _) (z_hi _) zg_n)) zg_n (by decide +kernel) ha1 hB hH hG ha z_ov0 hS hcs hl (rest := []) (by decide) (by simp only [List.map_cons, List.map_nil, List.reverse_cons, List.reverse_nil, List.nil_append, List.cons_append, z_ofi]) (fun out q ρ h8 H8 locs8 ho hq oE oV oH oX oG oS => ?_)
  have e8 : cLn h8 a = 0 := by
    have hc : txc zk_X11_text_0.2.2.2.1 = true := by decide +kernel
    have := of_decide_eq_true (List.all_eq_true.mp hc out ho)
    rw [cTl_ok oV z_gd1 this]
    exact z_ev0
  obtain ⟨-, -, -, e3⟩ := cKp hH ha oX (by decide +kernel)
  clear ho hq oE oV oX
  refine lv_pop hx hb dL_276 rfl ?_
  refine lv_aload_n hx hb dL_277 rfl (lv_at hl 1 rfl) ?_
  refine lw_arg X.1 X.2.1 oS hl 1 hi (by decide) (by decide +kernel) dL_278 dL_279 dL_280 dL_281 dL_282 ?_
  refine lw_arg X.1 X.2.1 oS hl 2 hi (by decide) (by decide +kernel) dL_283 dL_284 dL_285 dL_286 dL_287 ?_
  have p5 := rP5 oG hr
  have p6 := rP6 oG hr
  have p2 := rP2 oG hr
  have u5 : g r 5 ≤ 2147483647 := (zH_in oG hr zkm_35 (j := 5) (by decide +kernel)).2.2
  have u6 : g r 6 ≤ 2147483647 := (zH_in oG hr zkm_35 (j := 6) (by decide +kernel)).2.2
  have u2 : g r 2 ≤ 2147483647 := (zH_in oG hr zkm_35 (j := 2) (by decide +kernel)).2.2
  have m0 := rBm oG hr (k := 0) (by decide)
  have m1 := rBm oG hr (k := 1) (by decide)
  have m2 := rBm oG hr (k := 2) (by decide)
  have s0 := rBe0 oG hr (k := 0) (by decide)
  have s5 := rBe0 oG hr (k := 50) (by decide)
  have s4 := rBe4 oG hr (k := 4) (by decide)
  have s9 := rBe4 oG hr (k := 54) (by decide)
  have z0 := rBs oG hr (k := 0) (by decide)
  have J0 := hJ 0 (by decide)
  have go : ∀ {C : zCT} {n0 t0 t4 t5 t9 : zIV}, zMet zkdm vwCl zTW zKPr l C → zCV zkdm vwCl zTW RL code room_1.frames room_1.locals 288 C → C.2.2.1.1 = zea 37 2 → C.2.2.1.2.1 = ([(0, 0), (0, 2147483647)] ++ [(-2147483648, 2147483647), (-2147483648, 2147483647)]) ++ ([(0, 2147483647), n0, (0, 2), (0, 2), (0, 2147483647), t0, t4, t5, t9] ++ [(0, 2147483647), (0, 600)]) → C.2.2.1.2.2.2.2.2 = [] → C.2.2.1.2.2.2.2.1 = sOv 4 ++ [((35, 1), 2, (3, 4 + 9, 0)), ((1, 4 + 9), 0, (0, 4 + 10, 0))] → zone1 C.2.2.2.1 = true → txr C.2.2.2.1 = true → (effr C.2.2.2.2 && (effb C.2.2.2.2 1 && effb C.2.2.2.2 2 && effb C.2.2.2.2 3) && (!(zinE C.2.2.2.2 34 0 0) && !(zinE C.2.2.2.2 34 1 1) && !(zinE C.2.2.2.2 34 2 2))) = true →
      n0.1 ≤ rMn g r 0 ∧ rMn g r 0 ≤ n0.2 → t0.1 ≤ rSe g r 0 ∧ rSe g r 0 ≤ t0.2 → t4.1 ≤ rSe g r 4 ∧ rSe g r 4 ≤ t4.2 → t5.1 ≤ rSe g r 50 ∧ rSe g r 50 ≤ t5.2 → t9.1 ≤ rSe g r 54 ∧ rSe g r 54 ≤ t9.2 →
      W p l e room_1 s m #[Value.ref b] below meth c H8 locs8 cells slots Q (F0 m 288 ls [.int (xs (i + 2)), .int (xs (i + 1)), .ref (η.1 r)]) := by
    intro C n0 t0 t4 t5 t9 hM hC k1 k2 k3 k4 k5 k6 k7 hn h0 h4 h5 h9
    refine lwR (As := [(xs (i + 1)).toInt, (xs (i + 2)).toInt]) (T := sTv g r ++ [g r 2, rSz g r 0]) X hM hC k1 k2 k3 (by decide) (zg_c (z_lo _) (z_hi _) (zg_c (z_lo _) (z_hi _) zg_n)) ?_ k5 hr1 hB oH oG hr ?_ oS hcs hl (rest := []) (by decide) (by simp only [List.map_cons, List.map_nil, List.reverse_cons, List.reverse_nil, List.nil_append, List.cons_append, z_ofi]) (fun out2 q2 ρ2 g9 H9 locs9 ho2 hq2 oE2 oV2 oH2 oX2 oG2 oS2 => ?_)
    · exact zg_app (zg_c p5.1 u5 (zg_c hn.1 hn.2 (zg_c m1.1 m1.2 (zg_c m2.1 m2.2 (zg_c p6.1 u6 (zg_c h0.1 h0.2 (zg_c h4.1 h4.2 (zg_c h5.1 h5.2 (zg_c h9.1 h9.2 zg_n))))))))) (zg_c p2.1 u2 (zg_c z0.1 z0.2 zg_n))
    · rw [k4]
      refine zgv_app (sOv_ok (As := [(xs (i + 1)).toInt, (xs (i + 2)).toInt]) oG hr) ?_
      refine z_ovp (n := 4) (j := 9) (kd := 1) rfl (Nat.le_of_ble_eq_true rfl) hr rfl p2 rfl ?_
      exact z_ovn (n := 4) (j := 9) (jj := 10) (q := (g r 2).toNat) (A := 0) (B := 600) rfl (Nat.le_of_ble_eq_true rfl) (Nat.le_of_ble_eq_true rfl) (by show g r 2 = _; omega) p2.2 rfl z0 (by decide) (by decide) z_ov0
    · have ht := List.all_eq_true.mp k6 out2 ho2
      simp only [Bool.and_eq_true, decide_eq_true_eq] at ht
      have e9 : rSz g9 r 0 = 0 := by
        show g9 (g9 r 2).toNat 0 = 0
        rw [jEl_ok oV2 z_gd1 ht.2]
        exact z_ev0
      have J9 : lJb g9 r 0 := jB_ok oE2 oV2 z_gd1 ht.1
      simp only [Bool.and_eq_true, Bool.not_eq_true'] at k7
      obtain ⟨⟨f0, ⟨f1, f2⟩, f3⟩, ⟨f4, f5⟩, f6⟩ := k7
      have b1 := rKb oG hr oX2 f0 f1
      have b2 := rKb oG hr oX2 f0 f2
      have b3 := rKb oG hr oX2 f0 f3
      refine lv_pop hx hb dL_291 rfl ?_
      refine lv_goto (tgt := 1550) hx hb dL_292 (by decide) ?_
      refine K H9 locs9 ⟨L, M, Θ, Ξ, h8, g9, hB, oH2, oG2, ha, hr, ⟨by rw [e8, e9], fun k hk => ?_⟩, fun t ht => ?_⟩ oS2
      · refine lRk_eq (hR.2 k hk) (e3 k hk).1 (e3 k hk).2 ?_ ?_
        · rcases (show k = 0 ∨ k = 1 ∨ k = 2 by omega) with rfl | rfl | rfl
          · exact rKk oG hr oX2 f0 f4
          · exact rKk oG hr oX2 f0 f5
          · exact rKk oG hr oX2 f0 f6
        · rcases (show k = 0 ∨ k = 1 ∨ k = 2 by omega) with rfl | rfl | rfl
          · exact b1.1
          · exact b2.1
          · exact b3.1
      · rcases (show t = 0 ∨ t = 1 ∨ t = 2 ∨ t = 3 by omega) with rfl | rfl | rfl | rfl
        · exact J9
        · exact b1.J (hJ 1 (by decide))
        · exact b2.J (hJ 2 (by decide))
        · exact b3.J (hJ 3 (by decide))
  have j1 : 0 < rMn g r 0 → 2 ≤ rSe g r 0 ∧ 1 ≤ rSe g r 4 := J0.1
  have j2 : 1 < rMn g r 0 → 2 ≤ rSe g r 50 ∧ 1 ≤ rSe g r 54 := J0.2
  rcases (show rMn g r 0 = 0 ∨ rMn g r 0 = 1 ∨ rMn g r 0 = 2 by omega) with hc | hc | hc
  · exact go (zp_X12_text_0 l) (zcv_2 zw_X12_text zr_X12_text_0 27 dL_288 zlL_27 (by decide +kernel) (by decide +kernel)) rfl rfl rfl rfl (by decide +kernel) (by decide +kernel) (by decide +kernel) ⟨by show 0 ≤ rMn g r 0; omega, by show rMn g r 0 ≤ 0; omega⟩ s0 s4 s5 s9
  · obtain ⟨j3, j4⟩ := j1 (by omega)
    exact go (zp_X12_text_1 l) (zcv_2 zw_X12_text zr_X12_text_1 27 dL_288 zlL_27 (by decide +kernel) (by decide +kernel)) rfl rfl rfl rfl (by decide +kernel) (by decide +kernel) (by decide +kernel) ⟨by show 1 ≤ rMn g r 0; omega, by show rMn g r 0 ≤ 1; omega⟩ ⟨j3, s0.2⟩ ⟨j4, s4.2⟩ s5 s9
  · obtain ⟨j3, j4⟩ := j1 (by omega)
    obtain ⟨j5, j6⟩ := j2 (by omega)
    exact go (zp_X12_text_2 l) (zcv_2 zw_X12_text zr_X12_text_2 27 dL_288 zlL_27 (by decide +kernel) (by decide +kernel)) rfl rfl rfl rfl (by decide +kernel) (by decide +kernel) (by decide +kernel) ⟨by show 2 ≤ rMn g r 0; omega, by show rMn g r 0 ≤ 2; omega⟩ ⟨j3, s0.2⟩ ⟨j4, s4.2⟩ ⟨j5, s5.2⟩ ⟨j6, s9.2⟩
set_option maxHeartbeats 8000000 in
set_option maxRecDepth 10000 in
theorem lwc_30 {η : zRn} {p : Program} {l : Launch} {e : Env} {s : State} {m : MethodId} {below : List Frame} {meth : Method} {c : Code} {b N : Nat} {xs : Nat → Int32} {Q : State → Prop} {H : Heap} {locs : List Loc} {cells slots : Nat} {ls : Array Slot} {a r i : Nat} {D : va_G} {cy : Nat → ClassId} {tb adK adV : Nat → Nat} {fv : Option Nat} (X : lwX l p s m meth c b N xs η D cy tb adK adV fv) (ha1 : a < 1000000) (hr1 : r < 1000000) (hi : i + 6 ≤ N) (hI : lwI s η D cy a r H) (hS : va_S (fun q => s.heap.size ≤ q) s.heap H locs) (hcs : cells + 39 ≤ 600000 ∧ slots + 1090 ≤ 7302250) (hl : lwL ls η a r i b)
    (K : ∀ (H1 : Heap) (locs1 : List Loc), lwI s η D cy a r H1 → va_S (fun q => s.heap.size ≤ q) s.heap H1 locs1 → W p l e room_1 s m #[Value.ref b] below meth c H1 locs1 (cells + 39) (slots + 1090) Q (F0 m 1550 ls [])) : W p l e room_1 s m #[Value.ref b] below meth c H locs cells slots Q (F0 m 1504 ls []) := by
  obtain ⟨hx, hb, -, -, -, -, -, -, -, -⟩ := id X.1
  obtain ⟨L, M, Θ, Ξ, h, g, hB, hH, hG, ha, hr, hR, hJ⟩ := hI
  obtain ⟨hLn, hMn, hLM, hLb, hMb, hNm⟩ := id hB
  obtain ⟨C0, hN, hη, hKW, hZ⟩ := id X
  have S := lw_S C0
  have hts := S.2.2.2.2
  have htz : ∀ w ∈ zTW, w.before #[Value.ref b] s = true := fun w hw => hts w (List.mem_cons_of_mem _ hw)
  refine W_sz (fun hsz => ?_)
  refine lv_aload_n hx hb dL_1504 rfl (lv_at hl 2 rfl) ?_
  refine lw_arg X.1 X.2.1 hS hl 1 hi (by decide) (by decide +kernel) dL_1505 dL_1506 dL_1507 dL_1508 dL_1509 ?_
  obtain ⟨p0, hp0⟩ := zH_get hH ha zkd_63 (by decide)
  rw [zE_o rfl] at hp0
  have hfree : ∀ q, (q ∈ L ∨ H.size ≤ q) → s.heap.size ≤ q := fun q hq => hq.elim (hLb q) (fun h9 => Nat.le_trans hS.1 h9)
  refine va_calli (va_runV (C := RX11) (n := 1) (As := [.int (xs (i + 1))]) (rest := []) (bytes := cX11_image) (maxL := 2) (ret := some .boolean) S (c_img l (x := xs (i + 1)) (h := h) (D := D) (cy := cy) (tb := tb) (adK := adK) (adV := adV) (fv := fv) hη hLn hLb hS.1 (by omega) hNm ha) ⟨callB_of _ hts (z_good zTW_good zw_X11_image.1.2.1) rfl rfl rfl (htz _ zw_X11_image.1.1) (htz _ zlL_140) ⟨zw_X11_image.1.2.2.1.1, zw_X11_image.1.2.2.1.2, zw_X11_image.1.2.2.2⟩ ⟨by decide +kernel, by decide +kernel⟩, htz _ zw_X11_image.2.1, htz _ zw_X11_image.2.2⟩ ⟨fb_img, va_recv hKW.1 hH.1 rfl hp0, fun U hU hW => ⟨rfl, by rw [hU], by rw [hU]; exact hH, hKW.warm hW, hZ.go hW (fun q h1 h2 => by rw [hU]; exact hS.2.1 q h1 h2)⟩⟩ rfl rfl hl.1 rfl (lv_room (Nat.le_of_ble_eq_true rfl)) dL_1510 hcs) hS (fun q _ h9 => hfree q h9) hfree (fun v8 u8 t8 H8 locs8 ht8 hvm8 w8 hB8 hz8 hk8 hS8 => ?_)
  obtain ⟨L', Θ', h8, hH8, hLn8, hLL8, hL8, hNm8, ha8, hR8⟩ := hB8
  rw [ht8] at hH8
  obtain ⟨r1, r2⟩ := hR8
  have hG8 : zH η zkdm D vwCl cy M Ξ g H8 := zH_kept hG (fun q hq => hk8 q (zH_lt hG hq) (fun z => by
    rcases z with z | z
    · exact hLM q z hq
    · have := zH_lt hG hq
      omega))
  have hB' : L'.Nodup ∧ M.Nodup ∧ (∀ q ∈ L', q ∉ M) ∧ (∀ q ∈ L', s.heap.size ≤ q) ∧ (∀ q ∈ M, s.heap.size ≤ q) ∧ zNm Θ' := by
    refine ⟨hLn8, hMn, fun q hq hqM => ?_, fun q hq => hfree q (hL8 q hq), hMb, hNm8⟩
    rcases hL8 q hq with z | z
    · exact hLM q z hqM
    · have := zH_lt hG hqM
      omega
  refine lv_pop hx hb dL_1513 rfl ?_
  refine lv_aload_n hx hb dL_1514 rfl (lv_at hl 1 rfl) ?_
  refine lw_arg X.1 X.2.1 hS8 hl 1 hi (by decide) (by decide +kernel) dL_1515 dL_1516 dL_1517 dL_1518 dL_1519 ?_
  rcases (show (xs (i + 1)).toInt < 0 ∨ 3 ≤ (xs (i + 1)).toInt ∨ (xs (i + 1)).toInt = ((0 : Nat) : Int) ∨ (xs (i + 1)).toInt = ((1 : Nat) : Int) ∨ (xs (i + 1)).toInt = ((2 : Nat) : Int) by omega) with hxk | hxk | hxk | hxk | hxk
  · have hRn : lRel h8 a g r := ⟨by rw [hR.1, r1], fun k hk => by
      obtain ⟨i1, i2⟩ := (r2 k hk).2 (by omega)
      exact lRk_eq (hR.2 k hk) i1 i2 rfl rfl⟩
    refine lwR (As := [(xs (i + 1)).toInt]) (T := []) (ivs := [(-2147483648, -1)]) (Tiv := []) X (zp_X12_image_3 l) (zcv_2 zw_X12_image zr_X12_image_3 144 dL_1520 zlL_144 (by decide +kernel) (by decide +kernel)) rfl rfl rfl (by decide) (zg_c (by show (-2147483648 : Int) ≤ _; have := z_lo (xs (i + 1)); omega) (by show _ ≤ (-1 : Int); have := z_hi (xs (i + 1)); omega) zg_n) zg_n (by decide +kernel) hr1 hB' hH8 hG8 hr z_ov0 hS8 hcs hl (rest := []) (by decide) (by simp only [List.map_cons, List.map_nil, List.reverse_cons, List.reverse_nil, List.nil_append, List.cons_append, z_ofi]) (fun out2 q2 ρ2 g9 H9 locs9 ho2 hq2 oE2 oV2 oH2 oX2 oG2 oS2 => ?_)
    have eo : out2 = zk_X12_image_3.2.2.2.1.getD 0 ([], [], [], [], []) := by
      rcases List.mem_cons.mp ho2 with q | q
      · exact q
      · cases q
    subst eo
    have eq2 : q2 = (0, 0, 0) := (List.cons.inj hq2).1.symm
    have ev2 : Int32.ofInt (zev ((([0, (r : Int)] ++ [(xs (i + 1)).toInt]) ++ []) ++ ρ2) q2) = 0 := by rw [eq2, z_evc]; rfl
    have ev8 : v8 = 0 := by rw [w8, if_neg (by omega)]
    obtain ⟨h1, h2⟩ := lwR_keep hG8 hr oX2 (by decide +kernel) hRn hJ
    refine lv_pop hx hb dL_1523 rfl ?_
    refine lv_goto (tgt := 1550) hx hb dL_1524 (by decide) ?_
    exact K H9 locs9 ⟨L', M, Θ', Ξ, h8, g9, hB', oH2, oG2, ha8, hr, h1, h2⟩ oS2
  · have hRn : lRel h8 a g r := ⟨by rw [hR.1, r1], fun k hk => by
      obtain ⟨i1, i2⟩ := (r2 k hk).2 (by omega)
      exact lRk_eq (hR.2 k hk) i1 i2 rfl rfl⟩
    refine lwR (As := [(xs (i + 1)).toInt]) (T := []) (ivs := [(3, 2147483647)]) (Tiv := []) X (zp_X12_image_4 l) (zcv_2 zw_X12_image zr_X12_image_4 144 dL_1520 zlL_144 (by decide +kernel) (by decide +kernel)) rfl rfl rfl (by decide) (zg_c (by show (3 : Int) ≤ _; have := z_lo (xs (i + 1)); omega) (by show _ ≤ (2147483647 : Int); have := z_hi (xs (i + 1)); omega) zg_n) zg_n (by decide +kernel) hr1 hB' hH8 hG8 hr z_ov0 hS8 hcs hl (rest := []) (by decide) (by simp only [List.map_cons, List.map_nil, List.reverse_cons, List.reverse_nil, List.nil_append, List.cons_append, z_ofi]) (fun out2 q2 ρ2 g9 H9 locs9 ho2 hq2 oE2 oV2 oH2 oX2 oG2 oS2 => ?_)
    have eo : out2 = zk_X12_image_4.2.2.2.1.getD 0 ([], [], [], [], []) := by
      rcases List.mem_cons.mp ho2 with q | q
      · exact q
      · cases q
    subst eo
    have eq2 : q2 = (0, 0, 0) := (List.cons.inj hq2).1.symm
    have ev2 : Int32.ofInt (zev ((([0, (r : Int)] ++ [(xs (i + 1)).toInt]) ++ []) ++ ρ2) q2) = 0 := by rw [eq2, z_evc]; rfl
    have ev8 : v8 = 0 := by rw [w8, if_neg (by omega)]
    obtain ⟨h1, h2⟩ := lwR_keep hG8 hr oX2 (by decide +kernel) hRn hJ
    refine lv_pop hx hb dL_1523 rfl ?_
    refine lv_goto (tgt := 1550) hx hb dL_1524 (by decide) ?_
    exact K H9 locs9 ⟨L', M, Θ', Ξ, h8, g9, hB', oH2, oG2, ha8, hr, h1, h2⟩ oS2
  · refine lwR (As := [(xs (i + 1)).toInt]) (T := bTv g r 0 0) (ivs := [(0, 0)]) (Tiv := [(0, 2147483647), (0, 600), (0, 2147483647), (0, 2), (0, 2), (0, 2), (0, 2147483647), (0, 8), (0, 9), (0, 8), (0, 9), (0, 2147483647), (0, 1)]) X (zp_X12_image_0 l) (zcv_2 zw_X12_image zr_X12_image_0 144 dL_1520 zlL_144 (by decide +kernel) (by decide +kernel)) rfl rfl rfl (by decide) (zg_c (by show (0 : Int) ≤ _; omega) (by show _ ≤ (0 : Int); omega) zg_n) (bIv_ok (by decide) (by decide) (rBk hG8 hr (by decide)) hG8 hr) (by decide +kernel) hr1 hB' hH8 hG8 hr (bOv_ok (n := 3) (by decide) (by decide) rfl hG8 hr) hS8 hcs hl (rest := []) (by decide) (by simp only [List.map_cons, List.map_nil, List.reverse_cons, List.reverse_nil, List.nil_append, List.cons_append, z_ofi]) (fun out2 q2 ρ2 g9 H9 locs9 ho2 hq2 oE2 oV2 oH2 oX2 oG2 oS2 => ?_)
    have eo : out2 = zk_X12_image_0.2.2.2.1.getD 0 ([], [], [], [], []) := by
      rcases List.mem_cons.mp ho2 with q | q
      · exact q
      · cases q
    subst eo
    have eq2 : q2 = (0, 0, 1) := (List.cons.inj hq2).1.symm
    have ev2 : Int32.ofInt (zev ((([0, (r : Int)] ++ [(xs (i + 1)).toInt]) ++ bTv g r 0 0) ++ ρ2) q2) = 1 := by rw [eq2, z_evc]; rfl
    have ev8 : v8 = 1 := by rw [w8, if_pos (by omega)]
    have gd := fun (j : Nat) (hj : j < 13) => z_gdn (a := r) (As := [(xs (i + 1)).toInt]) (T := bTv g r 0 0) (ρ := ρ2) (n := 3) (j := j) rfl hj
    have ev : ∀ (j : Nat) (hj : j < 13), zev ((([0, (r : Int)] ++ [(xs (i + 1)).toInt]) ++ bTv g r 0 0) ++ ρ2) (0, 3 + j, 0) = (bTv g r 0 0).getD j 0 := fun j hj => by
      show _ + (0 : Int) = _
      rw [gd j hj, Int.add_zero]
    have x1 : rSz g9 r 1 = rSz g r 0 := (jEl_ok (f := 2) (kd := 1) (k := 1) (v := (0, 3 + 1, 0)) oV2 z_gd1 (by decide +kernel)).trans (ev 1 (by decide))
    have x2 : rMn g9 r 3 = rMn g r 0 := (jEl_ok (f := 5) (kd := 4) (k := 3) (v := (0, 3 + 3, 0)) oV2 z_gd1 (by decide +kernel)).trans (ev 3 (by decide))
    have x3 : rSe g9 r 100 = rSe g r 0 := (jEl_ok (f := 6) (kd := 5) (k := 100) (v := (0, 3 + 7, 0)) oV2 z_gd1 (by decide +kernel)).trans (ev 7 (by decide))
    have x4 : rSe g9 r 104 = rSe g r 4 := (jEl_ok (f := 6) (kd := 5) (k := 104) (v := (0, 3 + 8, 0)) oV2 z_gd1 (by decide +kernel)).trans (ev 8 (by decide))
    have x5 : rSe g9 r 150 = rSe g r 50 := (jEl_ok (f := 6) (kd := 5) (k := 150) (v := (0, 3 + 9, 0)) oV2 z_gd1 (by decide +kernel)).trans (ev 9 (by decide))
    have x6 : rSe g9 r 154 = rSe g r 54 := (jEl_ok (f := 6) (kd := 5) (k := 154) (v := (0, 3 + 10, 0)) oV2 z_gd1 (by decide +kernel)).trans (ev 10 (by decide))
    have x7 : rKp g9 r 0 = 1 := (jEl_ok (f := 63) (kd := 34) (k := 0) (v := (0, 0, 1)) oV2 z_gd1 (by decide +kernel)).trans (by unfold zev; simp)
    have f0 : effr zk_X12_image_0.2.2.2.2 = true := by decide +kernel
    have b0 := rKb (t := 0) hG8 hr oX2 f0 (by decide +kernel)
    have b2 := rKb (t := 2) hG8 hr oX2 f0 (by decide +kernel)
    have b3 := rKb (t := 3) hG8 hr oX2 f0 (by decide +kernel)
    have J9 : lJb g9 r 1 := by
      show (0 < rMn g9 r 3 → 2 ≤ rSe g9 r 100 ∧ 1 ≤ rSe g9 r 104) ∧ (1 < rMn g9 r 3 → 2 ≤ rSe g9 r 150 ∧ 1 ≤ rSe g9 r 154)
      rw [x2, x3, x4, x5, x6]
      exact hJ 0 (by decide)
    refine lv_pop hx hb dL_1523 rfl ?_
    refine lv_goto (tgt := 1550) hx hb dL_1524 (by decide) ?_
    refine K H9 locs9 ⟨L', M, Θ', Ξ, h8, g9, hB', oH2, oG2, ha8, hr, ⟨by rw [b0.1, hR.1, r1], fun k hk => ?_⟩, fun t ht => ?_⟩ oS2
    · rcases (show k = 0 ∨ k = 1 ∨ k = 2 by omega) with rfl | rfl | rfl
      · obtain ⟨i1, i2⟩ := (r2 0 (by decide)).1 hxk
        exact Or.inr ⟨x7, i1, by rw [i2, ← hR.1]; exact x1⟩
      · obtain ⟨i1, i2⟩ := (r2 1 (by decide)).2 (by rw [hxk]; decide)
        exact lRk_eq (hR.2 1 (by decide)) i1 i2 (rKk hG8 hr oX2 f0 (by decide +kernel)) b2.1
      · obtain ⟨i1, i2⟩ := (r2 2 (by decide)).2 (by rw [hxk]; decide)
        exact lRk_eq (hR.2 2 (by decide)) i1 i2 (rKk hG8 hr oX2 f0 (by decide +kernel)) b3.1
    · rcases (show t = 0 ∨ t = 1 ∨ t = 2 ∨ t = 3 by omega) with rfl | rfl | rfl | rfl
      · exact b0.J (hJ 0 (by decide))
      · exact J9
      · exact b2.J (hJ 2 (by decide))
      · exact b3.J (hJ 3 (by decide))
  · refine lwR (As := [(xs (i + 1)).toInt]) (T := bTv g r 0 1) (ivs := [(1, 1)]) (Tiv := [(0, 2147483647), (0, 600), (0, 2147483647), (0, 2), (0, 2), (0, 2), (0, 2147483647), (0, 8), (0, 9), (0, 8), (0, 9), (0, 2147483647), (0, 1)]) X (zp_X12_image_1 l) (zcv_2 zw_X12_image zr_X12_image_1 144 dL_1520 zlL_144 (by decide +kernel) (by decide +kernel)) rfl rfl rfl (by decide) (zg_c (by show (1 : Int) ≤ _; omega) (by show _ ≤ (1 : Int); omega) zg_n) (bIv_ok (by decide) (by decide) (rBk hG8 hr (by decide)) hG8 hr) (by decide +kernel) hr1 hB' hH8 hG8 hr (bOv_ok (n := 3) (by decide) (by decide) rfl hG8 hr) hS8 hcs hl (rest := []) (by decide) (by simp only [List.map_cons, List.map_nil, List.reverse_cons, List.reverse_nil, List.nil_append, List.cons_append, z_ofi]) (fun out2 q2 ρ2 g9 H9 locs9 ho2 hq2 oE2 oV2 oH2 oX2 oG2 oS2 => ?_)
    have eo : out2 = zk_X12_image_1.2.2.2.1.getD 0 ([], [], [], [], []) := by
      rcases List.mem_cons.mp ho2 with q | q
      · exact q
      · cases q
    subst eo
    have eq2 : q2 = (0, 0, 1) := (List.cons.inj hq2).1.symm
    have ev2 : Int32.ofInt (zev ((([0, (r : Int)] ++ [(xs (i + 1)).toInt]) ++ bTv g r 0 1) ++ ρ2) q2) = 1 := by rw [eq2, z_evc]; rfl
    have ev8 : v8 = 1 := by rw [w8, if_pos (by omega)]
    have gd := fun (j : Nat) (hj : j < 13) => z_gdn (a := r) (As := [(xs (i + 1)).toInt]) (T := bTv g r 0 1) (ρ := ρ2) (n := 3) (j := j) rfl hj
    have ev : ∀ (j : Nat) (hj : j < 13), zev ((([0, (r : Int)] ++ [(xs (i + 1)).toInt]) ++ bTv g r 0 1) ++ ρ2) (0, 3 + j, 0) = (bTv g r 0 1).getD j 0 := fun j hj => by
      show _ + (0 : Int) = _
      rw [gd j hj, Int.add_zero]
    have x1 : rSz g9 r 2 = rSz g r 0 := (jEl_ok (f := 2) (kd := 1) (k := 2) (v := (0, 3 + 1, 0)) oV2 z_gd1 (by decide +kernel)).trans (ev 1 (by decide))
    have x2 : rMn g9 r 6 = rMn g r 0 := (jEl_ok (f := 5) (kd := 4) (k := 6) (v := (0, 3 + 3, 0)) oV2 z_gd1 (by decide +kernel)).trans (ev 3 (by decide))
    have x3 : rSe g9 r 200 = rSe g r 0 := (jEl_ok (f := 6) (kd := 5) (k := 200) (v := (0, 3 + 7, 0)) oV2 z_gd1 (by decide +kernel)).trans (ev 7 (by decide))
    have x4 : rSe g9 r 204 = rSe g r 4 := (jEl_ok (f := 6) (kd := 5) (k := 204) (v := (0, 3 + 8, 0)) oV2 z_gd1 (by decide +kernel)).trans (ev 8 (by decide))
    have x5 : rSe g9 r 250 = rSe g r 50 := (jEl_ok (f := 6) (kd := 5) (k := 250) (v := (0, 3 + 9, 0)) oV2 z_gd1 (by decide +kernel)).trans (ev 9 (by decide))
    have x6 : rSe g9 r 254 = rSe g r 54 := (jEl_ok (f := 6) (kd := 5) (k := 254) (v := (0, 3 + 10, 0)) oV2 z_gd1 (by decide +kernel)).trans (ev 10 (by decide))
    have x7 : rKp g9 r 1 = 1 := (jEl_ok (f := 63) (kd := 34) (k := 1) (v := (0, 0, 1)) oV2 z_gd1 (by decide +kernel)).trans (by unfold zev; simp)
    have f0 : effr zk_X12_image_1.2.2.2.2 = true := by decide +kernel
    have b0 := rKb (t := 0) hG8 hr oX2 f0 (by decide +kernel)
    have b1 := rKb (t := 1) hG8 hr oX2 f0 (by decide +kernel)
    have b3 := rKb (t := 3) hG8 hr oX2 f0 (by decide +kernel)
    have J9 : lJb g9 r 2 := by
      show (0 < rMn g9 r 6 → 2 ≤ rSe g9 r 200 ∧ 1 ≤ rSe g9 r 204) ∧ (1 < rMn g9 r 6 → 2 ≤ rSe g9 r 250 ∧ 1 ≤ rSe g9 r 254)
      rw [x2, x3, x4, x5, x6]
      exact hJ 0 (by decide)
    refine lv_pop hx hb dL_1523 rfl ?_
    refine lv_goto (tgt := 1550) hx hb dL_1524 (by decide) ?_
    refine K H9 locs9 ⟨L', M, Θ', Ξ, h8, g9, hB', oH2, oG2, ha8, hr, ⟨by rw [b0.1, hR.1, r1], fun k hk => ?_⟩, fun t ht => ?_⟩ oS2
    · rcases (show k = 0 ∨ k = 1 ∨ k = 2 by omega) with rfl | rfl | rfl
      · obtain ⟨i1, i2⟩ := (r2 0 (by decide)).2 (by rw [hxk]; decide)
        exact lRk_eq (hR.2 0 (by decide)) i1 i2 (rKk hG8 hr oX2 f0 (by decide +kernel)) b1.1
      · obtain ⟨i1, i2⟩ := (r2 1 (by decide)).1 hxk
        exact Or.inr ⟨x7, i1, by rw [i2, ← hR.1]; exact x1⟩
      · obtain ⟨i1, i2⟩ := (r2 2 (by decide)).2 (by rw [hxk]; decide)
        exact lRk_eq (hR.2 2 (by decide)) i1 i2 (rKk hG8 hr oX2 f0 (by decide +kernel)) b3.1
    · rcases (show t = 0 ∨ t = 1 ∨ t = 2 ∨ t = 3 by omega) with rfl | rfl | rfl | rfl
      · exact b0.J (hJ 0 (by decide))
      · exact b1.J (hJ 1 (by decide))
      · exact J9
      · exact b3.J (hJ 3 (by decide))
  · refine lwR (As := [(xs (i + 1)).toInt]) (T := bTv g r 0 2) (ivs := [(2, 2)]) (Tiv := [(0, 2147483647), (0, 600), (0, 2147483647), (0, 2), (0, 2), (0, 2), (0, 2147483647), (0, 8), (0, 9), (0, 8), (0, 9), (0, 2147483647), (0, 1)]) X (zp_X12_image_2 l) (zcv_2 zw_X12_image zr_X12_image_2 144 dL_1520 zlL_144 (by decide +kernel) (by decide +kernel)) rfl rfl rfl (by decide) (zg_c (by show (2 : Int) ≤ _; omega) (by show _ ≤ (2 : Int); omega) zg_n) (bIv_ok (by decide) (by decide) (rBk hG8 hr (by decide)) hG8 hr) (by decide +kernel) hr1 hB' hH8 hG8 hr (bOv_ok (n := 3) (by decide) (by decide) rfl hG8 hr) hS8 hcs hl (rest := []) (by decide) (by simp only [List.map_cons, List.map_nil, List.reverse_cons, List.reverse_nil, List.nil_append, List.cons_append, z_ofi]) (fun out2 q2 ρ2 g9 H9 locs9 ho2 hq2 oE2 oV2 oH2 oX2 oG2 oS2 => ?_)
    have eo : out2 = zk_X12_image_2.2.2.2.1.getD 0 ([], [], [], [], []) := by
      rcases List.mem_cons.mp ho2 with q | q
      · exact q
      · cases q
    subst eo
    have eq2 : q2 = (0, 0, 1) := (List.cons.inj hq2).1.symm
    have ev2 : Int32.ofInt (zev ((([0, (r : Int)] ++ [(xs (i + 1)).toInt]) ++ bTv g r 0 2) ++ ρ2) q2) = 1 := by rw [eq2, z_evc]; rfl
    have ev8 : v8 = 1 := by rw [w8, if_pos (by omega)]
    have gd := fun (j : Nat) (hj : j < 13) => z_gdn (a := r) (As := [(xs (i + 1)).toInt]) (T := bTv g r 0 2) (ρ := ρ2) (n := 3) (j := j) rfl hj
    have ev : ∀ (j : Nat) (hj : j < 13), zev ((([0, (r : Int)] ++ [(xs (i + 1)).toInt]) ++ bTv g r 0 2) ++ ρ2) (0, 3 + j, 0) = (bTv g r 0 2).getD j 0 := fun j hj => by
      show _ + (0 : Int) = _
      rw [gd j hj, Int.add_zero]
    have x1 : rSz g9 r 3 = rSz g r 0 := (jEl_ok (f := 2) (kd := 1) (k := 3) (v := (0, 3 + 1, 0)) oV2 z_gd1 (by decide +kernel)).trans (ev 1 (by decide))
    have x2 : rMn g9 r 9 = rMn g r 0 := (jEl_ok (f := 5) (kd := 4) (k := 9) (v := (0, 3 + 3, 0)) oV2 z_gd1 (by decide +kernel)).trans (ev 3 (by decide))
    have x3 : rSe g9 r 300 = rSe g r 0 := (jEl_ok (f := 6) (kd := 5) (k := 300) (v := (0, 3 + 7, 0)) oV2 z_gd1 (by decide +kernel)).trans (ev 7 (by decide))
    have x4 : rSe g9 r 304 = rSe g r 4 := (jEl_ok (f := 6) (kd := 5) (k := 304) (v := (0, 3 + 8, 0)) oV2 z_gd1 (by decide +kernel)).trans (ev 8 (by decide))
    have x5 : rSe g9 r 350 = rSe g r 50 := (jEl_ok (f := 6) (kd := 5) (k := 350) (v := (0, 3 + 9, 0)) oV2 z_gd1 (by decide +kernel)).trans (ev 9 (by decide))
    have x6 : rSe g9 r 354 = rSe g r 54 := (jEl_ok (f := 6) (kd := 5) (k := 354) (v := (0, 3 + 10, 0)) oV2 z_gd1 (by decide +kernel)).trans (ev 10 (by decide))
    have x7 : rKp g9 r 2 = 1 := (jEl_ok (f := 63) (kd := 34) (k := 2) (v := (0, 0, 1)) oV2 z_gd1 (by decide +kernel)).trans (by unfold zev; simp)
    have f0 : effr zk_X12_image_2.2.2.2.2 = true := by decide +kernel
    have b0 := rKb (t := 0) hG8 hr oX2 f0 (by decide +kernel)
    have b1 := rKb (t := 1) hG8 hr oX2 f0 (by decide +kernel)
    have b2 := rKb (t := 2) hG8 hr oX2 f0 (by decide +kernel)
    have J9 : lJb g9 r 3 := by
      show (0 < rMn g9 r 9 → 2 ≤ rSe g9 r 300 ∧ 1 ≤ rSe g9 r 304) ∧ (1 < rMn g9 r 9 → 2 ≤ rSe g9 r 350 ∧ 1 ≤ rSe g9 r 354)
      rw [x2, x3, x4, x5, x6]
      exact hJ 0 (by decide)
    refine lv_pop hx hb dL_1523 rfl ?_
    refine lv_goto (tgt := 1550) hx hb dL_1524 (by decide) ?_
    refine K H9 locs9 ⟨L', M, Θ', Ξ, h8, g9, hB', oH2, oG2, ha8, hr, ⟨by rw [b0.1, hR.1, r1], fun k hk => ?_⟩, fun t ht => ?_⟩ oS2
    · rcases (show k = 0 ∨ k = 1 ∨ k = 2 by omega) with rfl | rfl | rfl
      · obtain ⟨i1, i2⟩ := (r2 0 (by decide)).2 (by rw [hxk]; decide)
        exact lRk_eq (hR.2 0 (by decide)) i1 i2 (rKk hG8 hr oX2 f0 (by decide +kernel)) b1.1
      · obtain ⟨i1, i2⟩ := (r2 1 (by decide)).2 (by rw [hxk]; decide)
        exact lRk_eq (hR.2 1 (by decide)) i1 i2 (rKk hG8 hr oX2 f0 (by decide +kernel)) b2.1
      · obtain ⟨i1, i2⟩ := (r2 2 (by decide)).1 hxk
        exact Or.inr ⟨x7, i1, by rw [i2, ← hR.1]; exact x1⟩
    · rcases (show t = 0 ∨ t = 1 ∨ t = 2 ∨ t = 3 by omega) with rfl | rfl | rfl | rfl
      · exact b0.J (hJ 0 (by decide))
      · exact b1.J (hJ 1 (by decide))
      · exact b2.J (hJ 2 (by decide))
      · exact J9
set_option maxHeartbeats 8000000 in
set_option maxRecDepth 10000 in
theorem lwc_31 {η : zRn} {p : Program} {l : Launch} {e : Env} {s : State} {m : MethodId} {below : List Frame} {meth : Method} {c : Code} {b N : Nat} {xs : Nat → Int32} {Q : State → Prop} {H : Heap} {locs : List Loc} {cells slots : Nat} {ls : Array Slot} {a r i : Nat} {D : va_G} {cy : Nat → ClassId} {tb adK adV : Nat → Nat} {fv : Option Nat} (X : lwX l p s m meth c b N xs η D cy tb adK adV fv) (ha1 : a < 1000000) (hr1 : r < 1000000) (hi : i + 6 ≤ N) (hI : lwI s η D cy a r H) (hS : va_S (fun q => s.heap.size ≤ q) s.heap H locs) (hcs : cells ≤ 600000 ∧ slots ≤ 7302250) (hl : lwL ls η a r i b)
    (K : ∀ (H1 : Heap) (locs1 : List Loc), lwI s η D cy a r H1 → va_S (fun q => s.heap.size ≤ q) s.heap H1 locs1 → W p l e room_1 s m #[Value.ref b] below meth c H1 locs1 (cells) (slots) Q (F0 m 1550 ls [])) : W p l e room_1 s m #[Value.ref b] below meth c H locs cells slots Q (F0 m 1527 ls []) := by
  obtain ⟨hx, hb, -, -, -, -, -, -, -, -⟩ := id X.1
  refine lv_aload_n hx hb dL_1527 rfl (lv_at hl 2 rfl) ?_
  refine lw_arg X.1 X.2.1 hS hl 1 hi (by decide) (by decide +kernel) dL_1528 dL_1529 dL_1530 dL_1531 dL_1532 ?_
  rcases (show (xs (i + 1)).toInt < 0 ∨ 3 ≤ (xs (i + 1)).toInt ∨ (xs (i + 1)).toInt = ((0 : Nat) : Int) ∨ (xs (i + 1)).toInt = ((1 : Nat) : Int) ∨ (xs (i + 1)).toInt = ((2 : Nat) : Int) by omega) with hxk | hxk | hxk | hxk | hxk
  · obtain ⟨L, M, Θ, Ξ, h, g, hB, hH, hG, ha, hr, hR, hJ⟩ := hI
    refine lwC (As := [(xs (i + 1)).toInt]) (T := []) (ivs := [(-2147483648, -1)]) (Tiv := []) X (zp_X11_again_6 l) (zcv_2 zw_X11_again zr_X11_again_6 145 dL_1533 zlL_145 (by decide +kernel) (by decide +kernel)) rfl rfl rfl (by decide) (zg_c (by show (-2147483648 : Int) ≤ _; have := z_lo (xs (i + 1)); omega) (by show _ ≤ (-1 : Int); have := z_hi (xs (i + 1)); omega) zg_n) zg_n (by decide +kernel) ha1 hB hH hG ha z_ov0 hS hcs hl (rest := []) (by decide) (by simp only [List.map_cons, List.map_nil, List.reverse_cons, List.reverse_nil, List.nil_append, List.cons_append, z_ofi]) (fun out q ρ h8 H8 locs8 ho hq oE oV oH oX oG oS => ?_)
    have eo : out = zk_X11_again_6.2.2.2.1.getD 0 ([], [], [], [], []) := by
      rcases List.mem_cons.mp ho with q | q
      · exact q
      · cases q
    subst eo
    have eq : q = (0, 0, 0) := (List.cons.inj hq).1.symm
    refine tp_i 0 (by rw [eq, z_evc]; rfl) ?_
    obtain ⟨-, -, -, e3⟩ := cKp hH ha oX (by decide +kernel)
    have e0 := cKl hH ha oX (by decide +kernel) (by decide +kernel)
    have hR8 : lRel h8 a g r := ⟨by rw [e0]; exact hR.1, fun k hk => lRk_eq (hR.2 k hk) (e3 k hk).1 (e3 k hk).2 rfl rfl⟩
    refine lv_aload_n hx hb dL_1536 rfl (lv_at hl 1 rfl) ?_
    refine lw_arg X.1 X.2.1 oS hl 1 hi (by decide) (by decide +kernel) dL_1537 dL_1538 dL_1539 dL_1540 dL_1541 ?_
    refine lwR (As := [(xs (i + 1)).toInt]) (T := []) (ivs := [(-2147483648, -1)]) (Tiv := []) X (zp_X12_again_6 l) (zcv_2 zw_X12_again zr_X12_again_6 148 dL_1542 zlL_148 (by decide +kernel) (by decide +kernel)) rfl rfl rfl (by decide) (zg_c (by show (-2147483648 : Int) ≤ _; have := z_lo (xs (i + 1)); omega) (by show _ ≤ (-1 : Int); have := z_hi (xs (i + 1)); omega) zg_n) zg_n (by decide +kernel) hr1 hB oH oG hr z_ov0 oS hcs hl (rest := [.int 0]) (by simp [Value.category]) (by simp only [List.map_cons, List.map_nil, List.reverse_cons, List.reverse_nil, List.nil_append, List.cons_append, z_ofi]) (fun out2 q2 ρ2 g9 H9 locs9 ho2 hq2 oE2 oV2 oH2 oX2 oG2 oS2 => ?_)
    have eo2 : out2 = zk_X12_again_6.2.2.2.1.getD 0 ([], [], [], [], []) := by
      rcases List.mem_cons.mp ho2 with q | q
      · exact q
      · cases q
    subst eo2
    have eq2 : q2 = (0, 0, 0) := (List.cons.inj hq2).1.symm
    refine tp_i 0 (by rw [eq2, z_evc]; rfl) ?_
    obtain ⟨h1, h2⟩ := lwR_keep oG hr oX2 (by decide +kernel) hR8 hJ
    refine lv_icmp_eq (tgt := 1550) hx hb dL_1545 (by decide) (fun _ => ?_) (fun hne => absurd (rfl) hne)
    exact K H9 locs9 ⟨L, M, Θ, Ξ, h8, g9, hB, oH2, oG2, ha, hr, h1, h2⟩ oS2
  · obtain ⟨L, M, Θ, Ξ, h, g, hB, hH, hG, ha, hr, hR, hJ⟩ := hI
    refine lwC (As := [(xs (i + 1)).toInt]) (T := []) (ivs := [(3, 2147483647)]) (Tiv := []) X (zp_X11_again_7 l) (zcv_2 zw_X11_again zr_X11_again_7 145 dL_1533 zlL_145 (by decide +kernel) (by decide +kernel)) rfl rfl rfl (by decide) (zg_c (by show (3 : Int) ≤ _; have := z_lo (xs (i + 1)); omega) (by show _ ≤ (2147483647 : Int); have := z_hi (xs (i + 1)); omega) zg_n) zg_n (by decide +kernel) ha1 hB hH hG ha z_ov0 hS hcs hl (rest := []) (by decide) (by simp only [List.map_cons, List.map_nil, List.reverse_cons, List.reverse_nil, List.nil_append, List.cons_append, z_ofi]) (fun out q ρ h8 H8 locs8 ho hq oE oV oH oX oG oS => ?_)
    have eo : out = zk_X11_again_7.2.2.2.1.getD 0 ([], [], [], [], []) := by
      rcases List.mem_cons.mp ho with q | q
      · exact q
      · cases q
    subst eo
    have eq : q = (0, 0, 0) := (List.cons.inj hq).1.symm
    refine tp_i 0 (by rw [eq, z_evc]; rfl) ?_
    obtain ⟨-, -, -, e3⟩ := cKp hH ha oX (by decide +kernel)
    have e0 := cKl hH ha oX (by decide +kernel) (by decide +kernel)
    have hR8 : lRel h8 a g r := ⟨by rw [e0]; exact hR.1, fun k hk => lRk_eq (hR.2 k hk) (e3 k hk).1 (e3 k hk).2 rfl rfl⟩
    refine lv_aload_n hx hb dL_1536 rfl (lv_at hl 1 rfl) ?_
    refine lw_arg X.1 X.2.1 oS hl 1 hi (by decide) (by decide +kernel) dL_1537 dL_1538 dL_1539 dL_1540 dL_1541 ?_
    refine lwR (As := [(xs (i + 1)).toInt]) (T := []) (ivs := [(3, 2147483647)]) (Tiv := []) X (zp_X12_again_7 l) (zcv_2 zw_X12_again zr_X12_again_7 148 dL_1542 zlL_148 (by decide +kernel) (by decide +kernel)) rfl rfl rfl (by decide) (zg_c (by show (3 : Int) ≤ _; have := z_lo (xs (i + 1)); omega) (by show _ ≤ (2147483647 : Int); have := z_hi (xs (i + 1)); omega) zg_n) zg_n (by decide +kernel) hr1 hB oH oG hr z_ov0 oS hcs hl (rest := [.int 0]) (by simp [Value.category]) (by simp only [List.map_cons, List.map_nil, List.reverse_cons, List.reverse_nil, List.nil_append, List.cons_append, z_ofi]) (fun out2 q2 ρ2 g9 H9 locs9 ho2 hq2 oE2 oV2 oH2 oX2 oG2 oS2 => ?_)
    have eo2 : out2 = zk_X12_again_7.2.2.2.1.getD 0 ([], [], [], [], []) := by
      rcases List.mem_cons.mp ho2 with q | q
      · exact q
      · cases q
    subst eo2
    have eq2 : q2 = (0, 0, 0) := (List.cons.inj hq2).1.symm
    refine tp_i 0 (by rw [eq2, z_evc]; rfl) ?_
    obtain ⟨h1, h2⟩ := lwR_keep oG hr oX2 (by decide +kernel) hR8 hJ
    refine lv_icmp_eq (tgt := 1550) hx hb dL_1545 (by decide) (fun _ => ?_) (fun hne => absurd (rfl) hne)
    exact K H9 locs9 ⟨L, M, Θ, Ξ, h8, g9, hB, oH2, oG2, ha, hr, h1, h2⟩ oS2
  · obtain ⟨L, M, Θ, Ξ, h, g, hB, hH, hG, ha, hr, hR, hJ⟩ := hI
    rcases hR.2 0 (by decide) with ⟨y1, y2⟩ | ⟨y1, y2, y3⟩
    · refine lwC (As := [(xs (i + 1)).toInt]) (T := [h a 1, cIm h a 0]) (ivs := [(0, 0)]) (Tiv := [(0, 2147483647), (-1, -1)]) X (zp_X11_again_1 l) (zcv_2 zw_X11_again zr_X11_again_1 145 dL_1533 zlL_145 (by decide +kernel) (by decide +kernel)) rfl rfl rfl (by decide) (zg_c (by show (0 : Int) ≤ _; omega) (by show _ ≤ (0 : Int); omega) zg_n) (zg_c (cP1 hH ha).1 (zH_in hH ha zkd_63 (j := 1) (by decide)).2.2 (zg_c (by show (-1 : Int) ≤ _; omega) (by show _ ≤ (-1 : Int); omega) zg_n)) (by decide +kernel) ha1 hB hH hG ha (nOv_ok (n := 3) (by decide) rfl hH ha) hS hcs hl (rest := []) (by decide) (by simp only [List.map_cons, List.map_nil, List.reverse_cons, List.reverse_nil, List.nil_append, List.cons_append, z_ofi]) (fun out q ρ h8 H8 locs8 ho hq oE oV oH oX oG oS => ?_)
      have eo : out = zk_X11_again_1.2.2.2.1.getD 0 ([], [], [], [], []) := by
        rcases List.mem_cons.mp ho with q | q
        · exact q
        · cases q
      subst eo
      have eq : q = (0, 0, 0) := (List.cons.inj hq).1.symm
      refine tp_i 0 (by rw [eq, z_evc]; rfl) ?_
      obtain ⟨-, -, -, e3⟩ := cKp hH ha oX (by decide +kernel)
      have e0 := cKl hH ha oX (by decide +kernel) (by decide +kernel)
      have hR8 : lRel h8 a g r := ⟨by rw [e0]; exact hR.1, fun k hk => lRk_eq (hR.2 k hk) (e3 k hk).1 (e3 k hk).2 rfl rfl⟩
      refine lv_aload_n hx hb dL_1536 rfl (lv_at hl 1 rfl) ?_
      refine lw_arg X.1 X.2.1 oS hl 1 hi (by decide) (by decide +kernel) dL_1537 dL_1538 dL_1539 dL_1540 dL_1541 ?_
      refine lwR (As := [(xs (i + 1)).toInt]) (T := [g r 63, rKp g r 0]) (ivs := [(0, 0)]) (Tiv := [(0, 2147483647), (0, 0)]) X (zp_X12_again_1 l) (zcv_2 zw_X12_again zr_X12_again_1 148 dL_1542 zlL_148 (by decide +kernel) (by decide +kernel)) rfl rfl rfl (by decide) (zg_c (by show (0 : Int) ≤ _; omega) (by show _ ≤ (0 : Int); omega) zg_n) (zg_c (rP63 oG hr).1 (zH_in oG hr zkm_35 (j := 63) (by decide +kernel)).2.2 (zg_c (by show (0 : Int) ≤ _; omega) (by show _ ≤ (0 : Int); omega) zg_n)) (by decide +kernel) hr1 hB oH oG hr (kOv_ok (n := 3) (by decide) rfl oG hr) oS hcs hl (rest := [.int 0]) (by simp [Value.category]) (by simp only [List.map_cons, List.map_nil, List.reverse_cons, List.reverse_nil, List.nil_append, List.cons_append, z_ofi]) (fun out2 q2 ρ2 g9 H9 locs9 ho2 hq2 oE2 oV2 oH2 oX2 oG2 oS2 => ?_)
      have eo2 : out2 = zk_X12_again_1.2.2.2.1.getD 0 ([], [], [], [], []) := by
        rcases List.mem_cons.mp ho2 with q | q
        · exact q
        · cases q
      subst eo2
      have eq2 : q2 = (0, 0, 0) := (List.cons.inj hq2).1.symm
      refine tp_i 0 (by rw [eq2, z_evc]; rfl) ?_
      obtain ⟨h1, h2⟩ := lwR_keep oG hr oX2 (by decide +kernel) hR8 hJ
      refine lv_icmp_eq (tgt := 1550) hx hb dL_1545 (by decide) (fun _ => ?_) (fun hne => absurd (rfl) hne)
      exact K H9 locs9 ⟨L, M, Θ, Ξ, h8, g9, hB, oH2, oG2, ha, hr, h1, h2⟩ oS2
    · refine lwC (As := [(xs (i + 1)).toInt]) (T := [h a 1, cIm h a 0, h (cIm h a 0).toNat 0, cIl h a 0]) (ivs := [(0, 0)]) (Tiv := [(0, 2147483647), (0, 2147483647), (0, 2147483647), (0, 600)]) X (zp_X11_again_0 l) (zcv_2 zw_X11_again zr_X11_again_0 145 dL_1533 zlL_145 (by decide +kernel) (by decide +kernel)) rfl rfl rfl (by decide) (zg_c (by show (0 : Int) ≤ _; omega) (by show _ ≤ (0 : Int); omega) zg_n) (iIv_ok (by decide) hH ha y2) (by decide +kernel) ha1 hB hH hG ha (iOv_ok (n := 3) (by decide) rfl hH ha y2) hS hcs hl (rest := []) (by decide) (by simp only [List.map_cons, List.map_nil, List.reverse_cons, List.reverse_nil, List.nil_append, List.cons_append, z_ofi]) (fun out q ρ h8 H8 locs8 ho hq oE oV oH oX oG oS => ?_)
      have eo : out = zk_X11_again_0.2.2.2.1.getD 0 ([], [], [], [], []) := by
        rcases List.mem_cons.mp ho with q | q
        · exact q
        · cases q
      subst eo
      have eq : q = (0, 0, 1) := (List.cons.inj hq).1.symm
      refine tp_i 1 (by rw [eq, z_evc]; rfl) ?_
      obtain ⟨-, -, -, e3⟩ := cKp hH ha oX (by decide +kernel)
      have e0 : cLn h8 a = cIl h a 0 := (cTl_ok (v := (0, 3 + 3, 0)) oV z_gd1 (by decide +kernel)).trans (by
        show _ + (0 : Int) = _
        rw [z_gdn (a := a) (As := [(xs (i + 1)).toInt]) (T := [h a 1, cIm h a 0, h (cIm h a 0).toNat 0, cIl h a 0]) (ρ := ρ) (n := 3) (j := 3) rfl (by simp), Int.add_zero]
        rfl)
      refine lv_aload_n hx hb dL_1536 rfl (lv_at hl 1 rfl) ?_
      refine lw_arg X.1 X.2.1 oS hl 1 hi (by decide) (by decide +kernel) dL_1537 dL_1538 dL_1539 dL_1540 dL_1541 ?_
      refine lwR (As := [(xs (i + 1)).toInt]) (T := bTv g r 1 0) (ivs := [(0, 0)]) (Tiv := [(0, 2147483647), (0, 600), (0, 2147483647), (0, 2), (0, 2), (0, 2), (0, 2147483647), (0, 8), (0, 9), (0, 8), (0, 9), (0, 2147483647), (1, 1)]) X (zp_X12_again_0 l) (zcv_2 zw_X12_again zr_X12_again_0 148 dL_1542 zlL_148 (by decide +kernel) (by decide +kernel)) rfl rfl rfl (by decide) (zg_c (by show (0 : Int) ≤ _; omega) (by show _ ≤ (0 : Int); omega) zg_n) (bIv_ok (by decide) (by decide) ⟨by show (1 : Int) ≤ _; omega, by show _ ≤ (1 : Int); omega⟩ oG hr) (by decide +kernel) hr1 hB oH oG hr (bOv_ok (n := 3) (by decide) (by decide) rfl oG hr) oS hcs hl (rest := [.int 1]) (by simp [Value.category]) (by simp only [List.map_cons, List.map_nil, List.reverse_cons, List.reverse_nil, List.nil_append, List.cons_append, z_ofi]) (fun out2 q2 ρ2 g9 H9 locs9 ho2 hq2 oE2 oV2 oH2 oX2 oG2 oS2 => ?_)
      have eo2 : out2 = zk_X12_again_0.2.2.2.1.getD 0 ([], [], [], [], []) := by
        rcases List.mem_cons.mp ho2 with q | q
        · exact q
        · cases q
      subst eo2
      have eq2 : q2 = (0, 0, 1) := (List.cons.inj hq2).1.symm
      refine tp_i 1 (by rw [eq2, z_evc]; rfl) ?_
      have ev : ∀ (j : Nat) (hj : j < 13), zev ((([0, (r : Int)] ++ [(xs (i + 1)).toInt]) ++ bTv g r 1 0) ++ ρ2) (0, 3 + j, 0) = (bTv g r 1 0).getD j 0 := fun j hj => by
        show _ + (0 : Int) = _
        rw [z_gdn (a := r) (As := [(xs (i + 1)).toInt]) (T := bTv g r 1 0) (ρ := ρ2) (n := 3) (j := j) rfl hj, Int.add_zero]
      have x1 : rSz g9 r 0 = rSz g r 1 := (jEl_ok (f := 2) (kd := 1) (k := 0) (v := (0, 3 + 1, 0)) oV2 z_gd1 (by decide +kernel)).trans (ev 1 (by decide))
      have x2 : rMn g9 r 0 = rMn g r 3 := (jEl_ok (f := 5) (kd := 4) (k := 0) (v := (0, 3 + 3, 0)) oV2 z_gd1 (by decide +kernel)).trans (ev 3 (by decide))
      have x3 : rSe g9 r 0 = rSe g r 100 := (jEl_ok (f := 6) (kd := 5) (k := 0) (v := (0, 3 + 7, 0)) oV2 z_gd1 (by decide +kernel)).trans (ev 7 (by decide))
      have x4 : rSe g9 r 4 = rSe g r 104 := (jEl_ok (f := 6) (kd := 5) (k := 4) (v := (0, 3 + 8, 0)) oV2 z_gd1 (by decide +kernel)).trans (ev 8 (by decide))
      have x5 : rSe g9 r 50 = rSe g r 150 := (jEl_ok (f := 6) (kd := 5) (k := 50) (v := (0, 3 + 9, 0)) oV2 z_gd1 (by decide +kernel)).trans (ev 9 (by decide))
      have x6 : rSe g9 r 54 = rSe g r 154 := (jEl_ok (f := 6) (kd := 5) (k := 54) (v := (0, 3 + 10, 0)) oV2 z_gd1 (by decide +kernel)).trans (ev 10 (by decide))
      have f0 : effr zk_X12_again_0.2.2.2.2 = true := by decide +kernel
      have b1 := rKb (t := 1) oG hr oX2 f0 (by decide +kernel)
      have b2 := rKb (t := 2) oG hr oX2 f0 (by decide +kernel)
      have b3 := rKb (t := 3) oG hr oX2 f0 (by decide +kernel)
      have J9 : lJb g9 r 0 := by
        show (0 < rMn g9 r 0 → 2 ≤ rSe g9 r 0 ∧ 1 ≤ rSe g9 r 4) ∧ (1 < rMn g9 r 0 → 2 ≤ rSe g9 r 50 ∧ 1 ≤ rSe g9 r 54)
        rw [x2, x3, x4, x5, x6]
        exact hJ 1 (by decide)
      refine lv_icmp_eq (tgt := 1550) hx hb dL_1545 (by decide) (fun _ => ?_) (fun hne => absurd (rfl) hne)
      refine K H9 locs9 ⟨L, M, Θ, Ξ, h8, g9, hB, oH2, oG2, ha, hr, ⟨by rw [x1, e0]; exact y3, fun k hk => ?_⟩, fun t ht => ?_⟩ oS2
      · rcases (show k = 0 ∨ k = 1 ∨ k = 2 by omega) with rfl | rfl | rfl
        · exact lRk_eq (hR.2 0 (by decide)) (e3 0 (by decide)).1 (e3 0 (by decide)).2 (rKk oG hr oX2 f0 (by decide +kernel)) b1.1
        · exact lRk_eq (hR.2 1 (by decide)) (e3 1 (by decide)).1 (e3 1 (by decide)).2 (rKk oG hr oX2 f0 (by decide +kernel)) b2.1
        · exact lRk_eq (hR.2 2 (by decide)) (e3 2 (by decide)).1 (e3 2 (by decide)).2 (rKk oG hr oX2 f0 (by decide +kernel)) b3.1
      · rcases (show t = 0 ∨ t = 1 ∨ t = 2 ∨ t = 3 by omega) with rfl | rfl | rfl | rfl
        · exact J9
        · exact b1.J (hJ 1 (by decide))
        · exact b2.J (hJ 2 (by decide))
        · exact b3.J (hJ 3 (by decide))
  · obtain ⟨L, M, Θ, Ξ, h, g, hB, hH, hG, ha, hr, hR, hJ⟩ := hI
    rcases hR.2 1 (by decide) with ⟨y1, y2⟩ | ⟨y1, y2, y3⟩
    · refine lwC (As := [(xs (i + 1)).toInt]) (T := [h a 1, cIm h a 1]) (ivs := [(1, 1)]) (Tiv := [(0, 2147483647), (-1, -1)]) X (zp_X11_again_3 l) (zcv_2 zw_X11_again zr_X11_again_3 145 dL_1533 zlL_145 (by decide +kernel) (by decide +kernel)) rfl rfl rfl (by decide) (zg_c (by show (1 : Int) ≤ _; omega) (by show _ ≤ (1 : Int); omega) zg_n) (zg_c (cP1 hH ha).1 (zH_in hH ha zkd_63 (j := 1) (by decide)).2.2 (zg_c (by show (-1 : Int) ≤ _; omega) (by show _ ≤ (-1 : Int); omega) zg_n)) (by decide +kernel) ha1 hB hH hG ha (nOv_ok (n := 3) (by decide) rfl hH ha) hS hcs hl (rest := []) (by decide) (by simp only [List.map_cons, List.map_nil, List.reverse_cons, List.reverse_nil, List.nil_append, List.cons_append, z_ofi]) (fun out q ρ h8 H8 locs8 ho hq oE oV oH oX oG oS => ?_)
      have eo : out = zk_X11_again_3.2.2.2.1.getD 0 ([], [], [], [], []) := by
        rcases List.mem_cons.mp ho with q | q
        · exact q
        · cases q
      subst eo
      have eq : q = (0, 0, 0) := (List.cons.inj hq).1.symm
      refine tp_i 0 (by rw [eq, z_evc]; rfl) ?_
      obtain ⟨-, -, -, e3⟩ := cKp hH ha oX (by decide +kernel)
      have e0 := cKl hH ha oX (by decide +kernel) (by decide +kernel)
      have hR8 : lRel h8 a g r := ⟨by rw [e0]; exact hR.1, fun k hk => lRk_eq (hR.2 k hk) (e3 k hk).1 (e3 k hk).2 rfl rfl⟩
      refine lv_aload_n hx hb dL_1536 rfl (lv_at hl 1 rfl) ?_
      refine lw_arg X.1 X.2.1 oS hl 1 hi (by decide) (by decide +kernel) dL_1537 dL_1538 dL_1539 dL_1540 dL_1541 ?_
      refine lwR (As := [(xs (i + 1)).toInt]) (T := [g r 63, rKp g r 1]) (ivs := [(1, 1)]) (Tiv := [(0, 2147483647), (0, 0)]) X (zp_X12_again_3 l) (zcv_2 zw_X12_again zr_X12_again_3 148 dL_1542 zlL_148 (by decide +kernel) (by decide +kernel)) rfl rfl rfl (by decide) (zg_c (by show (1 : Int) ≤ _; omega) (by show _ ≤ (1 : Int); omega) zg_n) (zg_c (rP63 oG hr).1 (zH_in oG hr zkm_35 (j := 63) (by decide +kernel)).2.2 (zg_c (by show (0 : Int) ≤ _; omega) (by show _ ≤ (0 : Int); omega) zg_n)) (by decide +kernel) hr1 hB oH oG hr (kOv_ok (n := 3) (by decide) rfl oG hr) oS hcs hl (rest := [.int 0]) (by simp [Value.category]) (by simp only [List.map_cons, List.map_nil, List.reverse_cons, List.reverse_nil, List.nil_append, List.cons_append, z_ofi]) (fun out2 q2 ρ2 g9 H9 locs9 ho2 hq2 oE2 oV2 oH2 oX2 oG2 oS2 => ?_)
      have eo2 : out2 = zk_X12_again_3.2.2.2.1.getD 0 ([], [], [], [], []) := by
        rcases List.mem_cons.mp ho2 with q | q
        · exact q
        · cases q
      subst eo2
      have eq2 : q2 = (0, 0, 0) := (List.cons.inj hq2).1.symm
      refine tp_i 0 (by rw [eq2, z_evc]; rfl) ?_
      obtain ⟨h1, h2⟩ := lwR_keep oG hr oX2 (by decide +kernel) hR8 hJ
      refine lv_icmp_eq (tgt := 1550) hx hb dL_1545 (by decide) (fun _ => ?_) (fun hne => absurd (rfl) hne)
      exact K H9 locs9 ⟨L, M, Θ, Ξ, h8, g9, hB, oH2, oG2, ha, hr, h1, h2⟩ oS2
    · refine lwC (As := [(xs (i + 1)).toInt]) (T := [h a 1, cIm h a 1, h (cIm h a 1).toNat 0, cIl h a 1]) (ivs := [(1, 1)]) (Tiv := [(0, 2147483647), (0, 2147483647), (0, 2147483647), (0, 600)]) X (zp_X11_again_2 l) (zcv_2 zw_X11_again zr_X11_again_2 145 dL_1533 zlL_145 (by decide +kernel) (by decide +kernel)) rfl rfl rfl (by decide) (zg_c (by show (1 : Int) ≤ _; omega) (by show _ ≤ (1 : Int); omega) zg_n) (iIv_ok (by decide) hH ha y2) (by decide +kernel) ha1 hB hH hG ha (iOv_ok (n := 3) (by decide) rfl hH ha y2) hS hcs hl (rest := []) (by decide) (by simp only [List.map_cons, List.map_nil, List.reverse_cons, List.reverse_nil, List.nil_append, List.cons_append, z_ofi]) (fun out q ρ h8 H8 locs8 ho hq oE oV oH oX oG oS => ?_)
      have eo : out = zk_X11_again_2.2.2.2.1.getD 0 ([], [], [], [], []) := by
        rcases List.mem_cons.mp ho with q | q
        · exact q
        · cases q
      subst eo
      have eq : q = (0, 0, 1) := (List.cons.inj hq).1.symm
      refine tp_i 1 (by rw [eq, z_evc]; rfl) ?_
      obtain ⟨-, -, -, e3⟩ := cKp hH ha oX (by decide +kernel)
      have e0 : cLn h8 a = cIl h a 1 := (cTl_ok (v := (0, 3 + 3, 0)) oV z_gd1 (by decide +kernel)).trans (by
        show _ + (0 : Int) = _
        rw [z_gdn (a := a) (As := [(xs (i + 1)).toInt]) (T := [h a 1, cIm h a 1, h (cIm h a 1).toNat 0, cIl h a 1]) (ρ := ρ) (n := 3) (j := 3) rfl (by simp), Int.add_zero]
        rfl)
      refine lv_aload_n hx hb dL_1536 rfl (lv_at hl 1 rfl) ?_
      refine lw_arg X.1 X.2.1 oS hl 1 hi (by decide) (by decide +kernel) dL_1537 dL_1538 dL_1539 dL_1540 dL_1541 ?_
      refine lwR (As := [(xs (i + 1)).toInt]) (T := bTv g r 2 1) (ivs := [(1, 1)]) (Tiv := [(0, 2147483647), (0, 600), (0, 2147483647), (0, 2), (0, 2), (0, 2), (0, 2147483647), (0, 8), (0, 9), (0, 8), (0, 9), (0, 2147483647), (1, 1)]) X (zp_X12_again_2 l) (zcv_2 zw_X12_again zr_X12_again_2 148 dL_1542 zlL_148 (by decide +kernel) (by decide +kernel)) rfl rfl rfl (by decide) (zg_c (by show (1 : Int) ≤ _; omega) (by show _ ≤ (1 : Int); omega) zg_n) (bIv_ok (by decide) (by decide) ⟨by show (1 : Int) ≤ _; omega, by show _ ≤ (1 : Int); omega⟩ oG hr) (by decide +kernel) hr1 hB oH oG hr (bOv_ok (n := 3) (by decide) (by decide) rfl oG hr) oS hcs hl (rest := [.int 1]) (by simp [Value.category]) (by simp only [List.map_cons, List.map_nil, List.reverse_cons, List.reverse_nil, List.nil_append, List.cons_append, z_ofi]) (fun out2 q2 ρ2 g9 H9 locs9 ho2 hq2 oE2 oV2 oH2 oX2 oG2 oS2 => ?_)
      have eo2 : out2 = zk_X12_again_2.2.2.2.1.getD 0 ([], [], [], [], []) := by
        rcases List.mem_cons.mp ho2 with q | q
        · exact q
        · cases q
      subst eo2
      have eq2 : q2 = (0, 0, 1) := (List.cons.inj hq2).1.symm
      refine tp_i 1 (by rw [eq2, z_evc]; rfl) ?_
      have ev : ∀ (j : Nat) (hj : j < 13), zev ((([0, (r : Int)] ++ [(xs (i + 1)).toInt]) ++ bTv g r 2 1) ++ ρ2) (0, 3 + j, 0) = (bTv g r 2 1).getD j 0 := fun j hj => by
        show _ + (0 : Int) = _
        rw [z_gdn (a := r) (As := [(xs (i + 1)).toInt]) (T := bTv g r 2 1) (ρ := ρ2) (n := 3) (j := j) rfl hj, Int.add_zero]
      have x1 : rSz g9 r 0 = rSz g r 2 := (jEl_ok (f := 2) (kd := 1) (k := 0) (v := (0, 3 + 1, 0)) oV2 z_gd1 (by decide +kernel)).trans (ev 1 (by decide))
      have x2 : rMn g9 r 0 = rMn g r 6 := (jEl_ok (f := 5) (kd := 4) (k := 0) (v := (0, 3 + 3, 0)) oV2 z_gd1 (by decide +kernel)).trans (ev 3 (by decide))
      have x3 : rSe g9 r 0 = rSe g r 200 := (jEl_ok (f := 6) (kd := 5) (k := 0) (v := (0, 3 + 7, 0)) oV2 z_gd1 (by decide +kernel)).trans (ev 7 (by decide))
      have x4 : rSe g9 r 4 = rSe g r 204 := (jEl_ok (f := 6) (kd := 5) (k := 4) (v := (0, 3 + 8, 0)) oV2 z_gd1 (by decide +kernel)).trans (ev 8 (by decide))
      have x5 : rSe g9 r 50 = rSe g r 250 := (jEl_ok (f := 6) (kd := 5) (k := 50) (v := (0, 3 + 9, 0)) oV2 z_gd1 (by decide +kernel)).trans (ev 9 (by decide))
      have x6 : rSe g9 r 54 = rSe g r 254 := (jEl_ok (f := 6) (kd := 5) (k := 54) (v := (0, 3 + 10, 0)) oV2 z_gd1 (by decide +kernel)).trans (ev 10 (by decide))
      have f0 : effr zk_X12_again_2.2.2.2.2 = true := by decide +kernel
      have b1 := rKb (t := 1) oG hr oX2 f0 (by decide +kernel)
      have b2 := rKb (t := 2) oG hr oX2 f0 (by decide +kernel)
      have b3 := rKb (t := 3) oG hr oX2 f0 (by decide +kernel)
      have J9 : lJb g9 r 0 := by
        show (0 < rMn g9 r 0 → 2 ≤ rSe g9 r 0 ∧ 1 ≤ rSe g9 r 4) ∧ (1 < rMn g9 r 0 → 2 ≤ rSe g9 r 50 ∧ 1 ≤ rSe g9 r 54)
        rw [x2, x3, x4, x5, x6]
        exact hJ 2 (by decide)
      refine lv_icmp_eq (tgt := 1550) hx hb dL_1545 (by decide) (fun _ => ?_) (fun hne => absurd (rfl) hne)
      refine K H9 locs9 ⟨L, M, Θ, Ξ, h8, g9, hB, oH2, oG2, ha, hr, ⟨by rw [x1, e0]; exact y3, fun k hk => ?_⟩, fun t ht => ?_⟩ oS2
      · rcases (show k = 0 ∨ k = 1 ∨ k = 2 by omega) with rfl | rfl | rfl
        · exact lRk_eq (hR.2 0 (by decide)) (e3 0 (by decide)).1 (e3 0 (by decide)).2 (rKk oG hr oX2 f0 (by decide +kernel)) b1.1
        · exact lRk_eq (hR.2 1 (by decide)) (e3 1 (by decide)).1 (e3 1 (by decide)).2 (rKk oG hr oX2 f0 (by decide +kernel)) b2.1
        · exact lRk_eq (hR.2 2 (by decide)) (e3 2 (by decide)).1 (e3 2 (by decide)).2 (rKk oG hr oX2 f0 (by decide +kernel)) b3.1
      · rcases (show t = 0 ∨ t = 1 ∨ t = 2 ∨ t = 3 by omega) with rfl | rfl | rfl | rfl
        · exact J9
        · exact b1.J (hJ 1 (by decide))
        · exact b2.J (hJ 2 (by decide))
        · exact b3.J (hJ 3 (by decide))
  · obtain ⟨L, M, Θ, Ξ, h, g, hB, hH, hG, ha, hr, hR, hJ⟩ := hI
    rcases hR.2 2 (by decide) with ⟨y1, y2⟩ | ⟨y1, y2, y3⟩
    · refine lwC (As := [(xs (i + 1)).toInt]) (T := [h a 1, cIm h a 2]) (ivs := [(2, 2)]) (Tiv := [(0, 2147483647), (-1, -1)]) X (zp_X11_again_5 l) (zcv_2 zw_X11_again zr_X11_again_5 145 dL_1533 zlL_145 (by decide +kernel) (by decide +kernel)) rfl rfl rfl (by decide) (zg_c (by show (2 : Int) ≤ _; omega) (by show _ ≤ (2 : Int); omega) zg_n) (zg_c (cP1 hH ha).1 (zH_in hH ha zkd_63 (j := 1) (by decide)).2.2 (zg_c (by show (-1 : Int) ≤ _; omega) (by show _ ≤ (-1 : Int); omega) zg_n)) (by decide +kernel) ha1 hB hH hG ha (nOv_ok (n := 3) (by decide) rfl hH ha) hS hcs hl (rest := []) (by decide) (by simp only [List.map_cons, List.map_nil, List.reverse_cons, List.reverse_nil, List.nil_append, List.cons_append, z_ofi]) (fun out q ρ h8 H8 locs8 ho hq oE oV oH oX oG oS => ?_)
      have eo : out = zk_X11_again_5.2.2.2.1.getD 0 ([], [], [], [], []) := by
        rcases List.mem_cons.mp ho with q | q
        · exact q
        · cases q
      subst eo
      have eq : q = (0, 0, 0) := (List.cons.inj hq).1.symm
      refine tp_i 0 (by rw [eq, z_evc]; rfl) ?_
      obtain ⟨-, -, -, e3⟩ := cKp hH ha oX (by decide +kernel)
      have e0 := cKl hH ha oX (by decide +kernel) (by decide +kernel)
      have hR8 : lRel h8 a g r := ⟨by rw [e0]; exact hR.1, fun k hk => lRk_eq (hR.2 k hk) (e3 k hk).1 (e3 k hk).2 rfl rfl⟩
      refine lv_aload_n hx hb dL_1536 rfl (lv_at hl 1 rfl) ?_
      refine lw_arg X.1 X.2.1 oS hl 1 hi (by decide) (by decide +kernel) dL_1537 dL_1538 dL_1539 dL_1540 dL_1541 ?_
      refine lwR (As := [(xs (i + 1)).toInt]) (T := [g r 63, rKp g r 2]) (ivs := [(2, 2)]) (Tiv := [(0, 2147483647), (0, 0)]) X (zp_X12_again_5 l) (zcv_2 zw_X12_again zr_X12_again_5 148 dL_1542 zlL_148 (by decide +kernel) (by decide +kernel)) rfl rfl rfl (by decide) (zg_c (by show (2 : Int) ≤ _; omega) (by show _ ≤ (2 : Int); omega) zg_n) (zg_c (rP63 oG hr).1 (zH_in oG hr zkm_35 (j := 63) (by decide +kernel)).2.2 (zg_c (by show (0 : Int) ≤ _; omega) (by show _ ≤ (0 : Int); omega) zg_n)) (by decide +kernel) hr1 hB oH oG hr (kOv_ok (n := 3) (by decide) rfl oG hr) oS hcs hl (rest := [.int 0]) (by simp [Value.category]) (by simp only [List.map_cons, List.map_nil, List.reverse_cons, List.reverse_nil, List.nil_append, List.cons_append, z_ofi]) (fun out2 q2 ρ2 g9 H9 locs9 ho2 hq2 oE2 oV2 oH2 oX2 oG2 oS2 => ?_)
      have eo2 : out2 = zk_X12_again_5.2.2.2.1.getD 0 ([], [], [], [], []) := by
        rcases List.mem_cons.mp ho2 with q | q
        · exact q
        · cases q
      subst eo2
      have eq2 : q2 = (0, 0, 0) := (List.cons.inj hq2).1.symm
      refine tp_i 0 (by rw [eq2, z_evc]; rfl) ?_
      obtain ⟨h1, h2⟩ := lwR_keep oG hr oX2 (by decide +kernel) hR8 hJ
      refine lv_icmp_eq (tgt := 1550) hx hb dL_1545 (by decide) (fun _ => ?_) (fun hne => absurd (rfl) hne)
      exact K H9 locs9 ⟨L, M, Θ, Ξ, h8, g9, hB, oH2, oG2, ha, hr, h1, h2⟩ oS2
    · refine lwC (As := [(xs (i + 1)).toInt]) (T := [h a 1, cIm h a 2, h (cIm h a 2).toNat 0, cIl h a 2]) (ivs := [(2, 2)]) (Tiv := [(0, 2147483647), (0, 2147483647), (0, 2147483647), (0, 600)]) X (zp_X11_again_4 l) (zcv_2 zw_X11_again zr_X11_again_4 145 dL_1533 zlL_145 (by decide +kernel) (by decide +kernel)) rfl rfl rfl (by decide) (zg_c (by show (2 : Int) ≤ _; omega) (by show _ ≤ (2 : Int); omega) zg_n) (iIv_ok (by decide) hH ha y2) (by decide +kernel) ha1 hB hH hG ha (iOv_ok (n := 3) (by decide) rfl hH ha y2) hS hcs hl (rest := []) (by decide) (by simp only [List.map_cons, List.map_nil, List.reverse_cons, List.reverse_nil, List.nil_append, List.cons_append, z_ofi]) (fun out q ρ h8 H8 locs8 ho hq oE oV oH oX oG oS => ?_)
      have eo : out = zk_X11_again_4.2.2.2.1.getD 0 ([], [], [], [], []) := by
        rcases List.mem_cons.mp ho with q | q
        · exact q
        · cases q
      subst eo
      have eq : q = (0, 0, 1) := (List.cons.inj hq).1.symm
      refine tp_i 1 (by rw [eq, z_evc]; rfl) ?_
      obtain ⟨-, -, -, e3⟩ := cKp hH ha oX (by decide +kernel)
      have e0 : cLn h8 a = cIl h a 2 := (cTl_ok (v := (0, 3 + 3, 0)) oV z_gd1 (by decide +kernel)).trans (by
        show _ + (0 : Int) = _
        rw [z_gdn (a := a) (As := [(xs (i + 1)).toInt]) (T := [h a 1, cIm h a 2, h (cIm h a 2).toNat 0, cIl h a 2]) (ρ := ρ) (n := 3) (j := 3) rfl (by simp), Int.add_zero]
        rfl)
      refine lv_aload_n hx hb dL_1536 rfl (lv_at hl 1 rfl) ?_
      refine lw_arg X.1 X.2.1 oS hl 1 hi (by decide) (by decide +kernel) dL_1537 dL_1538 dL_1539 dL_1540 dL_1541 ?_
      refine lwR (As := [(xs (i + 1)).toInt]) (T := bTv g r 3 2) (ivs := [(2, 2)]) (Tiv := [(0, 2147483647), (0, 600), (0, 2147483647), (0, 2), (0, 2), (0, 2), (0, 2147483647), (0, 8), (0, 9), (0, 8), (0, 9), (0, 2147483647), (1, 1)]) X (zp_X12_again_4 l) (zcv_2 zw_X12_again zr_X12_again_4 148 dL_1542 zlL_148 (by decide +kernel) (by decide +kernel)) rfl rfl rfl (by decide) (zg_c (by show (2 : Int) ≤ _; omega) (by show _ ≤ (2 : Int); omega) zg_n) (bIv_ok (by decide) (by decide) ⟨by show (1 : Int) ≤ _; omega, by show _ ≤ (1 : Int); omega⟩ oG hr) (by decide +kernel) hr1 hB oH oG hr (bOv_ok (n := 3) (by decide) (by decide) rfl oG hr) oS hcs hl (rest := [.int 1]) (by simp [Value.category]) (by simp only [List.map_cons, List.map_nil, List.reverse_cons, List.reverse_nil, List.nil_append, List.cons_append, z_ofi]) (fun out2 q2 ρ2 g9 H9 locs9 ho2 hq2 oE2 oV2 oH2 oX2 oG2 oS2 => ?_)
      have eo2 : out2 = zk_X12_again_4.2.2.2.1.getD 0 ([], [], [], [], []) := by
        rcases List.mem_cons.mp ho2 with q | q
        · exact q
        · cases q
      subst eo2
      have eq2 : q2 = (0, 0, 1) := (List.cons.inj hq2).1.symm
      refine tp_i 1 (by rw [eq2, z_evc]; rfl) ?_
      have ev : ∀ (j : Nat) (hj : j < 13), zev ((([0, (r : Int)] ++ [(xs (i + 1)).toInt]) ++ bTv g r 3 2) ++ ρ2) (0, 3 + j, 0) = (bTv g r 3 2).getD j 0 := fun j hj => by
        show _ + (0 : Int) = _
        rw [z_gdn (a := r) (As := [(xs (i + 1)).toInt]) (T := bTv g r 3 2) (ρ := ρ2) (n := 3) (j := j) rfl hj, Int.add_zero]
      have x1 : rSz g9 r 0 = rSz g r 3 := (jEl_ok (f := 2) (kd := 1) (k := 0) (v := (0, 3 + 1, 0)) oV2 z_gd1 (by decide +kernel)).trans (ev 1 (by decide))
      have x2 : rMn g9 r 0 = rMn g r 9 := (jEl_ok (f := 5) (kd := 4) (k := 0) (v := (0, 3 + 3, 0)) oV2 z_gd1 (by decide +kernel)).trans (ev 3 (by decide))
      have x3 : rSe g9 r 0 = rSe g r 300 := (jEl_ok (f := 6) (kd := 5) (k := 0) (v := (0, 3 + 7, 0)) oV2 z_gd1 (by decide +kernel)).trans (ev 7 (by decide))
      have x4 : rSe g9 r 4 = rSe g r 304 := (jEl_ok (f := 6) (kd := 5) (k := 4) (v := (0, 3 + 8, 0)) oV2 z_gd1 (by decide +kernel)).trans (ev 8 (by decide))
      have x5 : rSe g9 r 50 = rSe g r 350 := (jEl_ok (f := 6) (kd := 5) (k := 50) (v := (0, 3 + 9, 0)) oV2 z_gd1 (by decide +kernel)).trans (ev 9 (by decide))
      have x6 : rSe g9 r 54 = rSe g r 354 := (jEl_ok (f := 6) (kd := 5) (k := 54) (v := (0, 3 + 10, 0)) oV2 z_gd1 (by decide +kernel)).trans (ev 10 (by decide))
      have f0 : effr zk_X12_again_4.2.2.2.2 = true := by decide +kernel
      have b1 := rKb (t := 1) oG hr oX2 f0 (by decide +kernel)
      have b2 := rKb (t := 2) oG hr oX2 f0 (by decide +kernel)
      have b3 := rKb (t := 3) oG hr oX2 f0 (by decide +kernel)
      have J9 : lJb g9 r 0 := by
        show (0 < rMn g9 r 0 → 2 ≤ rSe g9 r 0 ∧ 1 ≤ rSe g9 r 4) ∧ (1 < rMn g9 r 0 → 2 ≤ rSe g9 r 50 ∧ 1 ≤ rSe g9 r 54)
        rw [x2, x3, x4, x5, x6]
        exact hJ 3 (by decide)
      refine lv_icmp_eq (tgt := 1550) hx hb dL_1545 (by decide) (fun _ => ?_) (fun hne => absurd (rfl) hne)
      refine K H9 locs9 ⟨L, M, Θ, Ξ, h8, g9, hB, oH2, oG2, ha, hr, ⟨by rw [x1, e0]; exact y3, fun k hk => ?_⟩, fun t ht => ?_⟩ oS2
      · rcases (show k = 0 ∨ k = 1 ∨ k = 2 by omega) with rfl | rfl | rfl
        · exact lRk_eq (hR.2 0 (by decide)) (e3 0 (by decide)).1 (e3 0 (by decide)).2 (rKk oG hr oX2 f0 (by decide +kernel)) b1.1
        · exact lRk_eq (hR.2 1 (by decide)) (e3 1 (by decide)).1 (e3 1 (by decide)).2 (rKk oG hr oX2 f0 (by decide +kernel)) b2.1
        · exact lRk_eq (hR.2 2 (by decide)) (e3 2 (by decide)).1 (e3 2 (by decide)).2 (rKk oG hr oX2 f0 (by decide +kernel)) b3.1
      · rcases (show t = 0 ∨ t = 1 ∨ t = 2 ∨ t = 3 by omega) with rfl | rfl | rfl | rfl
        · exact J9
        · exact b1.J (hJ 1 (by decide))
        · exact b2.J (hJ 2 (by decide))
        · exact b3.J (hJ 3 (by decide))
