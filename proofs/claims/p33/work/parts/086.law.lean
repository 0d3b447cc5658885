variable {η : zRn}
theorem dX11_image_0 : decode cX11_image 0 = .ok (.iload_n 1, 1) := by decide +kernel
theorem dX11_image_1 : decode cX11_image 1 = .ok (.ifCond .lt 8, 3) := by decide +kernel
theorem dX11_image_4 : decode cX11_image 4 = .ok (.iload_n 1, 1) := by decide +kernel
theorem dX11_image_5 : decode cX11_image 5 = .ok (.iconst 3, 1) := by decide +kernel
theorem dX11_image_6 : decode cX11_image 6 = .ok (.if_icmp .lt 5, 3) := by decide +kernel
theorem dX11_image_9 : decode cX11_image 9 = .ok (.iconst 0, 1) := by decide +kernel
theorem dX11_image_10 : decode cX11_image 10 = .ok (.ireturn, 1) := by decide +kernel
theorem dX11_image_11 : decode cX11_image 11 = .ok (.aload_n 0, 1) := by decide +kernel
theorem dX11_image_12 : decode cX11_image 12 = .ok (.getfield 16, 3) := by decide +kernel
theorem dX11_image_15 : decode cX11_image 15 = .ok (.iload_n 1, 1) := by decide +kernel
theorem dX11_image_16 : decode cX11_image 16 = .ok (.aaload, 1) := by decide +kernel
theorem dX11_image_17 : decode cX11_image 17 = .ok (.ifnonnull 16, 3) := by decide +kernel
theorem dX11_image_20 : decode cX11_image 20 = .ok (.aload_n 0, 1) := by decide +kernel
theorem dX11_image_21 : decode cX11_image 21 = .ok (.getfield 16, 3) := by decide +kernel
theorem dX11_image_24 : decode cX11_image 24 = .ok (.iload_n 1, 1) := by decide +kernel
theorem dX11_image_25 : decode cX11_image 25 = .ok (.new 7, 3) := by decide +kernel
theorem dX11_image_28 : decode cX11_image 28 = .ok (.dup, 1) := by decide +kernel
theorem dX11_image_29 : decode cX11_image 29 = .ok (.invokespecial 9, 3) := by decide +kernel
theorem dX11_image_32 : decode cX11_image 32 = .ok (.aastore, 1) := by decide +kernel
theorem dX11_image_33 : decode cX11_image 33 = .ok (.aload_n 0, 1) := by decide +kernel
theorem dX11_image_34 : decode cX11_image 34 = .ok (.getfield 16, 3) := by decide +kernel
theorem dX11_image_37 : decode cX11_image 37 = .ok (.iload_n 1, 1) := by decide +kernel
theorem dX11_image_38 : decode cX11_image 38 = .ok (.aaload, 1) := by decide +kernel
theorem dX11_image_39 : decode cX11_image 39 = .ok (.aload_n 0, 1) := by decide +kernel
theorem dX11_image_40 : decode cX11_image 40 = .ok (.getfield 10, 3) := by decide +kernel
theorem dX11_image_43 : decode cX11_image 43 = .ok (.invokevirtual 382, 3) := by decide +kernel
theorem dX11_image_46 : decode cX11_image 46 = .ok (.iconst 1, 1) := by decide +kernel
theorem dX11_image_47 : decode cX11_image 47 = .ok (.ireturn, 1) := by decide +kernel
/-! image(): made where there is none, then told over -/
section IMG
variable {D : va_G} {cl : List vw_C} {cy : Nat → ClassId} {L : List Nat} {Θ : Nat → Option Nat} {h : Nat → Nat → Int} {H : Heap} {locs : List Loc} {cells slots : Nat}
variable {p : Program} {l : Launch} {e : Env} {R : Room} {s : State} {m : MethodId} {args : Array Value} {below : List Frame} {meth : Method} {c : Code} {Q : State → Prop}
variable {cc : ByteArray} {pc : Nat} {Ts : List Cond} {own : String} {ls : Array Slot} {rest : List Value}
theorem hg_get {kds : List zKD} {tys : List (ClassId × FieldType)} (hexec : p.tables.exec = Jvm.exec) (hb : c.code = cc) (hts : ∀ w ∈ Ts, w.before args s = true) (hown : s.vm.findClass own = some m.cls) (hKa : va_K D cl tys s) {idx ci k kk : Nat} {o : Option FieldType} {a : Nat} {K : zKD} (hF : zFok own Ts cl (idx, ci, k, o)) (hΘ : Θ a = some kk) (hK : kds[kk]? = some K) (hKf : K.1 = 0 ∧ K.2.1 = ci) (hk : k < K.2.2.1) (hH : zH η kds D cl cy L Θ h H) (hdg : decode cc pc = .ok (.getfield idx, 3))
    (w : W p l e R s m args below meth c H locs cells slots Q (F0 m (pc + 3) ls (zdec η (zty K k).1 (h a k) :: rest))) : W p l e R s m args below meth c H locs cells slots Q (F0 m pc ls (.ref (η.1 a) :: rest)) := by
  obtain ⟨C, T, N, e1, e2, e3, e4, -⟩ := hF
  obtain ⟨q0, hq⟩ := zH_get hH hΘ hK (by omega)
  rw [zE_o hKf.1, hKf.2] at hq
  exact va_get (v := zdec η (zty K k).1 (h a k)) hexec hb hts e2 hown hKa hH.1 q0 hq e1 k e3 (hts _ e4) (fun _ x => x) (z_fs hk) hdg w
/-- the array of images is read -/
theorem hg_img (hexec : p.tables.exec = Jvm.exec) (hb : c.code = cc) (hKa : va_K D cl (tyW cy) s) {im : Nat} (him : Θ im = some 62) (hH : zH η zkds D cl cy L Θ h H) {x : Int32} {k : Nat} (hx : x.toInt = (k : Int)) (hk : k < 3) (hdg : decode cc pc = .ok (.aaload, 1))
    (w : W p l e R s m args below meth c H locs cells slots Q (F0 m (pc + 1) ls (va_rf (zrf η (h im k)) :: rest))) : W p l e R s m args below meth c H locs cells slots Q (F0 m pc ls (.int x :: .ref (η.1 im) :: rest)) := by
  obtain ⟨q0, hq⟩ := zH_get hH him zkd_62 (by decide)
  rw [zE_q rfl] at hq
  obtain ⟨v1, v2⟩ := z_vin (i := x) (n := 3) (by omega) (by omega)
  refine va_aldq hexec hb hKa hH.1 q0 6 hq (by rfl) v1 hdg ?_
  have ek : x.toNatClampNeg = k := by rw [v2]; omega
  show W p l e R s m args below meth c H locs cells slots Q (F0 m (pc + 1) ls (va_rf (zrf η (h im x.toNatClampNeg)) :: rest))
  rw [ek]
  exact w
end IMG

theorem zl_img : Cond.methodLink RX11 382 yX9_copyFrom ∈ zTW := zTin 1279 (by decide +kernel) rfl
set_option maxHeartbeats 4000000 in
set_option maxRecDepth 10000 in
theorem img_tl0 {D : va_G} {cy : Nat → ClassId} {L : List Nat} {Θ : Nat → Option Nat} {h : Nat → Nat → Int} {H : Heap} {locs : List Loc} {cells slots : Nat} {p : Program} {l : Launch} {e : Env} {R : Room} {s : State} {m : MethodId} {args : Array Value} {below : List Frame} {meth : Method} {c : Code} {Q : State → Prop} {w0 : Cond} {ls : Array Slot} {A : Nat → Prop} {base : Nat} {tb adK adV : Nat → Nat} {fv : Option Nat} {a : Nat} {x : Int32} (hη : η = zη base adK) (S : CallFix p m c cX11_image 2 s args (w0 :: zTW) RX11) (hKW : KW D cy s) (hZ : zS0 base tb adK adV fv s)
    (hH : zH η zkds D vwCl cy L Θ h H) (hnd : L.Nodup) (hLb : ∀ q ∈ L, base ≤ q) (hN : zNm Θ) (ha : Θ a = some 63) (him : 0 ≤ cIm h a 0) (hLA : ∀ q ∈ L, A q) (hS : va_S A s.heap H locs) (hq : ∀ q : Nat, q < s.heap.size → q ∉ L → H[q]? = s.heap[q]?) (hcs : cells ≤ R.cells ∧ slots ≤ R.slots) (hfr : 3 ≤ R.frames) (hlo : 69 ≤ R.locals) (hl : lv_has ls 2 [(0, .ref (η.1 a)), (1, .int x)]) (hxk : x.toInt = 0)
    (K : ∀ (h' : Nat → Nat → Int) (H1 : Heap) (locs1 : List Loc), zH η zkds D vwCl cy L Θ h' H1 → imgR 0 h h' a → H.size ≤ H1.size → (∀ q : Nat, q < H.size → q ∉ L → H1[q]? = H[q]?) → va_S A s.heap H1 locs1 → W p l e R s m args below meth c H1 locs1 cells slots Q (F0 m 46 ls [])) : W p l e R s m args below meth c H locs cells slots Q (F0 m 33 ls []) := by
  obtain ⟨hx, hb, hml, hown, hts⟩ := id S
  have hKa : va_K D vwCl (tyW cy) s := hKW.1
  have c0 := cP0 hH ha
  have c1 := cP1 hH ha
  have c2 := cP2 hH ha
  have c3 := cP3 hH ha
  have c4 : Θ (cIm h a 0).toNat = some (29 + 0) := by
    rcases cP4 hH ha (k := 0) (by decide) with q | q
    · omega
    · exact q.2
  refine lv_aload_n hx hb dX11_image_33 rfl (lv_at hl 0 rfl) ?_
  refine hg_get hx hb hts hown hKa (zFok_mono (fun w hw => List.mem_cons_of_mem _ hw) zf_RX11_16) ha zkd_63 ⟨rfl, rfl⟩ (by decide) hH dX11_image_34 ?_
  rw [show (zty (0, 11, 7, [(30, 0, 2147483647), (64, 0, 2147483647), (36, 0, 2147483647), (48, 0, 2147483647), (49, 0, 2147483647), (53, 0, 2147483647), (60, 0, 2147483647)]) 1).1 = 62 + 2 from rfl, z_dx 62 c1.1]
  refine lv_iload_n hx hb dX11_image_37 rfl (lv_at hl 1 rfl) ?_
  refine hg_img hx hb hKa c1.2 hH hxk (by decide) dX11_image_38 ?_
  have ei : va_rf (zrf η (h (h a 1).toNat 0)) = .ref (η.1 (cIm h a 0).toNat) := z_dx (η := η) (29 + 0) him
  rw [ei]
  refine lv_aload_n hx hb dX11_image_39 rfl (lv_at hl 0 rfl) ?_
  refine hg_get hx hb hts hown hKa (zFok_mono (fun w hw => List.mem_cons_of_mem _ hw) zf_RX11_10) ha zkd_63 ⟨rfl, rfl⟩ (by decide) hH dX11_image_40 ?_
  rw [show (zty (0, 11, 7, [(30, 0, 2147483647), (64, 0, 2147483647), (36, 0, 2147483647), (48, 0, 2147483647), (49, 0, 2147483647), (53, 0, 2147483647), (60, 0, 2147483647)]) 0).1 = 28 + 2 from rfl, z_dx 28 c0.1]
  have b1 : cIm h a 0 ≤ 2147483647 := (zH_in hH c1.2 zkd_62 (j := 0) (by decide)).2.2
  have b0 : h a 0 ≤ 2147483647 := (zH_in hH ha zkd_63 (j := 0) (by decide)).2.2
  have b2 : h (h a 0).toNat 0 ≤ 2147483647 := (zH_in hH c0.2 zkd_28 (j := 0) (by decide)).2.2
  have hE : zge [0, cIm h a 0, h a 0, h (h a 0).toNat 0, cLn h a] zk_X9_copyFrom_3.2.2.1.2.1 := zg_c (by decide) (by decide) (zg_c him b1 (zg_c c0.1 b0 (zg_c c2.1 b2 (zg_c c3.1 c3.2 zg_n))))
  have hA : ∀ q ∈ zk_X9_copyFrom_3.2.2.1.1, zga Θ [0, cIm h a 0, h a 0, h (h a 0).toNat 0, cLn h a] q := by
    intro q hq
    rcases List.mem_cons.mp hq with rfl | hq
    · refine ⟨Nat.le_of_ble_eq_true rfl, Or.inr ⟨?_, ?_⟩⟩
      · show 0 ≤ cIm h a 0 + 0
        omega
      · show Θ (cIm h a 0 + 0).toNat = some _
        rw [Int.add_zero]
        exact c4
    · rcases List.mem_cons.mp hq with rfl | hq
      · refine ⟨Nat.le_of_ble_eq_true rfl, Or.inr ⟨?_, ?_⟩⟩
        · show 0 ≤ h a 0 + 0
          have := c0.1
          omega
        · show Θ (h a 0 + 0).toNat = some _
          rw [Int.add_zero]
          exact c0.2
      · cases hq
  have hV : zgv Θ h [0, cIm h a 0, h a 0, h (h a 0).toNat 0, cLn h a] zk_X9_copyFrom_3.2.2.1.2.2.2.2.1 :=
    z_ov1 (Nat.le_of_ble_eq_true rfl) (Nat.le_of_ble_eq_true rfl) c0.1 c0.2 rfl (Or.inr ⟨c2.1, c2.2⟩) (z_ov1 (Nat.le_of_ble_eq_true rfl) (Nat.le_of_ble_eq_true rfl) c2.1 c2.2 rfl (by
      show -2147483648 ≤ cLn h a ∧ cLn h a ≤ 2147483647
      omega) z_ov0)
  refine lw_call zkp_ok zTW_good rfl (zp_X9_copyFrom_3 l) hnd S (show zKP η D cy L Θ s from ⟨hKW, zST_of hη hZ hLb hN⟩) (zcv_2 zw_X9_copyFrom zr_X9_copyFrom_3 382 dX11_image_43 zl_img (Nat.le_trans (by decide +kernel) hfr) (Nat.le_trans (by decide +kernel) hlo)) hcs hE hA hV z_rl0 hH hLA hS hq hl.1 (rest := []) (by decide) ?_ (fun v out ρ h' H1 locs1 ho oE oS ov oV oH oX oz oq oSS => ?_)
  · have v1 : zvo η [0, cIm h a 0, h a 0, h (h a 0).toNat 0, cLn h a] (31, 1, 0) = .ref (η.1 (cIm h a 0).toNat) := by
      show zdec η (29 + 0 + 2) (cIm h a 0 + 0) = _
      rw [Int.add_zero]
      exact z_dx (29 + 0) him
    have v2 : zvo η [0, cIm h a 0, h a 0, h (h a 0).toNat 0, cLn h a] (30, 2, 0) = .ref (η.1 (h a 0).toNat) := by
      show zdec η (28 + 2) (h a 0 + 0) = _
      rw [Int.add_zero]
      exact z_dx 28 c0.1
    show _ = (List.map (zvo η [0, cIm h a 0, h a 0, h (h a 0).toNat 0, cLn h a]) [(31, 1, 0), (30, 2, 0)]).reverse ++ []
    simp only [List.map_cons, List.map_nil, v1, v2]
    rfl
  · have eo : out = zk_X9_copyFrom_3.2.2.2.1.getD 0 ([], [], [], [], []) := by
      rcases List.mem_cons.mp ho with q | q
      · exact q
      · cases q
    subst eo
    have ev : v.toList = [] := ov
    rw [ev]
    refine K h' H1 locs1 oH ?_ oz oq oSS
    have g1 := oV ((29, 1), 0, (5, 5, 0)) List.mem_cons_self
    have g2 := oV ((3, 5), 1, (0, 4, 0)) (List.mem_cons_of_mem _ List.mem_cons_self)
    have s1 : (([0, cIm h a 0, h a 0, h (h a 0).toNat 0, cLn h a] : List Int) ++ ρ).getD 1 0 = cIm h a 0 := rfl
    have s4 : (([0, cIm h a 0, h a 0, h (h a 0).toNat 0, cLn h a] : List Int) ++ ρ).getD 4 0 = cLn h a := rfl
    obtain ⟨-, -, -, -, g15⟩ := g1
    obtain ⟨-, -, -, -, g25⟩ := g2
    simp only at g15 g25
    rw [s1] at g15
    have g15' : h' (cIm h a 0).toNat 0 = (([0, cIm h a 0, h a 0, h (h a 0).toNat 0, cLn h a] : List Int) ++ ρ).getD 5 0 := by
      rw [g15]
      show _ + 0 = _
      rw [Int.add_zero]
    have g25' : h' ((([0, cIm h a 0, h a 0, h (h a 0).toNat 0, cLn h a] : List Int) ++ ρ).getD 5 0).toNat 1 = cLn h a := by
      rw [g25]
      show (([0, cIm h a 0, h a 0, h (h a 0).toNat 0, cLn h a] : List Int) ++ ρ).getD 4 0 + 0 = _
      rw [s4, Int.add_zero]
    have em : cIm h' a 0 = cIm h a 0 := by
      unfold cIm
      rw [oX a 63 1 ha (by decide +kernel)]
      exact oX _ 62 0 c1.2 (by decide +kernel)
    refine ⟨cKl2 hH ha oX (by decide +kernel) (by decide +kernel) (by decide +kernel), fun k hk => ⟨fun hkk => ?_, fun hkk => ?_⟩⟩
    · have : k = 0 := by omega
      subst this
      refine ⟨by rw [em]; exact him, ?_⟩
      unfold cIl
      rw [em, g15', g25']
    · rcases (show k = 0 ∨ k = 1 ∨ k = 2 by omega) with rfl | rfl | rfl
      · exact absurd rfl hkk
      · exact cKi hH ha oX (by decide) (by decide +kernel) (by decide +kernel) (by decide +kernel) (by decide +kernel)
      · exact cKi hH ha oX (by decide) (by decide +kernel) (by decide +kernel) (by decide +kernel) (by decide +kernel)
set_option maxHeartbeats 4000000 in
set_option maxRecDepth 10000 in
theorem img_tl1 {D : va_G} {cy : Nat → ClassId} {L : List Nat} {Θ : Nat → Option Nat} {h : Nat → Nat → Int} {H : Heap} {locs : List Loc} {cells slots : Nat} {p : Program} {l : Launch} {e : Env} {R : Room} {s : State} {m : MethodId} {args : Array Value} {below : List Frame} {meth : Method} {c : Code} {Q : State → Prop} {w0 : Cond} {ls : Array Slot} {A : Nat → Prop} {base : Nat} {tb adK adV : Nat → Nat} {fv : Option Nat} {a : Nat} {x : Int32} (hη : η = zη base adK) (S : CallFix p m c cX11_image 2 s args (w0 :: zTW) RX11) (hKW : KW D cy s) (hZ : zS0 base tb adK adV fv s)
    (hH : zH η zkds D vwCl cy L Θ h H) (hnd : L.Nodup) (hLb : ∀ q ∈ L, base ≤ q) (hN : zNm Θ) (ha : Θ a = some 63) (him : 0 ≤ cIm h a 1) (hLA : ∀ q ∈ L, A q) (hS : va_S A s.heap H locs) (hq : ∀ q : Nat, q < s.heap.size → q ∉ L → H[q]? = s.heap[q]?) (hcs : cells ≤ R.cells ∧ slots ≤ R.slots) (hfr : 3 ≤ R.frames) (hlo : 69 ≤ R.locals) (hl : lv_has ls 2 [(0, .ref (η.1 a)), (1, .int x)]) (hxk : x.toInt = 1)
    (K : ∀ (h' : Nat → Nat → Int) (H1 : Heap) (locs1 : List Loc), zH η zkds D vwCl cy L Θ h' H1 → imgR 1 h h' a → H.size ≤ H1.size → (∀ q : Nat, q < H.size → q ∉ L → H1[q]? = H[q]?) → va_S A s.heap H1 locs1 → W p l e R s m args below meth c H1 locs1 cells slots Q (F0 m 46 ls [])) : W p l e R s m args below meth c H locs cells slots Q (F0 m 33 ls []) := by
  obtain ⟨hx, hb, hml, hown, hts⟩ := id S
  have hKa : va_K D vwCl (tyW cy) s := hKW.1
  have c0 := cP0 hH ha
  have c1 := cP1 hH ha
  have c2 := cP2 hH ha
  have c3 := cP3 hH ha
  have c4 : Θ (cIm h a 1).toNat = some (29 + 1) := by
    rcases cP4 hH ha (k := 1) (by decide) with q | q
    · omega
    · exact q.2
  refine lv_aload_n hx hb dX11_image_33 rfl (lv_at hl 0 rfl) ?_
  refine hg_get hx hb hts hown hKa (zFok_mono (fun w hw => List.mem_cons_of_mem _ hw) zf_RX11_16) ha zkd_63 ⟨rfl, rfl⟩ (by decide) hH dX11_image_34 ?_
  rw [show (zty (0, 11, 7, [(30, 0, 2147483647), (64, 0, 2147483647), (36, 0, 2147483647), (48, 0, 2147483647), (49, 0, 2147483647), (53, 0, 2147483647), (60, 0, 2147483647)]) 1).1 = 62 + 2 from rfl, z_dx 62 c1.1]
  refine lv_iload_n hx hb dX11_image_37 rfl (lv_at hl 1 rfl) ?_
  refine hg_img hx hb hKa c1.2 hH hxk (by decide) dX11_image_38 ?_
  have ei : va_rf (zrf η (h (h a 1).toNat 1)) = .ref (η.1 (cIm h a 1).toNat) := z_dx (η := η) (29 + 1) him
  rw [ei]
  refine lv_aload_n hx hb dX11_image_39 rfl (lv_at hl 0 rfl) ?_
  refine hg_get hx hb hts hown hKa (zFok_mono (fun w hw => List.mem_cons_of_mem _ hw) zf_RX11_10) ha zkd_63 ⟨rfl, rfl⟩ (by decide) hH dX11_image_40 ?_
  rw [show (zty (0, 11, 7, [(30, 0, 2147483647), (64, 0, 2147483647), (36, 0, 2147483647), (48, 0, 2147483647), (49, 0, 2147483647), (53, 0, 2147483647), (60, 0, 2147483647)]) 0).1 = 28 + 2 from rfl, z_dx 28 c0.1]
  have b1 : cIm h a 1 ≤ 2147483647 := (zH_in hH c1.2 zkd_62 (j := 1) (by decide)).2.2
  have b0 : h a 0 ≤ 2147483647 := (zH_in hH ha zkd_63 (j := 0) (by decide)).2.2
  have b2 : h (h a 0).toNat 0 ≤ 2147483647 := (zH_in hH c0.2 zkd_28 (j := 0) (by decide)).2.2
  have hE : zge [0, cIm h a 1, h a 0, h (h a 0).toNat 0, cLn h a] zk_X9_copyFrom_4.2.2.1.2.1 := zg_c (by decide) (by decide) (zg_c him b1 (zg_c c0.1 b0 (zg_c c2.1 b2 (zg_c c3.1 c3.2 zg_n))))
  have hA : ∀ q ∈ zk_X9_copyFrom_4.2.2.1.1, zga Θ [0, cIm h a 1, h a 0, h (h a 0).toNat 0, cLn h a] q := by
    intro q hq
    rcases List.mem_cons.mp hq with rfl | hq
    · refine ⟨Nat.le_of_ble_eq_true rfl, Or.inr ⟨?_, ?_⟩⟩
      · show 0 ≤ cIm h a 1 + 0
        omega
      · show Θ (cIm h a 1 + 0).toNat = some _
        rw [Int.add_zero]
        exact c4
    · rcases List.mem_cons.mp hq with rfl | hq
      · refine ⟨Nat.le_of_ble_eq_true rfl, Or.inr ⟨?_, ?_⟩⟩
        · show 0 ≤ h a 0 + 0
          have := c0.1
          omega
        · show Θ (h a 0 + 0).toNat = some _
          rw [Int.add_zero]
          exact c0.2
      · cases hq
  have hV : zgv Θ h [0, cIm h a 1, h a 0, h (h a 0).toNat 0, cLn h a] zk_X9_copyFrom_4.2.2.1.2.2.2.2.1 :=
    z_ov1 (Nat.le_of_ble_eq_true rfl) (Nat.le_of_ble_eq_true rfl) c0.1 c0.2 rfl (Or.inr ⟨c2.1, c2.2⟩) (z_ov1 (Nat.le_of_ble_eq_true rfl) (Nat.le_of_ble_eq_true rfl) c2.1 c2.2 rfl (by
      show -2147483648 ≤ cLn h a ∧ cLn h a ≤ 2147483647
      omega) z_ov0)
  refine lw_call zkp_ok zTW_good rfl (zp_X9_copyFrom_4 l) hnd S (show zKP η D cy L Θ s from ⟨hKW, zST_of hη hZ hLb hN⟩) (zcv_2 zw_X9_copyFrom zr_X9_copyFrom_4 382 dX11_image_43 zl_img (Nat.le_trans (by decide +kernel) hfr) (Nat.le_trans (by decide +kernel) hlo)) hcs hE hA hV z_rl0 hH hLA hS hq hl.1 (rest := []) (by decide) ?_ (fun v out ρ h' H1 locs1 ho oE oS ov oV oH oX oz oq oSS => ?_)
  · have v1 : zvo η [0, cIm h a 1, h a 0, h (h a 0).toNat 0, cLn h a] (32, 1, 0) = .ref (η.1 (cIm h a 1).toNat) := by
      show zdec η (29 + 1 + 2) (cIm h a 1 + 0) = _
      rw [Int.add_zero]
      exact z_dx (29 + 1) him
    have v2 : zvo η [0, cIm h a 1, h a 0, h (h a 0).toNat 0, cLn h a] (30, 2, 0) = .ref (η.1 (h a 0).toNat) := by
      show zdec η (28 + 2) (h a 0 + 0) = _
      rw [Int.add_zero]
      exact z_dx 28 c0.1
    show _ = (List.map (zvo η [0, cIm h a 1, h a 0, h (h a 0).toNat 0, cLn h a]) [(32, 1, 0), (30, 2, 0)]).reverse ++ []
    simp only [List.map_cons, List.map_nil, v1, v2]
    rfl
  · have eo : out = zk_X9_copyFrom_4.2.2.2.1.getD 0 ([], [], [], [], []) := by
      rcases List.mem_cons.mp ho with q | q
      · exact q
      · cases q
    subst eo
    have ev : v.toList = [] := ov
    rw [ev]
    refine K h' H1 locs1 oH ?_ oz oq oSS
    have g1 := oV ((30, 1), 0, (7, 5, 0)) List.mem_cons_self
    have g2 := oV ((5, 5), 1, (0, 4, 0)) (List.mem_cons_of_mem _ List.mem_cons_self)
    have s1 : (([0, cIm h a 1, h a 0, h (h a 0).toNat 0, cLn h a] : List Int) ++ ρ).getD 1 0 = cIm h a 1 := rfl
    have s4 : (([0, cIm h a 1, h a 0, h (h a 0).toNat 0, cLn h a] : List Int) ++ ρ).getD 4 0 = cLn h a := rfl
    obtain ⟨-, -, -, -, g15⟩ := g1
    obtain ⟨-, -, -, -, g25⟩ := g2
    simp only at g15 g25
    rw [s1] at g15
    have g15' : h' (cIm h a 1).toNat 0 = (([0, cIm h a 1, h a 0, h (h a 0).toNat 0, cLn h a] : List Int) ++ ρ).getD 5 0 := by
      rw [g15]
      show _ + 0 = _
      rw [Int.add_zero]
    have g25' : h' ((([0, cIm h a 1, h a 0, h (h a 0).toNat 0, cLn h a] : List Int) ++ ρ).getD 5 0).toNat 1 = cLn h a := by
      rw [g25]
      show (([0, cIm h a 1, h a 0, h (h a 0).toNat 0, cLn h a] : List Int) ++ ρ).getD 4 0 + 0 = _
      rw [s4, Int.add_zero]
    have em : cIm h' a 1 = cIm h a 1 := by
      unfold cIm
      rw [oX a 63 1 ha (by decide +kernel)]
      exact oX _ 62 1 c1.2 (by decide +kernel)
    refine ⟨cKl2 hH ha oX (by decide +kernel) (by decide +kernel) (by decide +kernel), fun k hk => ⟨fun hkk => ?_, fun hkk => ?_⟩⟩
    · have : k = 1 := by omega
      subst this
      refine ⟨by rw [em]; exact him, ?_⟩
      unfold cIl
      rw [em, g15', g25']
    · rcases (show k = 0 ∨ k = 1 ∨ k = 2 by omega) with rfl | rfl | rfl
      · exact cKi hH ha oX (by decide) (by decide +kernel) (by decide +kernel) (by decide +kernel) (by decide +kernel)
      · exact absurd rfl hkk
      · exact cKi hH ha oX (by decide) (by decide +kernel) (by decide +kernel) (by decide +kernel) (by decide +kernel)
set_option maxHeartbeats 4000000 in
set_option maxRecDepth 10000 in
theorem img_tl2 {D : va_G} {cy : Nat → ClassId} {L : List Nat} {Θ : Nat → Option Nat} {h : Nat → Nat → Int} {H : Heap} {locs : List Loc} {cells slots : Nat} {p : Program} {l : Launch} {e : Env} {R : Room} {s : State} {m : MethodId} {args : Array Value} {below : List Frame} {meth : Method} {c : Code} {Q : State → Prop} {w0 : Cond} {ls : Array Slot} {A : Nat → Prop} {base : Nat} {tb adK adV : Nat → Nat} {fv : Option Nat} {a : Nat} {x : Int32} (hη : η = zη base adK) (S : CallFix p m c cX11_image 2 s args (w0 :: zTW) RX11) (hKW : KW D cy s) (hZ : zS0 base tb adK adV fv s)
    (hH : zH η zkds D vwCl cy L Θ h H) (hnd : L.Nodup) (hLb : ∀ q ∈ L, base ≤ q) (hN : zNm Θ) (ha : Θ a = some 63) (him : 0 ≤ cIm h a 2) (hLA : ∀ q ∈ L, A q) (hS : va_S A s.heap H locs) (hq : ∀ q : Nat, q < s.heap.size → q ∉ L → H[q]? = s.heap[q]?) (hcs : cells ≤ R.cells ∧ slots ≤ R.slots) (hfr : 3 ≤ R.frames) (hlo : 69 ≤ R.locals) (hl : lv_has ls 2 [(0, .ref (η.1 a)), (1, .int x)]) (hxk : x.toInt = 2)
    (K : ∀ (h' : Nat → Nat → Int) (H1 : Heap) (locs1 : List Loc), zH η zkds D vwCl cy L Θ h' H1 → imgR 2 h h' a → H.size ≤ H1.size → (∀ q : Nat, q < H.size → q ∉ L → H1[q]? = H[q]?) → va_S A s.heap H1 locs1 → W p l e R s m args below meth c H1 locs1 cells slots Q (F0 m 46 ls [])) : W p l e R s m args below meth c H locs cells slots Q (F0 m 33 ls []) := by
  obtain ⟨hx, hb, hml, hown, hts⟩ := id S
  have hKa : va_K D vwCl (tyW cy) s := hKW.1
  have c0 := cP0 hH ha
  have c1 := cP1 hH ha
  have c2 := cP2 hH ha
  have c3 := cP3 hH ha
  have c4 : Θ (cIm h a 2).toNat = some (29 + 2) := by
    rcases cP4 hH ha (k := 2) (by decide) with q | q
    · omega
    · exact q.2
  refine lv_aload_n hx hb dX11_image_33 rfl (lv_at hl 0 rfl) ?_
  refine hg_get hx hb hts hown hKa (zFok_mono (fun w hw => List.mem_cons_of_mem _ hw) zf_RX11_16) ha zkd_63 ⟨rfl, rfl⟩ (by decide) hH dX11_image_34 ?_
  rw [show (zty (0, 11, 7, [(30, 0, 2147483647), (64, 0, 2147483647), (36, 0, 2147483647), (48, 0, 2147483647), (49, 0, 2147483647), (53, 0, 2147483647), (60, 0, 2147483647)]) 1).1 = 62 + 2 from rfl, z_dx 62 c1.1]
  refine lv_iload_n hx hb dX11_image_37 rfl (lv_at hl 1 rfl) ?_
  refine hg_img hx hb hKa c1.2 hH hxk (by decide) dX11_image_38 ?_
  have ei : va_rf (zrf η (h (h a 1).toNat 2)) = .ref (η.1 (cIm h a 2).toNat) := z_dx (η := η) (29 + 2) him
  rw [ei]
  refine lv_aload_n hx hb dX11_image_39 rfl (lv_at hl 0 rfl) ?_
  refine hg_get hx hb hts hown hKa (zFok_mono (fun w hw => List.mem_cons_of_mem _ hw) zf_RX11_10) ha zkd_63 ⟨rfl, rfl⟩ (by decide) hH dX11_image_40 ?_
  rw [show (zty (0, 11, 7, [(30, 0, 2147483647), (64, 0, 2147483647), (36, 0, 2147483647), (48, 0, 2147483647), (49, 0, 2147483647), (53, 0, 2147483647), (60, 0, 2147483647)]) 0).1 = 28 + 2 from rfl, z_dx 28 c0.1]
  have b1 : cIm h a 2 ≤ 2147483647 := (zH_in hH c1.2 zkd_62 (j := 2) (by decide)).2.2
  have b0 : h a 0 ≤ 2147483647 := (zH_in hH ha zkd_63 (j := 0) (by decide)).2.2
  have b2 : h (h a 0).toNat 0 ≤ 2147483647 := (zH_in hH c0.2 zkd_28 (j := 0) (by decide)).2.2
  have hE : zge [0, cIm h a 2, h a 0, h (h a 0).toNat 0, cLn h a] zk_X9_copyFrom_5.2.2.1.2.1 := zg_c (by decide) (by decide) (zg_c him b1 (zg_c c0.1 b0 (zg_c c2.1 b2 (zg_c c3.1 c3.2 zg_n))))
  have hA : ∀ q ∈ zk_X9_copyFrom_5.2.2.1.1, zga Θ [0, cIm h a 2, h a 0, h (h a 0).toNat 0, cLn h a] q := by
    intro q hq
    rcases List.mem_cons.mp hq with rfl | hq
    · refine ⟨Nat.le_of_ble_eq_true rfl, Or.inr ⟨?_, ?_⟩⟩
      · show 0 ≤ cIm h a 2 + 0
        omega
      · show Θ (cIm h a 2 + 0).toNat = some _
        rw [Int.add_zero]
        exact c4
    · rcases List.mem_cons.mp hq with rfl | hq
      · refine ⟨Nat.le_of_ble_eq_true rfl, Or.inr ⟨?_, ?_⟩⟩
        · show 0 ≤ h a 0 + 0
          have := c0.1
          omega
        · show Θ (h a 0 + 0).toNat = some _
          rw [Int.add_zero]
          exact c0.2
      · cases hq
  have hV : zgv Θ h [0, cIm h a 2, h a 0, h (h a 0).toNat 0, cLn h a] zk_X9_copyFrom_5.2.2.1.2.2.2.2.1 :=
    z_ov1 (Nat.le_of_ble_eq_true rfl) (Nat.le_of_ble_eq_true rfl) c0.1 c0.2 rfl (Or.inr ⟨c2.1, c2.2⟩) (z_ov1 (Nat.le_of_ble_eq_true rfl) (Nat.le_of_ble_eq_true rfl) c2.1 c2.2 rfl (by
      show -2147483648 ≤ cLn h a ∧ cLn h a ≤ 2147483647
      omega) z_ov0)
  refine lw_call zkp_ok zTW_good rfl (zp_X9_copyFrom_5 l) hnd S (show zKP η D cy L Θ s from ⟨hKW, zST_of hη hZ hLb hN⟩) (zcv_2 zw_X9_copyFrom zr_X9_copyFrom_5 382 dX11_image_43 zl_img (Nat.le_trans (by decide +kernel) hfr) (Nat.le_trans (by decide +kernel) hlo)) hcs hE hA hV z_rl0 hH hLA hS hq hl.1 (rest := []) (by decide) ?_ (fun v out ρ h' H1 locs1 ho oE oS ov oV oH oX oz oq oSS => ?_)
  · have v1 : zvo η [0, cIm h a 2, h a 0, h (h a 0).toNat 0, cLn h a] (33, 1, 0) = .ref (η.1 (cIm h a 2).toNat) := by
      show zdec η (29 + 2 + 2) (cIm h a 2 + 0) = _
      rw [Int.add_zero]
      exact z_dx (29 + 2) him
    have v2 : zvo η [0, cIm h a 2, h a 0, h (h a 0).toNat 0, cLn h a] (30, 2, 0) = .ref (η.1 (h a 0).toNat) := by
      show zdec η (28 + 2) (h a 0 + 0) = _
      rw [Int.add_zero]
      exact z_dx 28 c0.1
    show _ = (List.map (zvo η [0, cIm h a 2, h a 0, h (h a 0).toNat 0, cLn h a]) [(33, 1, 0), (30, 2, 0)]).reverse ++ []
    simp only [List.map_cons, List.map_nil, v1, v2]
    rfl
  · have eo : out = zk_X9_copyFrom_5.2.2.2.1.getD 0 ([], [], [], [], []) := by
      rcases List.mem_cons.mp ho with q | q
      · exact q
      · cases q
    subst eo
    have ev : v.toList = [] := ov
    rw [ev]
    refine K h' H1 locs1 oH ?_ oz oq oSS
    have g1 := oV ((31, 1), 0, (9, 5, 0)) List.mem_cons_self
    have g2 := oV ((7, 5), 1, (0, 4, 0)) (List.mem_cons_of_mem _ List.mem_cons_self)
    have s1 : (([0, cIm h a 2, h a 0, h (h a 0).toNat 0, cLn h a] : List Int) ++ ρ).getD 1 0 = cIm h a 2 := rfl
    have s4 : (([0, cIm h a 2, h a 0, h (h a 0).toNat 0, cLn h a] : List Int) ++ ρ).getD 4 0 = cLn h a := rfl
    obtain ⟨-, -, -, -, g15⟩ := g1
    obtain ⟨-, -, -, -, g25⟩ := g2
    simp only at g15 g25
    rw [s1] at g15
    have g15' : h' (cIm h a 2).toNat 0 = (([0, cIm h a 2, h a 0, h (h a 0).toNat 0, cLn h a] : List Int) ++ ρ).getD 5 0 := by
      rw [g15]
      show _ + 0 = _
      rw [Int.add_zero]
    have g25' : h' ((([0, cIm h a 2, h a 0, h (h a 0).toNat 0, cLn h a] : List Int) ++ ρ).getD 5 0).toNat 1 = cLn h a := by
      rw [g25]
      show (([0, cIm h a 2, h a 0, h (h a 0).toNat 0, cLn h a] : List Int) ++ ρ).getD 4 0 + 0 = _
      rw [s4, Int.add_zero]
    have em : cIm h' a 2 = cIm h a 2 := by
      unfold cIm
      rw [oX a 63 1 ha (by decide +kernel)]
      exact oX _ 62 2 c1.2 (by decide +kernel)
    refine ⟨cKl2 hH ha oX (by decide +kernel) (by decide +kernel) (by decide +kernel), fun k hk => ⟨fun hkk => ?_, fun hkk => ?_⟩⟩
    · have : k = 2 := by omega
      subst this
      refine ⟨by rw [em]; exact him, ?_⟩
      unfold cIl
      rw [em, g15', g25']
    · rcases (show k = 0 ∨ k = 1 ∨ k = 2 by omega) with rfl | rfl | rfl
      · exact cKi hH ha oX (by decide) (by decide +kernel) (by decide +kernel) (by decide +kernel) (by decide +kernel)
      · exact cKi hH ha oX (by decide) (by decide +kernel) (by decide +kernel) (by decide +kernel) (by decide +kernel)
      · exact absurd rfl hkk
