variable {η : zRn}
theorem dX11_image_0 : decode cX11_image 0 = .ok (.iload_n 1, 1) := by decide +kernel
theorem dX11_image_1 : decode cX11_image 1 = .ok (.ifCond .lt 8, 3) := by decide +kernel
theorem dX11_image_4 : decode cX11_image 4 = .ok (.iload_n 1, 1) := by decide +kernel
theorem dX11_image_5 : decode cX11_image 5 = .ok (.iconst 3, 1) := by decide +kernel
theorem dX11_image_6 : decode cX11_image 6 = .ok (.if_icmp .lt 5, 3) := by decide +kernel
theorem dX11_image_9 : decode cX11_image 9 = .ok (.iconst 0, 1) := by decide +kernel
theorem dX11_image_10 : decode cX11_image 10 = .ok (.ireturn, 1) := by decide +kernel
theorem dX11_image_11 : decode cX11_image 11 = .ok (.aload_n 0, 1) := by decide +kernel
theorem dX11_image_12 : decode cX11_image 12 = .ok (.getfield 16, 3) := by decide +kernel
theorem dX11_image_15 : decode cX11_image 15 = .ok (.iload_n 1, 1) := by decide +kernel
theorem dX11_image_16 : decode cX11_image 16 = .ok (.aaload, 1) := by decide +kernel
theorem dX11_image_17 : decode cX11_image 17 = .ok (.ifnonnull 16, 3) := by decide +kernel
theorem dX11_image_20 : decode cX11_image 20 = .ok (.aload_n 0, 1) := by decide +kernel
theorem dX11_image_21 : decode cX11_image 21 = .ok (.getfield 16, 3) := by decide +kernel
theorem dX11_image_24 : decode cX11_image 24 = .ok (.iload_n 1, 1) := by decide +kernel
theorem dX11_image_25 : decode cX11_image 25 = .ok (.new 7, 3) := by decide +kernel
theorem dX11_image_28 : decode cX11_image 28 = .ok (.dup, 1) := by decide +kernel
theorem dX11_image_29 : decode cX11_image 29 = .ok (.invokespecial 9, 3) := by decide +kernel
theorem dX11_image_32 : decode cX11_image 32 = .ok (.aastore, 1) := by decide +kernel
theorem dX11_image_33 : decode cX11_image 33 = .ok (.aload_n 0, 1) := by decide +kernel
theorem dX11_image_34 : decode cX11_image 34 = .ok (.getfield 16, 3) := by decide +kernel
theorem dX11_image_37 : decode cX11_image 37 = .ok (.iload_n 1, 1) := by decide +kernel
theorem dX11_image_38 : decode cX11_image 38 = .ok (.aaload, 1) := by decide +kernel
theorem dX11_image_39 : decode cX11_image 39 = .ok (.aload_n 0, 1) := by decide +kernel
theorem dX11_image_40 : decode cX11_image 40 = .ok (.getfield 10, 3) := by decide +kernel
theorem dX11_image_43 : decode cX11_image 43 = .ok (.invokevirtual 382, 3) := by decide +kernel
theorem dX11_image_46 : decode cX11_image 46 = .ok (.iconst 1, 1) := by decide +kernel
theorem dX11_image_47 : decode cX11_image 47 = .ok (.ireturn, 1) := by decide +kernel
/-! image(): made where there is none, then told over -/
section IMG
variable {D : va_G} {cl : List vw_C} {cy : Nat → ClassId} {L : List Nat} {Θ : Nat → Option Nat} {h : Nat → Nat → Int} {H : Heap} {locs : List Loc} {cells slots : Nat}
variable {p : Program} {l : Launch} {e : Env} {R : Room} {s : State} {m : MethodId} {args : Array Value} {below : List Frame} {meth : Method} {c : Code} {Q : State → Prop}
variable {cc : ByteArray} {pc : Nat} {Ts : List Cond} {own : String} {ls : Array Slot} {rest : List Value}
theorem hg_get {kds : List zKD} {tys : List (ClassId × FieldType)} (hexec : p.tables.exec = Jvm.exec) (hb : c.code = cc) (hts : ∀ w ∈ Ts, w.before args s = true) (hown : s.vm.findClass own = some m.cls) (hKa : va_K D cl tys s) {idx ci k kk : Nat} {o : Option FieldType} {a : Nat} {K : zKD} (hF : zFok own Ts cl (idx, ci, k, o)) (hΘ : Θ a = some kk) (hK : kds[kk]? = some K) (hKf : K.1 = 0 ∧ K.2.1 = ci) (hk : k < K.2.2.1) (hH : zH η kds D cl cy L Θ h H) (hdg : decode cc pc = .ok (.getfield idx, 3))
    (w : W p l e R s m args below meth c H locs cells slots Q (F0 m (pc + 3) ls (zdec η (zty K k).1 (h a k) :: rest))) : W p l e R s m args below meth c H locs cells slots Q (F0 m pc ls (.ref (η.1 a) :: rest)) := by
  obtain ⟨C, T, N, e1, e2, e3, e4, -⟩ := hF
  obtain ⟨q0, hq⟩ := zH_get hH hΘ hK (by omega)
  rw [zE_o hKf.1, hKf.2] at hq
  exact va_get (v := zdec η (zty K k).1 (h a k)) hexec hb hts e2 hown hKa hH.1 q0 hq e1 k e3 (hts _ e4) (fun _ x => x) (z_fs hk) hdg w
/-- the array of images is read -/
theorem hg_img (hexec : p.tables.exec = Jvm.exec) (hb : c.code = cc) (hKa : va_K D cl (tyW cy) s) {im : Nat} (him : Θ im = some 62) (hH : zH η zkds D cl cy L Θ h H) {x : Int32} {k : Nat} (hx : x.toInt = (k : Int)) (hk : k < 3) (hdg : decode cc pc = .ok (.aaload, 1))
    (w : W p l e R s m args below meth c H locs cells slots Q (F0 m (pc + 1) ls (va_rf (zrf η (h im k)) :: rest))) : W p l e R s m args below meth c H locs cells slots Q (F0 m pc ls (.int x :: .ref (η.1 im) :: rest)) := by
  obtain ⟨q0, hq⟩ := zH_get hH him zkd_62 (by decide)
  rw [zE_q rfl] at hq
  obtain ⟨v1, v2⟩ := z_vin (i := x) (n := 3) (by omega) (by omega)
  refine va_aldq hexec hb hKa hH.1 q0 6 hq (by rfl) v1 hdg ?_
  have ek : x.toNatClampNeg = k := by rw [v2]; omega
  show W p l e R s m args below meth c H locs cells slots Q (F0 m (pc + 1) ls (va_rf (zrf η (h im x.toNatClampNeg)) :: rest))
  rw [ek]
  exact w
end IMG

theorem zl_img : Cond.methodLink RX11 382 yX9_copyFrom ∈ zTW := zTin 1279 (by decide +kernel) rfl
/-- names of an image's cells -/
def cdIo : List Nat := [3, 4, 5, 6, 7, 20, 21, 22, 23, 24, 25, 26, 27, 30, 31, 32, 33, 34, 35, 36, 37, 8, 40, 41, 42, 50, 51, 52, 9, 60, 61, 62, 63, 64, 70, 71, 72, 73, 74]
def cdI (k i : Nat) : Nat := 1000 * (k + 1) + cdIo.getD i 0
theorem cdI_b {k i : Nat} (hi : i < 39) : 1000 * (k + 1) + 3 ≤ cdI k i ∧ cdI k i ≤ 1000 * (k + 1) + 79 := by
  have key : ∀ i : Fin 39, 3 ≤ cdIo.getD i.1 0 ∧ cdIo.getD i.1 0 ≤ 79 := by decide +kernel
  have := key ⟨i, hi⟩
  simp only at this
  unfold cdI
  omega
theorem cdI_j (k : Nat) : zinj 39 (cdI k) := by
  intro i j hi hj e
  have key : ∀ i j : Fin 39, cdIo.getD i.1 0 = cdIo.getD j.1 0 → i = j := by decide +kernel
  unfold cdI at e
  have := key ⟨i, hi⟩ ⟨j, hj⟩ (by simp only; omega)
  exact congrArg Fin.val this
/-- image k is there as a cell -/
def imC (k : Nat) (h h' : yH) : Prop := (∀ a j, ¬ (1000 * (k + 1) ≤ a ∧ a < 1000 * (k + 2)) → ¬ (a = 2 ∧ j = k) → h' a j = h a j) ∧ h' 2 k = ((1000 * (k + 1) + 3 : Nat) : Int) ∧ cPb (1000 * (k + 1)) h' ∧ h' (1000 * (k + 1) + 4) 1 ≤ 600
def imgO (k : Nat) (η : zRn) (adK : Nat → Nat) (D : va_G) (cy : Nat → ClassId) (L : List Nat) (h : yH) (sz : Nat) (H : Heap) : Prop := ∃ (η' : zRn) (L' : List Nat) (Θ' : Nat → Option Nat) (h' h2 : yH), zH η' zkds D vwCl cy L' Θ' h2 H ∧ L'.Nodup ∧ (∀ q ∈ L', q ∈ L ∨ sz ≤ q) ∧ nmC η' adK L' Θ' h2 ∧ η'.1 1 = η.1 1 ∧ imC k h h' ∧ tcR (1000 * (k + 1)) 0 h' h2
theorem zk_ex {kds : List zKD} {cl : List vw_C} {kk : Nat} {ts tags : List Nat} {C : String} (K : zKD) (q : vw_C) (h1 : tags = (kk + 100002) :: ts) (h2 : kds[kk]? = some K) (h3 : K.1 = 0) (h4 : cl[K.2.1]? = some q) (h5 : q.1 = C) : ∃ (kk : Nat) (ts : List Nat) (K : zKD) (T : u_T) (N : Nat), tags = (kk + 100002) :: ts ∧ kds[kk]? = some K ∧ K.1 = 0 ∧ cl[K.2.1]? = some (C, T, N) := ⟨kk, ts, K, q.2.1, q.2.2, h1, h2, h3, by rw [h4, ← h5]⟩
set_option maxHeartbeats 4000000 in
set_option maxRecDepth 10000 in
theorem img_tl0 (l : Launch) {D : va_G} {cy : Nat → ClassId} {L : List Nat} {Θ : Nat → Option Nat} {h : Nat → Nat → Int} {H : Heap} {locs : List Loc} {cells slots : Nat} {p : Program} {e : Env} {R : Room} {s : State} {m : MethodId} {args : Array Value} {below : List Frame} {meth : Method} {c : Code} {Q : State → Prop} {w0 : Cond} {ls : Array Slot} {A : Nat → Prop} {base : Nat} {tb adK adV : Nat → Nat} {fv : Option Nat} {x : Int32} (S : CallFix p m c cX11_image 2 s args (w0 :: zTW) RX11) (hKW : KW D cy s) (hZ : zS0 base tb adK adV fv s)
    (hH : zH η zkds D vwCl cy L Θ h H) (hnd : L.Nodup) (hLb : ∀ q ∈ L, base ≤ q) (hN : nmC η adK L Θ h) (hP : cP h) (him : h 2 0 = ((1000 * (0 + 1) + 3 : Nat) : Int)) (hPk : cPb (1000 * (0 + 1)) h) (hLA : ∀ q ∈ L, A q) (hS : va_S A s.heap H locs) (hq : ∀ q : Nat, q < s.heap.size → q ∉ L → H[q]? = s.heap[q]?) (hcs : cells ≤ R.cells ∧ slots ≤ R.slots) (hfr : 3 ≤ R.frames) (hlo : 69 ≤ R.locals) (hl : lv_has ls 2 [(0, .ref (η.1 1)), (1, .int x)]) (hxk : x.toInt = ((0 : Nat) : Int))
    (K : ∀ (h' : Nat → Nat → Int) (H1 : Heap) (locs1 : List Loc), zH η zkds D vwCl cy L Θ h' H1 → tcR (1000 * (0 + 1)) 0 h h' → va_S A s.heap H1 locs1 → W p l e R s m args below meth c H1 locs1 cells slots Q (F0 m 46 ls [])) : W p l e R s m args below meth c H locs cells slots Q (F0 m 33 ls []) := by
  obtain ⟨hx, hb, hml, hown, hts⟩ := id S
  have hKa : va_K D vwCl (tyW cy) s := hKW.1
  have ha := hN.2.2.2.1
  obtain ⟨k2, k3, -⟩ := cK_0 hH ha hP
  have kI := cK_im (F := False) (g := h) hH ha hP (show 0 < 3 by decide) him
  have e11 : h 1 1 = ((2 : Nat) : Int) := hP.p (by decide)
  have e10 : h 1 0 = ((3 : Nat) : Int) := hP.p (by decide)
  refine lv_aload_n hx hb dX11_image_33 rfl (lv_at hl 0 rfl) ?_
  refine hg_get hx hb hts hown hKa (zFok_mono (fun w hw => List.mem_cons_of_mem _ hw) zf_RX11_16) ha zkd_63 ⟨rfl, rfl⟩ (by decide) hH dX11_image_34 ?_
  rw [show (zty (0, 11, 7, [(30, 0, 2147483647), (64, 0, 2147483647), (36, 0, 2147483647), (48, 0, 2147483647), (49, 0, 2147483647), (53, 0, 2147483647), (60, 0, 2147483647)]) 1).1 = 62 + 2 from rfl, e11, z_dr]
  refine lv_iload_n hx hb dX11_image_37 rfl (lv_at hl 1 rfl) ?_
  refine hg_img hx hb hKa k2 hH hxk (by decide) dX11_image_38 ?_
  have ei : va_rf (zrf η (h 2 0)) = .ref (η.1 (1000 * (0 + 1) + 3)) := by
    rw [him]
    exact z_dr 0 _
  rw [ei]
  refine lv_aload_n hx hb dX11_image_39 rfl (lv_at hl 0 rfl) ?_
  refine hg_get hx hb hts hown hKa (zFok_mono (fun w hw => List.mem_cons_of_mem _ hw) zf_RX11_10) ha zkd_63 ⟨rfl, rfl⟩ (by decide) hH dX11_image_40 ?_
  rw [show (zty (0, 11, 7, [(30, 0, 2147483647), (64, 0, 2147483647), (36, 0, 2147483647), (48, 0, 2147483647), (49, 0, 2147483647), (53, 0, 2147483647), (60, 0, 2147483647)]) 0).1 = 28 + 2 from rfl, e10, z_dr]
  have hKP : zKP η D cy L Θ s := ⟨hKW, zST_of hN.2.1 hZ hLb hN.1⟩
  obtain ⟨v, h2, e1, r⟩ := tcp_i0 (n := 3) (h := h) (by decide) hPk hP.b (cBb_of hH hP.b k3 (by decide))
  have o1 : yok Θ (100031, ((1000 * (0 + 1) + 3 : Nat) : Int)) := by
    unfold yok
    rw [if_neg (by decide)]
    exact ⟨by simp only; omega, by simp only [Int.toNat_natCast]; exact kI⟩
  have o2 : yok Θ (100030, ((3 : Nat) : Int)) := by
    unfold yok
    rw [if_neg (by decide)]
    exact ⟨by simp only; omega, by simp only [Int.toNat_natCast]; exact k3⟩
  have v1 := (y_ref (η := η) (k := 29) o1 rfl).2.2
  have v2 := (y_ref (η := η) (k := 28) o2 rfl).2.2
  simp only [Int.toNat_natCast] at v1 v2
  refine lw_callY (kds := zkds) (vs := [(100031, ((1000 * (0 + 1) + 3 : Nat) : Int)), (100030, ((3 : Nat) : Int))]) (Qr := fun _ h' => tcR (1000 * (0 + 1)) 0 h h') (rest := []) zkp_ok zTW_good rfl (m_X9_copyFrom_i0 l) hnd S hKP (ycv_of yw_X9_copyFrom 382 dX11_image_43 zl_img rfl (by omega) (show 8 + (3 + 11) + 47 ≤ R.locals by omega) (zk_ex (kk := 29) (ts := [100030]) _ _ rfl (zkK ⟨29, by decide⟩) rfl rfl rfl)) hcs rfl (fun a ha => ?_) ⟨3, v, h2, e1, r⟩ hH hLA hS hq hl.1 (by decide) ?_ (fun a h' H1 locs1 hQ oa oH oz oq oS => ?_)
  · rcases List.mem_cons.mp ha with rfl | ha
    · exact o1
    · rcases List.mem_cons.mp ha with rfl | ha
      · exact o2
      · cases ha
  · simp only [List.map_cons, List.map_nil, v1, v2]
    rfl
  · exact K h' H1 locs1 oH hQ oS
set_option maxHeartbeats 4000000 in
set_option maxRecDepth 10000 in
theorem img_tl1 (l : Launch) {D : va_G} {cy : Nat → ClassId} {L : List Nat} {Θ : Nat → Option Nat} {h : Nat → Nat → Int} {H : Heap} {locs : List Loc} {cells slots : Nat} {p : Program} {e : Env} {R : Room} {s : State} {m : MethodId} {args : Array Value} {below : List Frame} {meth : Method} {c : Code} {Q : State → Prop} {w0 : Cond} {ls : Array Slot} {A : Nat → Prop} {base : Nat} {tb adK adV : Nat → Nat} {fv : Option Nat} {x : Int32} (S : CallFix p m c cX11_image 2 s args (w0 :: zTW) RX11) (hKW : KW D cy s) (hZ : zS0 base tb adK adV fv s)
    (hH : zH η zkds D vwCl cy L Θ h H) (hnd : L.Nodup) (hLb : ∀ q ∈ L, base ≤ q) (hN : nmC η adK L Θ h) (hP : cP h) (him : h 2 1 = ((1000 * (1 + 1) + 3 : Nat) : Int)) (hPk : cPb (1000 * (1 + 1)) h) (hLA : ∀ q ∈ L, A q) (hS : va_S A s.heap H locs) (hq : ∀ q : Nat, q < s.heap.size → q ∉ L → H[q]? = s.heap[q]?) (hcs : cells ≤ R.cells ∧ slots ≤ R.slots) (hfr : 3 ≤ R.frames) (hlo : 69 ≤ R.locals) (hl : lv_has ls 2 [(0, .ref (η.1 1)), (1, .int x)]) (hxk : x.toInt = ((1 : Nat) : Int))
    (K : ∀ (h' : Nat → Nat → Int) (H1 : Heap) (locs1 : List Loc), zH η zkds D vwCl cy L Θ h' H1 → tcR (1000 * (1 + 1)) 0 h h' → va_S A s.heap H1 locs1 → W p l e R s m args below meth c H1 locs1 cells slots Q (F0 m 46 ls [])) : W p l e R s m args below meth c H locs cells slots Q (F0 m 33 ls []) := by
  obtain ⟨hx, hb, hml, hown, hts⟩ := id S
  have hKa : va_K D vwCl (tyW cy) s := hKW.1
  have ha := hN.2.2.2.1
  obtain ⟨k2, k3, -⟩ := cK_0 hH ha hP
  have kI := cK_im (F := False) (g := h) hH ha hP (show 1 < 3 by decide) him
  have e11 : h 1 1 = ((2 : Nat) : Int) := hP.p (by decide)
  have e10 : h 1 0 = ((3 : Nat) : Int) := hP.p (by decide)
  refine lv_aload_n hx hb dX11_image_33 rfl (lv_at hl 0 rfl) ?_
  refine hg_get hx hb hts hown hKa (zFok_mono (fun w hw => List.mem_cons_of_mem _ hw) zf_RX11_16) ha zkd_63 ⟨rfl, rfl⟩ (by decide) hH dX11_image_34 ?_
  rw [show (zty (0, 11, 7, [(30, 0, 2147483647), (64, 0, 2147483647), (36, 0, 2147483647), (48, 0, 2147483647), (49, 0, 2147483647), (53, 0, 2147483647), (60, 0, 2147483647)]) 1).1 = 62 + 2 from rfl, e11, z_dr]
  refine lv_iload_n hx hb dX11_image_37 rfl (lv_at hl 1 rfl) ?_
  refine hg_img hx hb hKa k2 hH hxk (by decide) dX11_image_38 ?_
  have ei : va_rf (zrf η (h 2 1)) = .ref (η.1 (1000 * (1 + 1) + 3)) := by
    rw [him]
    exact z_dr 0 _
  rw [ei]
  refine lv_aload_n hx hb dX11_image_39 rfl (lv_at hl 0 rfl) ?_
  refine hg_get hx hb hts hown hKa (zFok_mono (fun w hw => List.mem_cons_of_mem _ hw) zf_RX11_10) ha zkd_63 ⟨rfl, rfl⟩ (by decide) hH dX11_image_40 ?_
  rw [show (zty (0, 11, 7, [(30, 0, 2147483647), (64, 0, 2147483647), (36, 0, 2147483647), (48, 0, 2147483647), (49, 0, 2147483647), (53, 0, 2147483647), (60, 0, 2147483647)]) 0).1 = 28 + 2 from rfl, e10, z_dr]
  have hKP : zKP η D cy L Θ s := ⟨hKW, zST_of hN.2.1 hZ hLb hN.1⟩
  obtain ⟨v, h2, e1, r⟩ := tcp_i1 (n := 3) (h := h) (by decide) hPk hP.b (cBb_of hH hP.b k3 (by decide))
  have o1 : yok Θ (100032, ((1000 * (1 + 1) + 3 : Nat) : Int)) := by
    unfold yok
    rw [if_neg (by decide)]
    exact ⟨by simp only; omega, by simp only [Int.toNat_natCast]; exact kI⟩
  have o2 : yok Θ (100030, ((3 : Nat) : Int)) := by
    unfold yok
    rw [if_neg (by decide)]
    exact ⟨by simp only; omega, by simp only [Int.toNat_natCast]; exact k3⟩
  have v1 := (y_ref (η := η) (k := 30) o1 rfl).2.2
  have v2 := (y_ref (η := η) (k := 28) o2 rfl).2.2
  simp only [Int.toNat_natCast] at v1 v2
  refine lw_callY (kds := zkds) (vs := [(100032, ((1000 * (1 + 1) + 3 : Nat) : Int)), (100030, ((3 : Nat) : Int))]) (Qr := fun _ h' => tcR (1000 * (1 + 1)) 0 h h') (rest := []) zkp_ok zTW_good rfl (m_X9_copyFrom_i1 l) hnd S hKP (ycv_of yw_X9_copyFrom 382 dX11_image_43 zl_img rfl (by omega) (show 8 + (3 + 11) + 47 ≤ R.locals by omega) (zk_ex (kk := 30) (ts := [100030]) _ _ rfl (zkK ⟨30, by decide⟩) rfl rfl rfl)) hcs rfl (fun a ha => ?_) ⟨3, v, h2, e1, r⟩ hH hLA hS hq hl.1 (by decide) ?_ (fun a h' H1 locs1 hQ oa oH oz oq oS => ?_)
  · rcases List.mem_cons.mp ha with rfl | ha
    · exact o1
    · rcases List.mem_cons.mp ha with rfl | ha
      · exact o2
      · cases ha
  · simp only [List.map_cons, List.map_nil, v1, v2]
    rfl
  · exact K h' H1 locs1 oH hQ oS
set_option maxHeartbeats 4000000 in
set_option maxRecDepth 10000 in
theorem img_tl2 (l : Launch) {D : va_G} {cy : Nat → ClassId} {L : List Nat} {Θ : Nat → Option Nat} {h : Nat → Nat → Int} {H : Heap} {locs : List Loc} {cells slots : Nat} {p : Program} {e : Env} {R : Room} {s : State} {m : MethodId} {args : Array Value} {below : List Frame} {meth : Method} {c : Code} {Q : State → Prop} {w0 : Cond} {ls : Array Slot} {A : Nat → Prop} {base : Nat} {tb adK adV : Nat → Nat} {fv : Option Nat} {x : Int32} (S : CallFix p m c cX11_image 2 s args (w0 :: zTW) RX11) (hKW : KW D cy s) (hZ : zS0 base tb adK adV fv s)
    (hH : zH η zkds D vwCl cy L Θ h H) (hnd : L.Nodup) (hLb : ∀ q ∈ L, base ≤ q) (hN : nmC η adK L Θ h) (hP : cP h) (him : h 2 2 = ((1000 * (2 + 1) + 3 : Nat) : Int)) (hPk : cPb (1000 * (2 + 1)) h) (hLA : ∀ q ∈ L, A q) (hS : va_S A s.heap H locs) (hq : ∀ q : Nat, q < s.heap.size → q ∉ L → H[q]? = s.heap[q]?) (hcs : cells ≤ R.cells ∧ slots ≤ R.slots) (hfr : 3 ≤ R.frames) (hlo : 69 ≤ R.locals) (hl : lv_has ls 2 [(0, .ref (η.1 1)), (1, .int x)]) (hxk : x.toInt = ((2 : Nat) : Int))
    (K : ∀ (h' : Nat → Nat → Int) (H1 : Heap) (locs1 : List Loc), zH η zkds D vwCl cy L Θ h' H1 → tcR (1000 * (2 + 1)) 0 h h' → va_S A s.heap H1 locs1 → W p l e R s m args below meth c H1 locs1 cells slots Q (F0 m 46 ls [])) : W p l e R s m args below meth c H locs cells slots Q (F0 m 33 ls []) := by
  obtain ⟨hx, hb, hml, hown, hts⟩ := id S
  have hKa : va_K D vwCl (tyW cy) s := hKW.1
  have ha := hN.2.2.2.1
  obtain ⟨k2, k3, -⟩ := cK_0 hH ha hP
  have kI := cK_im (F := False) (g := h) hH ha hP (show 2 < 3 by decide) him
  have e11 : h 1 1 = ((2 : Nat) : Int) := hP.p (by decide)
  have e10 : h 1 0 = ((3 : Nat) : Int) := hP.p (by decide)
  refine lv_aload_n hx hb dX11_image_33 rfl (lv_at hl 0 rfl) ?_
  refine hg_get hx hb hts hown hKa (zFok_mono (fun w hw => List.mem_cons_of_mem _ hw) zf_RX11_16) ha zkd_63 ⟨rfl, rfl⟩ (by decide) hH dX11_image_34 ?_
  rw [show (zty (0, 11, 7, [(30, 0, 2147483647), (64, 0, 2147483647), (36, 0, 2147483647), (48, 0, 2147483647), (49, 0, 2147483647), (53, 0, 2147483647), (60, 0, 2147483647)]) 1).1 = 62 + 2 from rfl, e11, z_dr]
  refine lv_iload_n hx hb dX11_image_37 rfl (lv_at hl 1 rfl) ?_
  refine hg_img hx hb hKa k2 hH hxk (by decide) dX11_image_38 ?_
  have ei : va_rf (zrf η (h 2 2)) = .ref (η.1 (1000 * (2 + 1) + 3)) := by
    rw [him]
    exact z_dr 0 _
  rw [ei]
  refine lv_aload_n hx hb dX11_image_39 rfl (lv_at hl 0 rfl) ?_
  refine hg_get hx hb hts hown hKa (zFok_mono (fun w hw => List.mem_cons_of_mem _ hw) zf_RX11_10) ha zkd_63 ⟨rfl, rfl⟩ (by decide) hH dX11_image_40 ?_
  rw [show (zty (0, 11, 7, [(30, 0, 2147483647), (64, 0, 2147483647), (36, 0, 2147483647), (48, 0, 2147483647), (49, 0, 2147483647), (53, 0, 2147483647), (60, 0, 2147483647)]) 0).1 = 28 + 2 from rfl, e10, z_dr]
  have hKP : zKP η D cy L Θ s := ⟨hKW, zST_of hN.2.1 hZ hLb hN.1⟩
  obtain ⟨v, h2, e1, r⟩ := tcp_i2 (n := 3) (h := h) (by decide) hPk hP.b (cBb_of hH hP.b k3 (by decide))
  have o1 : yok Θ (100033, ((1000 * (2 + 1) + 3 : Nat) : Int)) := by
    unfold yok
    rw [if_neg (by decide)]
    exact ⟨by simp only; omega, by simp only [Int.toNat_natCast]; exact kI⟩
  have o2 : yok Θ (100030, ((3 : Nat) : Int)) := by
    unfold yok
    rw [if_neg (by decide)]
    exact ⟨by simp only; omega, by simp only [Int.toNat_natCast]; exact k3⟩
  have v1 := (y_ref (η := η) (k := 31) o1 rfl).2.2
  have v2 := (y_ref (η := η) (k := 28) o2 rfl).2.2
  simp only [Int.toNat_natCast] at v1 v2
  refine lw_callY (kds := zkds) (vs := [(100033, ((1000 * (2 + 1) + 3 : Nat) : Int)), (100030, ((3 : Nat) : Int))]) (Qr := fun _ h' => tcR (1000 * (2 + 1)) 0 h h') (rest := []) zkp_ok zTW_good rfl (m_X9_copyFrom_i2 l) hnd S hKP (ycv_of yw_X9_copyFrom 382 dX11_image_43 zl_img rfl (by omega) (show 8 + (3 + 11) + 47 ≤ R.locals by omega) (zk_ex (kk := 31) (ts := [100030]) _ _ rfl (zkK ⟨31, by decide⟩) rfl rfl rfl)) hcs rfl (fun a ha => ?_) ⟨3, v, h2, e1, r⟩ hH hLA hS hq hl.1 (by decide) ?_ (fun a h' H1 locs1 hQ oa oH oz oq oS => ?_)
  · rcases List.mem_cons.mp ha with rfl | ha
    · exact o1
    · rcases List.mem_cons.mp ha with rfl | ha
      · exact o2
      · cases ha
  · simp only [List.map_cons, List.map_nil, v1, v2]
    rfl
  · exact K h' H1 locs1 oH hQ oS
