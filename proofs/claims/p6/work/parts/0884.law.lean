variable {η : zRn}
theorem dX11_again_0 : decode cX11_again 0 = .ok (.iload_n 1, 1) := by decide +kernel
theorem dX11_again_1 : decode cX11_again 1 = .ok (.ifCond .lt 17, 3) := by decide +kernel
theorem dX11_again_4 : decode cX11_again 4 = .ok (.iload_n 1, 1) := by decide +kernel
theorem dX11_again_5 : decode cX11_again 5 = .ok (.iconst 3, 1) := by decide +kernel
theorem dX11_again_6 : decode cX11_again 6 = .ok (.if_icmp .ge 12, 3) := by decide +kernel
theorem dX11_again_9 : decode cX11_again 9 = .ok (.aload_n 0, 1) := by decide +kernel
theorem dX11_again_10 : decode cX11_again 10 = .ok (.getfield 16, 3) := by decide +kernel
theorem dX11_again_13 : decode cX11_again 13 = .ok (.iload_n 1, 1) := by decide +kernel
theorem dX11_again_14 : decode cX11_again 14 = .ok (.aaload, 1) := by decide +kernel
theorem dX11_again_15 : decode cX11_again 15 = .ok (.ifnonnull 5, 3) := by decide +kernel
theorem dX11_again_18 : decode cX11_again 18 = .ok (.iconst 0, 1) := by decide +kernel
theorem dX11_again_19 : decode cX11_again 19 = .ok (.ireturn, 1) := by decide +kernel
theorem dX11_again_20 : decode cX11_again 20 = .ok (.aload_n 0, 1) := by decide +kernel
theorem dX11_again_21 : decode cX11_again 21 = .ok (.getfield 10, 3) := by decide +kernel
theorem dX11_again_24 : decode cX11_again 24 = .ok (.aload_n 0, 1) := by decide +kernel
theorem dX11_again_25 : decode cX11_again 25 = .ok (.getfield 16, 3) := by decide +kernel
theorem dX11_again_28 : decode cX11_again 28 = .ok (.iload_n 1, 1) := by decide +kernel
theorem dX11_again_29 : decode cX11_again 29 = .ok (.aaload, 1) := by decide +kernel
theorem dX11_again_30 : decode cX11_again 30 = .ok (.invokevirtual 382, 3) := by decide +kernel
theorem dX11_again_33 : decode cX11_again 33 = .ok (.iconst 1, 1) := by decide +kernel
theorem dX11_again_34 : decode cX11_again 34 = .ok (.ireturn, 1) := by decide +kernel
/-- what again() leaves -/
def agB (η : zRn) (D : va_G) (cy : Nat → ClassId) (L : List Nat) (Θ : Nat → Option Nat) (h : yH) (x : Int) (v : Int32) (H : Heap) : Prop := ((¬ (0 ≤ x ∧ x < 3) ∨ h 2 x.toNat = -1) ∧ v = 0 ∧ zH η zkds D vwCl cy L Θ h H) ∨ ∃ k : Nat, k < 3 ∧ x = (k : Int) ∧ v = 1 ∧ h 2 k ≠ -1 ∧ ∃ h2, zH η zkds D vwCl cy L Θ h2 H ∧ tcR 0 (1000 * (k + 1)) h h2
set_option maxHeartbeats 4000000 in
set_option maxRecDepth 10000 in
theorem ag_bd0 (l : Launch) {D : va_G} {cy : Nat → ClassId} {L : List Nat} {Θ : Nat → Option Nat} {h : Nat → Nat → Int} {p : Program} {e : Env} {R : Room} {s : State} {m : MethodId} {args : Array Value} {below : List Frame} {meth : Method} {c : Code} {Q : State → Prop} {w0 : Cond} {ls : Array Slot} {A : Nat → Prop} {base : Nat} {tb adK adV : Nat → Nat} {fv : Option Nat} {x : Int32} (S : CallFix p m c cX11_again 2 s args (w0 :: zTW) RX11) (hKW : KW D cy s) (hZ : zS0 base tb adK adV fv s)
    (hH : zH η zkds D vwCl cy L Θ h s.heap) (hnd : L.Nodup) (hLb : ∀ q ∈ L, base ≤ q) (hN : nmC η adK L Θ h) (hP : cP h) (him : h 2 0 = ((1000 * (0 + 1) + 3 : Nat) : Int)) (hPk : cPb (1000 * (0 + 1)) h) (hAe : A = fun q => q ∈ L) (hfr : 3 ≤ R.frames) (hlo : 69 ≤ R.locals) (hl : lv_has ls 2 [(0, .ref (η.1 1)), (1, .int x)]) (hxk : x.toInt = ((0 : Nat) : Int))
    (K : ∀ (h' : Nat → Nat → Int) (H1 : Heap) (locs1 : List Loc), zH η zkds D vwCl cy L Θ h' H1 → tcR 0 (1000 * (0 + 1)) h h' → va_S A s.heap H1 locs1 → W p l e R s m args below meth c H1 locs1 0 0 Q (F0 m 33 ls [])) : W p l e R s m args below meth c s.heap [] 0 0 Q (F0 m 20 ls []) := by
  obtain ⟨hx, hb, hml, hown, hts⟩ := id S
  have hKa : va_K D vwCl (tyW cy) s := hKW.1
  have hLA : ∀ q ∈ L, A q := fun q hq => by rw [hAe]; exact hq
  have hS : va_S A s.heap s.heap [] := va_S.rf
  have ha := hN.2.2.2.1
  obtain ⟨k2, k3, -⟩ := cK_0 hH ha hP
  have kI := cK_im (F := False) (g := h) hH ha hP (show 0 < 3 by decide) him
  have e11 : h 1 1 = ((2 : Nat) : Int) := hP.p (by decide)
  have e10 : h 1 0 = ((3 : Nat) : Int) := hP.p (by decide)
  refine lv_aload_n hx hb dX11_again_20 rfl (lv_at hl 0 rfl) ?_
  refine hg_get hx hb hts hown hKa (zFok_mono (fun w hw => List.mem_cons_of_mem _ hw) zf_RX11_10) ha zkd_63 ⟨rfl, rfl⟩ (by decide) hH dX11_again_21 ?_
  rw [show (zty (0, 11, 7, [(30, 0, 2147483647), (64, 0, 2147483647), (36, 0, 2147483647), (48, 0, 2147483647), (49, 0, 2147483647), (53, 0, 2147483647), (60, 0, 2147483647)]) 0).1 = 28 + 2 from rfl, e10, z_dr]
  refine lv_aload_n hx hb dX11_again_24 rfl (lv_at hl 0 rfl) ?_
  refine hg_get hx hb hts hown hKa (zFok_mono (fun w hw => List.mem_cons_of_mem _ hw) zf_RX11_16) ha zkd_63 ⟨rfl, rfl⟩ (by decide) hH dX11_again_25 ?_
  rw [show (zty (0, 11, 7, [(30, 0, 2147483647), (64, 0, 2147483647), (36, 0, 2147483647), (48, 0, 2147483647), (49, 0, 2147483647), (53, 0, 2147483647), (60, 0, 2147483647)]) 1).1 = 62 + 2 from rfl, e11, z_dr]
  refine lv_iload_n hx hb dX11_again_28 rfl (lv_at hl 1 rfl) ?_
  refine hg_img hx hb hKa k2 hH hxk (by decide) dX11_again_29 ?_
  have ei : va_rf (zrf η (h 2 0)) = .ref (η.1 (1000 * (0 + 1) + 3)) := by
    rw [him]
    exact z_dr 0 _
  rw [ei]
  have hKP : zKP η D cy L Θ s := ⟨hKW, zST_of hN.2.1 hZ hLb hN.1⟩
  obtain ⟨v, h2, e1, r⟩ := tcp_a0 (n := 3) (h := h) (by decide) hP.b hPk (cBb_of hH hPk kI (by decide))
  have o1 : yok Θ (100031, ((1000 * (0 + 1) + 3 : Nat) : Int)) := by
    unfold yok
    rw [if_neg (by decide)]
    exact ⟨by simp only; omega, by simp only [Int.toNat_natCast]; exact kI⟩
  have o2 : yok Θ (100030, ((3 : Nat) : Int)) := by
    unfold yok
    rw [if_neg (by decide)]
    exact ⟨by simp only; omega, by simp only [Int.toNat_natCast]; exact k3⟩
  have v1 := (y_ref (η := η) (k := 29) o1 rfl).2.2
  have v2 := (y_ref (η := η) (k := 28) o2 rfl).2.2
  simp only [Int.toNat_natCast] at v1 v2
  refine lw_callY (kds := zkds) (vs := [(100030, ((3 : Nat) : Int)), (100031, ((1000 * (0 + 1) + 3 : Nat) : Int))]) (Qr := fun _ h' => tcR 0 (1000 * (0 + 1)) h h') (rest := []) zkp_ok zTW_good rfl (m_X9_copyFrom_a0 l) hnd S hKP (ycv_of yw_X9_copyFrom 382 dX11_again_30 zl_img rfl (by omega) (show 8 + (3 + 11) + 47 ≤ R.locals by omega) (zk_ex (kk := 28) (ts := [100031]) _ _ rfl (zkK ⟨28, by decide⟩) rfl rfl rfl)) ⟨Nat.zero_le _, Nat.zero_le _⟩ rfl (fun a ha => ?_) ⟨3, v, h2, e1, r⟩ hH hLA hS (fun q _ _ => rfl) hl.1 (by decide) ?_ (fun a h' H1 locs1 hQ oa oH oz oq oS => ?_)
  · rcases List.mem_cons.mp ha with rfl | ha
    · exact o2
    · rcases List.mem_cons.mp ha with rfl | ha
      · exact o1
      · cases ha
  · simp only [List.map_cons, List.map_nil, v1, v2]
    rfl
  · exact K h' H1 locs1 oH hQ oS
set_option maxHeartbeats 4000000 in
set_option maxRecDepth 10000 in
theorem ag_bd1 (l : Launch) {D : va_G} {cy : Nat → ClassId} {L : List Nat} {Θ : Nat → Option Nat} {h : Nat → Nat → Int} {p : Program} {e : Env} {R : Room} {s : State} {m : MethodId} {args : Array Value} {below : List Frame} {meth : Method} {c : Code} {Q : State → Prop} {w0 : Cond} {ls : Array Slot} {A : Nat → Prop} {base : Nat} {tb adK adV : Nat → Nat} {fv : Option Nat} {x : Int32} (S : CallFix p m c cX11_again 2 s args (w0 :: zTW) RX11) (hKW : KW D cy s) (hZ : zS0 base tb adK adV fv s)
    (hH : zH η zkds D vwCl cy L Θ h s.heap) (hnd : L.Nodup) (hLb : ∀ q ∈ L, base ≤ q) (hN : nmC η adK L Θ h) (hP : cP h) (him : h 2 1 = ((1000 * (1 + 1) + 3 : Nat) : Int)) (hPk : cPb (1000 * (1 + 1)) h) (hAe : A = fun q => q ∈ L) (hfr : 3 ≤ R.frames) (hlo : 69 ≤ R.locals) (hl : lv_has ls 2 [(0, .ref (η.1 1)), (1, .int x)]) (hxk : x.toInt = ((1 : Nat) : Int))
    (K : ∀ (h' : Nat → Nat → Int) (H1 : Heap) (locs1 : List Loc), zH η zkds D vwCl cy L Θ h' H1 → tcR 0 (1000 * (1 + 1)) h h' → va_S A s.heap H1 locs1 → W p l e R s m args below meth c H1 locs1 0 0 Q (F0 m 33 ls [])) : W p l e R s m args below meth c s.heap [] 0 0 Q (F0 m 20 ls []) := by
  obtain ⟨hx, hb, hml, hown, hts⟩ := id S
  have hKa : va_K D vwCl (tyW cy) s := hKW.1
  have hLA : ∀ q ∈ L, A q := fun q hq => by rw [hAe]; exact hq
  have hS : va_S A s.heap s.heap [] := va_S.rf
  have ha := hN.2.2.2.1
  obtain ⟨k2, k3, -⟩ := cK_0 hH ha hP
  have kI := cK_im (F := False) (g := h) hH ha hP (show 1 < 3 by decide) him
  have e11 : h 1 1 = ((2 : Nat) : Int) := hP.p (by decide)
  have e10 : h 1 0 = ((3 : Nat) : Int) := hP.p (by decide)
  refine lv_aload_n hx hb dX11_again_20 rfl (lv_at hl 0 rfl) ?_
  refine hg_get hx hb hts hown hKa (zFok_mono (fun w hw => List.mem_cons_of_mem _ hw) zf_RX11_10) ha zkd_63 ⟨rfl, rfl⟩ (by decide) hH dX11_again_21 ?_
  rw [show (zty (0, 11, 7, [(30, 0, 2147483647), (64, 0, 2147483647), (36, 0, 2147483647), (48, 0, 2147483647), (49, 0, 2147483647), (53, 0, 2147483647), (60, 0, 2147483647)]) 0).1 = 28 + 2 from rfl, e10, z_dr]
  refine lv_aload_n hx hb dX11_again_24 rfl (lv_at hl 0 rfl) ?_
  refine hg_get hx hb hts hown hKa (zFok_mono (fun w hw => List.mem_cons_of_mem _ hw) zf_RX11_16) ha zkd_63 ⟨rfl, rfl⟩ (by decide) hH dX11_again_25 ?_
  rw [show (zty (0, 11, 7, [(30, 0, 2147483647), (64, 0, 2147483647), (36, 0, 2147483647), (48, 0, 2147483647), (49, 0, 2147483647), (53, 0, 2147483647), (60, 0, 2147483647)]) 1).1 = 62 + 2 from rfl, e11, z_dr]
  refine lv_iload_n hx hb dX11_again_28 rfl (lv_at hl 1 rfl) ?_
  refine hg_img hx hb hKa k2 hH hxk (by decide) dX11_again_29 ?_
  have ei : va_rf (zrf η (h 2 1)) = .ref (η.1 (1000 * (1 + 1) + 3)) := by
    rw [him]
    exact z_dr 0 _
  rw [ei]
  have hKP : zKP η D cy L Θ s := ⟨hKW, zST_of hN.2.1 hZ hLb hN.1⟩
  obtain ⟨v, h2, e1, r⟩ := tcp_a1 (n := 3) (h := h) (by decide) hP.b hPk (cBb_of hH hPk kI (by decide))
  have o1 : yok Θ (100032, ((1000 * (1 + 1) + 3 : Nat) : Int)) := by
    unfold yok
    rw [if_neg (by decide)]
    exact ⟨by simp only; omega, by simp only [Int.toNat_natCast]; exact kI⟩
  have o2 : yok Θ (100030, ((3 : Nat) : Int)) := by
    unfold yok
    rw [if_neg (by decide)]
    exact ⟨by simp only; omega, by simp only [Int.toNat_natCast]; exact k3⟩
  have v1 := (y_ref (η := η) (k := 30) o1 rfl).2.2
  have v2 := (y_ref (η := η) (k := 28) o2 rfl).2.2
  simp only [Int.toNat_natCast] at v1 v2
  refine lw_callY (kds := zkds) (vs := [(100030, ((3 : Nat) : Int)), (100032, ((1000 * (1 + 1) + 3 : Nat) : Int))]) (Qr := fun _ h' => tcR 0 (1000 * (1 + 1)) h h') (rest := []) zkp_ok zTW_good rfl (m_X9_copyFrom_a1 l) hnd S hKP (ycv_of yw_X9_copyFrom 382 dX11_again_30 zl_img rfl (by omega) (show 8 + (3 + 11) + 47 ≤ R.locals by omega) (zk_ex (kk := 28) (ts := [100032]) _ _ rfl (zkK ⟨28, by decide⟩) rfl rfl rfl)) ⟨Nat.zero_le _, Nat.zero_le _⟩ rfl (fun a ha => ?_) ⟨3, v, h2, e1, r⟩ hH hLA hS (fun q _ _ => rfl) hl.1 (by decide) ?_ (fun a h' H1 locs1 hQ oa oH oz oq oS => ?_)
  · rcases List.mem_cons.mp ha with rfl | ha
    · exact o2
    · rcases List.mem_cons.mp ha with rfl | ha
      · exact o1
      · cases ha
  · simp only [List.map_cons, List.map_nil, v1, v2]
    rfl
  · exact K h' H1 locs1 oH hQ oS
set_option maxHeartbeats 4000000 in
set_option maxRecDepth 10000 in
theorem ag_bd2 (l : Launch) {D : va_G} {cy : Nat → ClassId} {L : List Nat} {Θ : Nat → Option Nat} {h : Nat → Nat → Int} {p : Program} {e : Env} {R : Room} {s : State} {m : MethodId} {args : Array Value} {below : List Frame} {meth : Method} {c : Code} {Q : State → Prop} {w0 : Cond} {ls : Array Slot} {A : Nat → Prop} {base : Nat} {tb adK adV : Nat → Nat} {fv : Option Nat} {x : Int32} (S : CallFix p m c cX11_again 2 s args (w0 :: zTW) RX11) (hKW : KW D cy s) (hZ : zS0 base tb adK adV fv s)
    (hH : zH η zkds D vwCl cy L Θ h s.heap) (hnd : L.Nodup) (hLb : ∀ q ∈ L, base ≤ q) (hN : nmC η adK L Θ h) (hP : cP h) (him : h 2 2 = ((1000 * (2 + 1) + 3 : Nat) : Int)) (hPk : cPb (1000 * (2 + 1)) h) (hAe : A = fun q => q ∈ L) (hfr : 3 ≤ R.frames) (hlo : 69 ≤ R.locals) (hl : lv_has ls 2 [(0, .ref (η.1 1)), (1, .int x)]) (hxk : x.toInt = ((2 : Nat) : Int))
    (K : ∀ (h' : Nat → Nat → Int) (H1 : Heap) (locs1 : List Loc), zH η zkds D vwCl cy L Θ h' H1 → tcR 0 (1000 * (2 + 1)) h h' → va_S A s.heap H1 locs1 → W p l e R s m args below meth c H1 locs1 0 0 Q (F0 m 33 ls [])) : W p l e R s m args below meth c s.heap [] 0 0 Q (F0 m 20 ls []) := by
  obtain ⟨hx, hb, hml, hown, hts⟩ := id S
  have hKa : va_K D vwCl (tyW cy) s := hKW.1
  have hLA : ∀ q ∈ L, A q := fun q hq => by rw [hAe]; exact hq
  have hS : va_S A s.heap s.heap [] := va_S.rf
  have ha := hN.2.2.2.1
  obtain ⟨k2, k3, -⟩ := cK_0 hH ha hP
  have kI := cK_im (F := False) (g := h) hH ha hP (show 2 < 3 by decide) him
  have e11 : h 1 1 = ((2 : Nat) : Int) := hP.p (by decide)
  have e10 : h 1 0 = ((3 : Nat) : Int) := hP.p (by decide)
  refine lv_aload_n hx hb dX11_again_20 rfl (lv_at hl 0 rfl) ?_
  refine hg_get hx hb hts hown hKa (zFok_mono (fun w hw => List.mem_cons_of_mem _ hw) zf_RX11_10) ha zkd_63 ⟨rfl, rfl⟩ (by decide) hH dX11_again_21 ?_
  rw [show (zty (0, 11, 7, [(30, 0, 2147483647), (64, 0, 2147483647), (36, 0, 2147483647), (48, 0, 2147483647), (49, 0, 2147483647), (53, 0, 2147483647), (60, 0, 2147483647)]) 0).1 = 28 + 2 from rfl, e10, z_dr]
  refine lv_aload_n hx hb dX11_again_24 rfl (lv_at hl 0 rfl) ?_
  refine hg_get hx hb hts hown hKa (zFok_mono (fun w hw => List.mem_cons_of_mem _ hw) zf_RX11_16) ha zkd_63 ⟨rfl, rfl⟩ (by decide) hH dX11_again_25 ?_
  rw [show (zty (0, 11, 7, [(30, 0, 2147483647), (64, 0, 2147483647), (36, 0, 2147483647), (48, 0, 2147483647), (49, 0, 2147483647), (53, 0, 2147483647), (60, 0, 2147483647)]) 1).1 = 62 + 2 from rfl, e11, z_dr]
  refine lv_iload_n hx hb dX11_again_28 rfl (lv_at hl 1 rfl) ?_
  refine hg_img hx hb hKa k2 hH hxk (by decide) dX11_again_29 ?_
  have ei : va_rf (zrf η (h 2 2)) = .ref (η.1 (1000 * (2 + 1) + 3)) := by
    rw [him]
    exact z_dr 0 _
  rw [ei]
  have hKP : zKP η D cy L Θ s := ⟨hKW, zST_of hN.2.1 hZ hLb hN.1⟩
  obtain ⟨v, h2, e1, r⟩ := tcp_a2 (n := 3) (h := h) (by decide) hP.b hPk (cBb_of hH hPk kI (by decide))
  have o1 : yok Θ (100033, ((1000 * (2 + 1) + 3 : Nat) : Int)) := by
    unfold yok
    rw [if_neg (by decide)]
    exact ⟨by simp only; omega, by simp only [Int.toNat_natCast]; exact kI⟩
  have o2 : yok Θ (100030, ((3 : Nat) : Int)) := by
    unfold yok
    rw [if_neg (by decide)]
    exact ⟨by simp only; omega, by simp only [Int.toNat_natCast]; exact k3⟩
  have v1 := (y_ref (η := η) (k := 31) o1 rfl).2.2
  have v2 := (y_ref (η := η) (k := 28) o2 rfl).2.2
  simp only [Int.toNat_natCast] at v1 v2
  refine lw_callY (kds := zkds) (vs := [(100030, ((3 : Nat) : Int)), (100033, ((1000 * (2 + 1) + 3 : Nat) : Int))]) (Qr := fun _ h' => tcR 0 (1000 * (2 + 1)) h h') (rest := []) zkp_ok zTW_good rfl (m_X9_copyFrom_a2 l) hnd S hKP (ycv_of yw_X9_copyFrom 382 dX11_again_30 zl_img rfl (by omega) (show 8 + (3 + 11) + 47 ≤ R.locals by omega) (zk_ex (kk := 28) (ts := [100033]) _ _ rfl (zkK ⟨28, by decide⟩) rfl rfl rfl)) ⟨Nat.zero_le _, Nat.zero_le _⟩ rfl (fun a ha => ?_) ⟨3, v, h2, e1, r⟩ hH hLA hS (fun q _ _ => rfl) hl.1 (by decide) ?_ (fun a h' H1 locs1 hQ oa oH oz oq oS => ?_)
  · rcases List.mem_cons.mp ha with rfl | ha
    · exact o2
    · rcases List.mem_cons.mp ha with rfl | ha
      · exact o1
      · cases ha
  · simp only [List.map_cons, List.map_nil, v1, v2]
    rfl
  · exact K h' H1 locs1 oH hQ oS
set_option maxHeartbeats 4000000 in
set_option maxRecDepth 100000 in
theorem c_again (l : Launch) {D : va_G} {cy : Nat → ClassId} {L : List Nat} {Θ : Nat → Option Nat} {h : Nat → Nat → Int} {base : Nat} {tb adK adV : Nat → Nat} {fv : Option Nat} {x : Int32} (hnd : L.Nodup) (hLb : ∀ q ∈ L, base ≤ q) (hN : nmC η adK L Θ h) (hP : cP h) (hI : ∀ k, k < 3 → h 2 k = -1 ∨ (h 2 k = ((1000 * (k + 1) + 3 : Nat) : Int) ∧ cPb (1000 * (k + 1)) h)) :
    Met l yX11_again (Cond.code yX11_again cX11_again 2 (some .boolean) :: zTW) ({ frames := 3, cells := 0, slots := 0, locals := 69 } : Room) (va_Pc [.ref (η.1 1), .int x] (fun U => zH η zkds D vwCl cy L Θ h U.heap ∧ KW D cy U ∧ zS0 base tb adK adV fv U)) (va_Qi (fun v (u : Int32) => v = u) (fun u t => agB η D cy L Θ h x.toInt u t.heap) (fun q => q ∈ L)) 0 0 (fun q => q ∈ L) := by
  refine Met.ofW (cc := cX11_again) (maxL := 2) (ret := (some .boolean)) (by decide) rfl ?_
  intro p e s m args below meth c s₁ B hml hv
  obtain ⟨rfl, hH, hKW, hZ⟩ := hv
  have hx := B.exec
  have hb := B.bytes
  have hr := B.returns
  have hts := atoms_spec (ws := Cond.code yX11_again cX11_again 2 (some .boolean) :: zTW) B.pre
  have hown : s.vm.findClass RX11 = some m.cls := findClass_of_methodNamed B.named
  have hlocks := B.notSynchronized
  have hKa : va_K D vwCl (tyW cy) s := hKW.1
  have hl := lv_entry ([.ref (η.1 1), .int x]) (n := 2) (Nat.le_of_ble_eq_true rfl)
  rw [lg_entry_eq]
  generalize (lg_sl ([.ref (η.1 1), .int x]) ++ List.replicate (2 - (lg_sl ([.ref (η.1 1), .int x])).length) Slot.unset).toArray = ls at hl ⊢
  have hl : lv_has ls 2 [(0, .ref (η.1 1)), (1, .int x)] := hl
  have hS0 : va_S (fun q => q ∈ L) s.heap s.heap [] := va_S.rf
  have ha := hN.2.2.2.1
  obtain ⟨k2, k3, -⟩ := cK_0 hH ha hP
  have e11 : h 1 1 = ((2 : Nat) : Int) := hP.p (by decide)
  have z0 : (0 : Int32).toInt = 0 := rfl
  have z3 : (3 : Int32).toInt = 3 := rfl
  have S : CallFix p m c cX11_again 2 s _ (Cond.code yX11_again cX11_again 2 (some .boolean) :: zTW) RX11 := ⟨hx, hb, hml, hown, hts⟩
  refine lv_iload_n hx hb dX11_again_0 rfl (lv_at hl 1 rfl) ?_
  refine lv_if_lt (tgt := 18) hx hb dX11_again_1 (by decide) (fun c_1 => ?_) (fun c_1 => ?_)
  · have h1 := Int32.lt_iff_toInt_lt.mp c_1
    rw [z0] at h1
    refine lv_iconst (v := 0) hx hb dX11_again_18 (by decide +kernel) ?_
    exact W.zret (v := 0) hx hb hr (rfl) (fun t ht hW => ⟨⟨0, 0, rfl, rfl, by show agB η D cy L Θ h x.toInt 0 t.heap; rw [ht]; exact Or.inl ⟨Or.inl (by omega), rfl, hH⟩⟩, hS0.F ht⟩) hS0.2.2 dX11_again_19
  · have h1 : ¬ x.toInt < 0 := fun h9 => c_1 (Int32.lt_iff_toInt_lt.mpr (by rw [z0]; exact h9))
    refine lv_iload_n hx hb dX11_again_4 rfl (lv_at hl 1 rfl) ?_
    refine lv_iconst (v := 3) hx hb dX11_again_5 (by decide +kernel) ?_
    refine lv_icmp_ge (tgt := 18) hx hb dX11_again_6 (by decide) (fun c_2 => ?_) (fun c_2 => ?_)
    · have h2 := Int32.le_iff_toInt_le.mp c_2
      rw [z3] at h2
      refine lv_iconst (v := 0) hx hb dX11_again_18 (by decide +kernel) ?_
      exact W.zret (v := 0) hx hb hr (rfl) (fun t ht hW => ⟨⟨0, 0, rfl, rfl, by show agB η D cy L Θ h x.toInt 0 t.heap; rw [ht]; exact Or.inl ⟨Or.inl (by omega), rfl, hH⟩⟩, hS0.F ht⟩) hS0.2.2 dX11_again_19
    · have h2 : ¬ 3 ≤ x.toInt := fun h9 => c_2 (Int32.le_iff_toInt_le.mpr (by rw [z3]; exact h9))
      refine lv_aload_n hx hb dX11_again_9 rfl (lv_at hl 0 rfl) ?_
      refine hg_get hx hb hts hown hKa (zFok_mono (fun w hw => List.mem_cons_of_mem _ hw) zf_RX11_16) ha zkd_63 ⟨rfl, rfl⟩ (by decide) hH dX11_again_10 ?_
      rw [show (zty (0, 11, 7, [(30, 0, 2147483647), (64, 0, 2147483647), (36, 0, 2147483647), (48, 0, 2147483647), (49, 0, 2147483647), (53, 0, 2147483647), (60, 0, 2147483647)]) 1).1 = 62 + 2 from rfl, e11, z_dr]
      refine lv_iload_n hx hb dX11_again_13 rfl (lv_at hl 1 rfl) ?_
      rcases (show x.toInt = ((0 : Nat) : Int) ∨ x.toInt = ((1 : Nat) : Int) ∨ x.toInt = ((2 : Nat) : Int) by omega) with hk | hk | hk
      · refine hg_img hx hb hKa k2 hH hk (by decide) dX11_again_14 ?_
        rcases hI 0 (by decide) with him | ⟨him, hPk⟩
        · rw [him, show va_rf (zrf η (-1)) = .null from z_dm1 (η := η) 0]
          refine lv_ifnonnullN hx hb dX11_again_15 ?_
          refine lv_iconst (v := 0) hx hb dX11_again_18 (by decide +kernel) ?_
          exact W.zret (v := 0) hx hb hr (rfl) (fun t ht hW => ⟨⟨0, 0, rfl, rfl, by show agB η D cy L Θ h x.toInt 0 t.heap; rw [ht]; exact Or.inl ⟨Or.inr (by rw [hk, Int.toNat_natCast]; exact him), rfl, hH⟩⟩, hS0.F ht⟩) hS0.2.2 dX11_again_19
        · rw [him, show va_rf (zrf η ((1000 * (0 + 1) + 3 : Nat) : Int)) = .ref (η.1 (1000 * (0 + 1) + 3)) from z_dr 0 _]
          refine lv_ifnonnull (tgt := 20) hx hb dX11_again_15 (by decide) ?_
          refine ag_bd0 l S hKW hZ hH hnd hLb hN hP him hPk rfl (by decide) (by decide) hl hk (fun h' H1 locs1 hH1 hT1 hS1 => ?_)
          refine lv_iconst (v := 1) hx hb dX11_again_33 (by decide +kernel) ?_
          exact W.zret (v := 1) hx hb hr (rfl) (fun t ht hW => ⟨⟨1, 1, rfl, rfl, by show agB η D cy L Θ h x.toInt 1 t.heap; rw [ht]; exact Or.inr ⟨0, by decide, hk, rfl, by rw [him]; omega, h', hH1, hT1⟩⟩, hS1.F ht⟩) hS1.2.2 dX11_again_34
      · refine hg_img hx hb hKa k2 hH hk (by decide) dX11_again_14 ?_
        rcases hI 1 (by decide) with him | ⟨him, hPk⟩
        · rw [him, show va_rf (zrf η (-1)) = .null from z_dm1 (η := η) 0]
          refine lv_ifnonnullN hx hb dX11_again_15 ?_
          refine lv_iconst (v := 0) hx hb dX11_again_18 (by decide +kernel) ?_
          exact W.zret (v := 0) hx hb hr (rfl) (fun t ht hW => ⟨⟨0, 0, rfl, rfl, by show agB η D cy L Θ h x.toInt 0 t.heap; rw [ht]; exact Or.inl ⟨Or.inr (by rw [hk, Int.toNat_natCast]; exact him), rfl, hH⟩⟩, hS0.F ht⟩) hS0.2.2 dX11_again_19
        · rw [him, show va_rf (zrf η ((1000 * (1 + 1) + 3 : Nat) : Int)) = .ref (η.1 (1000 * (1 + 1) + 3)) from z_dr 0 _]
          refine lv_ifnonnull (tgt := 20) hx hb dX11_again_15 (by decide) ?_
          refine ag_bd1 l S hKW hZ hH hnd hLb hN hP him hPk rfl (by decide) (by decide) hl hk (fun h' H1 locs1 hH1 hT1 hS1 => ?_)
          refine lv_iconst (v := 1) hx hb dX11_again_33 (by decide +kernel) ?_
          exact W.zret (v := 1) hx hb hr (rfl) (fun t ht hW => ⟨⟨1, 1, rfl, rfl, by show agB η D cy L Θ h x.toInt 1 t.heap; rw [ht]; exact Or.inr ⟨1, by decide, hk, rfl, by rw [him]; omega, h', hH1, hT1⟩⟩, hS1.F ht⟩) hS1.2.2 dX11_again_34
      · refine hg_img hx hb hKa k2 hH hk (by decide) dX11_again_14 ?_
        rcases hI 2 (by decide) with him | ⟨him, hPk⟩
        · rw [him, show va_rf (zrf η (-1)) = .null from z_dm1 (η := η) 0]
          refine lv_ifnonnullN hx hb dX11_again_15 ?_
          refine lv_iconst (v := 0) hx hb dX11_again_18 (by decide +kernel) ?_
          exact W.zret (v := 0) hx hb hr (rfl) (fun t ht hW => ⟨⟨0, 0, rfl, rfl, by show agB η D cy L Θ h x.toInt 0 t.heap; rw [ht]; exact Or.inl ⟨Or.inr (by rw [hk, Int.toNat_natCast]; exact him), rfl, hH⟩⟩, hS0.F ht⟩) hS0.2.2 dX11_again_19
        · rw [him, show va_rf (zrf η ((1000 * (2 + 1) + 3 : Nat) : Int)) = .ref (η.1 (1000 * (2 + 1) + 3)) from z_dr 0 _]
          refine lv_ifnonnull (tgt := 20) hx hb dX11_again_15 (by decide) ?_
          refine ag_bd2 l S hKW hZ hH hnd hLb hN hP him hPk rfl (by decide) (by decide) hl hk (fun h' H1 locs1 hH1 hT1 hS1 => ?_)
          refine lv_iconst (v := 1) hx hb dX11_again_33 (by decide +kernel) ?_
          exact W.zret (v := 1) hx hb hr (rfl) (fun t ht hW => ⟨⟨1, 1, rfl, rfl, by show agB η D cy L Θ h x.toInt 1 t.heap; rw [ht]; exact Or.inr ⟨2, by decide, hk, rfl, by rw [him]; omega, h', hH1, hT1⟩⟩, hS1.F ht⟩) hS1.2.2 dX11_again_34
