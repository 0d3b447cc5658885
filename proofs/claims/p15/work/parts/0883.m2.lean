section
variable {η : zRn}
theorem zup_q {h : Nat → Nat → Int} {im k cd : Nat} : (fun j => zrf η (zup h im k (cd : Int) im j)) = va_up (fun j => zrf η (h im j)) k (some (η.1 cd)) := by
  funext j
  unfold va_up
  by_cases hj : j = k
  · subst hj
    rw [zup_at]
    simp only [if_true]
    unfold zrf
    rw [if_neg (by omega), Int.toNat_natCast]
  · rw [zup_ne (fun q => hj q.2), if_neg hj]
theorem zl_t7 : Cond.classLink RX11 7 RX9 ∈ zTW ∧ Cond.instantiable RX9 7 ∈ zTW ∧ Cond.initialized RX9 ∈ zTW ∧ Cond.instanceMethod yX9_init ∈ zTW := ⟨zTin 130 (by decide +kernel) rfl, zTin 131 (by decide +kernel) rfl, zTin 102 (by decide +kernel) rfl, zTin 133 (by decide +kernel) rfl⟩
theorem zTi0_p : ∀ p ∈ cPLb, ∃ i : Fin 39, cdIo.getD i.1 0 = p.1 ∧ zct zkds zTi0 (cdI 0) i.1 p.2.1 = ((1000 * (0 + 1) + p.2.2 : Nat) : Int) := by decide +kernel
set_option maxHeartbeats 8000000 in
set_option maxRecDepth 100000 in
theorem img_bd0 (l : Launch) {D : va_G} {cy : Nat → ClassId} {L : List Nat} {Θ : Nat → Option Nat} {h : Nat → Nat → Int} {p : Program} {e : Env} {R : Room} {s : State} {m : MethodId} {args : Array Value} {below : List Frame} {meth : Method} {c : Code} {Q : State → Prop} {w0 : Cond} {ls : Array Slot} {A : Nat → Prop} {base : Nat} {tb adK adV : Nat → Nat} {fv : Option Nat} {x : Int32} (S : CallFix p m c cX11_image 2 s args (w0 :: zTW) RX11) (hKW : KW D cy s) (hZ : zS0 base tb adK adV fv s)
    (hH : zH η zkds D vwCl cy L Θ h s.heap) (hnd : L.Nodup) (hLb : ∀ q ∈ L, base ≤ q) (hbs : base ≤ s.heap.size) (hN : nmC η adK L Θ h) (hP : cP h) (hI : h 2 0 = -1 ∨ (h 2 0 = ((1000 * (0 + 1) + 3 : Nat) : Int) ∧ cPb (1000 * (0 + 1)) h)) (hAe : A = fun q => q ∈ L ∨ s.heap.size ≤ q) (hRc : 39 ≤ R.cells ∧ 1090 ≤ R.slots) (hfr : 4 ≤ R.frames) (hlo : 100 ≤ R.locals) (hl : lv_has ls 2 [(0, .ref (η.1 1)), (1, .int x)]) (hxk : x.toInt = ((0 : Nat) : Int))
    (K : ∀ (H1 : Heap) (locs1 : List Loc), imgO 0 η adK D cy L h s.heap.size H1 → va_S A s.heap H1 locs1 → W p l e R s m args below meth c H1 locs1 39 1090 Q (F0 m 46 ls [])) : W p l e R s m args below meth c s.heap [] 0 0 Q (F0 m 11 ls []) := by
  obtain ⟨hx, hb, hml, hown, hts⟩ := id S
  have hKa : va_K D vwCl (tyW cy) s := hKW.1
  have hLA : ∀ q ∈ L, A q := fun q hq => by rw [hAe]; exact Or.inl hq
  have hA : ∀ q : Nat, s.heap.size ≤ q → A q := fun q hq => by rw [hAe]; exact Or.inr hq
  have hS : va_S A s.heap s.heap [] := va_S.rf
  have ha := hN.2.2.2.1
  obtain ⟨k2, k3, -⟩ := cK_0 hH ha hP
  have e11 : h 1 1 = ((2 : Nat) : Int) := hP.p (by decide)
  have et : (zty (0, 11, 7, [(30, 0, 2147483647), (64, 0, 2147483647), (36, 0, 2147483647), (48, 0, 2147483647), (49, 0, 2147483647), (53, 0, 2147483647), (60, 0, 2147483647)]) 1).1 = 62 + 2 := rfl
  refine lv_aload_n hx hb dX11_image_11 rfl (lv_at hl 0 rfl) ?_
  refine hg_get hx hb hts hown hKa (zFok_mono (fun w hw => List.mem_cons_of_mem _ hw) zf_RX11_16) ha zkd_63 ⟨rfl, rfl⟩ (by decide) hH dX11_image_12 ?_
  rw [et, e11, z_dr]
  refine lv_iload_n hx hb dX11_image_15 rfl (lv_at hl 1 rfl) ?_
  refine hg_img hx hb hKa k2 hH hxk (by decide) dX11_image_16 ?_
  rcases hI with him | ⟨him, hPk⟩
  · have ei : va_rf (zrf η (h 2 0)) = .null := by
      rw [him]
      exact z_dm1 (η := η) 0
    rw [ei]
    refine lv_ifnonnullN hx hb dX11_image_17 ?_
    refine lv_aload_n hx hb dX11_image_20 rfl (lv_at hl 0 rfl) ?_
    refine hg_get hx hb hts hown hKa (zFok_mono (fun w hw => List.mem_cons_of_mem _ hw) zf_RX11_16) ha zkd_63 ⟨rfl, rfl⟩ (by decide) hH dX11_image_21 ?_
    rw [et, e11, z_dr]
    refine lv_iload_n hx hb dX11_image_24 rfl (lv_at hl 1 rfl) ?_
    have hD0 : va_D A ([] ++ va_pl L (zF η zkds cy Θ h)) := z_D hnd hLA
    refine va_new (ci := 9) (fs := [.null, .null, .null, .null, .null, .int 0, .int 0]) (C := RX9) (T := TX9) (N := 7) hx hb hts (fun w hw => List.mem_cons_of_mem _ (zx_9 w hw)) tyX9 tyX9_ok hown (hts _ (List.mem_cons_of_mem _ zl_t7.1)) (hts _ (List.mem_cons_of_mem _ zl_t7.2.1)) (hts _ (List.mem_cons_of_mem _ zl_t7.2.2.1)) hKa hH.1 hD0 hS hA rfl (by decide +kernel) (by omega) (by omega) dX11_image_25 (fun q3 H1 hP1 hD1 hS1 => ?_)
    have hq3 : q3 ∉ L := va_pl_fresh2 hD1
    have hi3 : (([] ++ va_pl L (zF η zkds cy Θ h)) ++ [(q3, (.inr (9, [.null, .null, .null, .null, .null, .int 0, .int 0]) : va_E))])[([] ++ va_pl L (zF η zkds cy Θ h)).length]? = some (q3, .inr (9, [.null, .null, .null, .null, .null, .int 0, .int 0])) := by rw [List.getElem?_append_right (Nat.le_refl _), Nat.sub_self]; rfl
    have hA3 : s.heap.size ≤ q3 := by
      have h9 : A q3 := hD1.2 _ _ hi3
      rw [hAe] at h9
      exact h9.resolve_left hq3
    have hH1 : zH η zkds D vwCl cy L Θ h H1 := ⟨fun k q hk => hP1 k q (by rw [List.getElem?_append_left (List.getElem?_eq_some_iff.mp hk).1]; exact hk), hH.2⟩
    have hPc : va_P D vwCl [(q3, .inr (9, [.null, .null, .null, .null, .null, .int 0, .int 0]))] H1 := fun k q hk => by
      cases k with
      | zero =>
        have e9 : q = (q3, .inr (9, [.null, .null, .null, .null, .null, .int 0, .int 0])) := (Option.some.inj hk).symm
        rw [e9]
        exact hP1 _ _ hi3
      | succ k => simp at hk
    have hDc : va_D A [(q3, (.inr (9, [.null, .null, .null, .null, .null, .int 0, .int 0]) : va_E))] := by
      refine ⟨fun i j x y hx hy _ => ?_, fun k q hk => ?_⟩
      · have := (List.getElem?_eq_some_iff.mp hx).1
        have := (List.getElem?_eq_some_iff.mp hy).1
        simp only [List.length_cons, List.length_nil] at *
        omega
      · cases k with
        | zero =>
          have e9 : q = (q3, .inr (9, [.null, .null, .null, .null, .null, .int 0, .int 0])) := (Option.some.inj hk).symm
          rw [e9]
          exact hA q3 hA3
        | succ k => simp at hk
    have hFc : ∀ q, va_A [(q3, (.inr (9, [.null, .null, .null, .null, .null, .int 0, .int 0]) : va_E))] H1.size q → A q := fun q hq => by
      rcases z_vaA1 hq with h9 | h9
      · rw [h9]; exact hA q3 hA3
      · exact hA q (Nat.le_trans hS1.1 h9)
    refine W.widen (k := 1) (n := 7) (by decide +kernel) (by decide +kernel) ?_
    refine lv_dup hx hb dX11_image_28 rfl ?_
    refine va_callv (va_runIN (As := []) (rest := [.ref q3, .int x, .ref (η.1 2)]) S (c_X9_init l D cy q3 H1.size) ⟨va_cnB 0 hts (z_gdin zin_X9_init) rfl rfl rfl hKW.2.1.1 (hts _ (List.mem_cons_of_mem _ zl_t7.2.2.1)) (by decide +kernel) ⟨Nat.le_trans (Nat.le_of_ble_eq_true rfl) hfr, Nat.le_trans (Nat.le_of_ble_eq_true rfl) hlo⟩, rfl, hts _ (List.mem_cons_of_mem _ zl_t7.2.2.2)⟩ ⟨pwB, fun U hU hW => ⟨rfl, PW.of hU hW hKW hPc hDc⟩⟩ rfl rfl hl.1 rfl (lv_room (Nat.le_of_ble_eq_true rfl)) dX11_image_29 ⟨by omega, by omega⟩) hS1 (fun q _ h9 => hFc q h9) hFc (fun u t H2 locs2 ht hvm _ hB hz2 hk2 hS2 => ?_)
    obtain ⟨q_1, q_7, q_8, q_33, q_48, q_6, q_9, q_21, q_14, q_15, q_16, q_17, q_18, q_19, q_20, q_26, q_27, q_28, q_29, q_30, q_31, q_32, q_34, q_41, q_39, q_40, q_46, q_47, q_49, q_58, q_54, q_55, q_56, q_57, q_63, q_64, q_65, q_66, hP2, hD2⟩ := hB
    rw [ht] at hP2
    refine W.widen (k := 39) (n := 1090) (by decide +kernel) (by decide +kernel) ?_
    generalize hAD : (fun i => ([q3, q_1, q_6, q_7, q_8, q_9, q_14, q_15, q_16, q_17, q_18, q_19, q_20, q_21, q_26, q_27, q_28, q_29, q_30, q_31, q_32, q_33, q_34, q_39, q_40, q_41, q_46, q_47, q_48, q_49, q_54, q_55, q_56, q_57, q_58, q_63, q_64, q_65, q_66] : List Nat).getD i 0) = AD
    have hat := zi0_at hP2
    rw [hAD] at hat
    have hj : zinj 39 AD := by rw [← hAD]; exact zAD_inj hD2
    have hAA : ∀ i, i < 39 → AD i = q3 ∨ H1.size ≤ AD i := fun i hi => by rw [← hAD]; exact z_vaA1 (zAD_A hD2 hi)
    have hA0 : AD 0 = q3 := by rw [← hAD]; rfl
    clear hP2 hD2 hAD
    have hAb : ∀ i, i < 39 → s.heap.size ≤ AD i := fun i hi => by
      rcases hAA i hi with h9 | h9
      · omega
      · have := hS1.1
        omega
    have hAL : ∀ i, i < 39 → AD i ∉ L := fun i hi h9 => by
      rcases hAA i hi with h8 | h8
      · rw [h8] at h9
        exact hq3 h9
      · have := zH_lt hH1 h9
        omega
    have hH2 : zH η zkds D vwCl cy L Θ h H2 := zH_kept hH1 (fun q hq => hk2 q (zH_lt hH1 hq) (fun h9 => by
      rcases z_vaA1 h9 with h8 | h8
      · rw [h8] at hq
        exact hq3 hq
      · have := zH_lt hH1 hq
        omega))
    have hno : ∀ i, i < 39 → Θ (cdI 0 i) = none := fun i hi => hN.2.2.2.2 0 (by decide) him _ (by have := cdI_b (k := 0) hi; omega) (by have := cdI_b (k := 0) hi; omega)
    have hne : ∀ q kk, Θ q = some kk → ∀ i, i < 39 → cdI 0 i ≠ q := fun q kk hq i hi h9 => by
      have := hno i hi
      rw [h9, hq] at this
      cases this
    obtain ⟨η', hη'⟩ : ∃ η' : zRn, η' = zηx 39 (cdI 0) AD η := ⟨_, rfl⟩
    have n1 : ∀ i, i < 39 → η'.1 (cdI 0 i) = AD i := fun i hi => by rw [hη']; exact zηx1 (cdI_j 0) hi
    have n2 : ∀ i, i < 39 → η'.2 (AD i) = cdI 0 i := fun i hi => by rw [hη']; exact zηx2 hj hi
    have n3 : ∀ q kk, Θ q = some kk → η'.1 q = η.1 q := fun q kk hq => by rw [hη']; exact zηx1n (hne q kk hq)
    have n4 : ∀ q ∈ L, η'.2 q = η.2 q := fun q hq => by rw [hη']; exact zηx2n (fun i hi h9 => hAL i hi (by rw [h9]; exact hq))
    have n5 : ∀ i, i < 15 → η'.1 (1000000 + i) = adK i := fun i hi => by
      rw [hη', zηx1n (fun j hj h9 => by have := cdI_b (k := 0) hj; omega)]
      exact hN.2.1 i hi
    clear hη'
    have hH2' : zH η' zkds D vwCl cy L Θ h H2 := zH_ren zkds_q hH2 hN.2.2.1 n3 n4
    have hW2 := zH_new (T := zTi0) (cd := cdI 0) (AD := AD) n1 n2 hH2' zTi0_ok zTi0_ox (cdI_j 0) (fun i hi => by have := cdI_b (k := 0) hi; omega) hno hAL hat
    have hnd2 : (L ++ (List.range zTi0.length).map AD).Nodup := z_ndnew hnd hj hAL
    have hN2 : zNm (zTh zTi0 (cdI 0) Θ) := zNm_app hN.1 zTi_ns.1 (cdI_j 0) (fun i hi => by have := cdI_b (k := 0) hi; omega)
    have hold : ∀ q kk, Θ q = some kk → zTh zTi0 (cdI 0) Θ q = some kk := fun q kk hq => by
      rw [zTh_ne (T := zTi0) (hne q kk hq)]
      exact hq
    have hout : ∀ q, (∀ i, i < 39 → cdI 0 i ≠ q) → zTh zTi0 (cdI 0) Θ q = Θ q ∧ zhh zkds zTi0 (cdI 0) h q = h q := fun q hq => ⟨zTh_ne (T := zTi0) hq, zhh_ne (T := zTi0) hq⟩
    have hin : ∀ i, i < 39 → (∃ kk, zTh zTi0 (cdI 0) Θ (cdI 0 i) = some kk) ∧ zhh zkds zTi0 (cdI 0) h (cdI 0 i) = zct zkds zTi0 (cdI 0) i := fun i hi => ⟨⟨_, zTh_at (T := zTi0) (cdI_j 0) hi⟩, zhh_at (T := zTi0) (cdI_j 0) hi⟩
    have hn0 : zTh zTi0 (cdI 0) Θ (cdI 0 0) = some 29 := zTh_at (T := zTi0) (i := 0) (cdI_j 0) (by decide)
    have hη0 : η'.1 (cdI 0 0) = q3 := (n1 0 (by decide)).trans hA0
    generalize zTh zTi0 (cdI 0) Θ = Θ2 at hW2 hN2 hold hn0 hout hin
    generalize zhh zkds zTi0 (cdI 0) h = h2 at hW2 hout hin
    obtain ⟨L2, hL2⟩ : ∃ L2, L2 = L ++ (List.range zTi0.length).map AD := ⟨_, rfl⟩
    rw [← hL2] at hW2 hnd2
    have hL2c : ∀ q ∈ L2, q ∈ L ∨ ∃ i, i < 39 ∧ AD i = q := fun q hq => by
      rw [hL2] at hq
      rcases List.mem_append.mp hq with h9 | h9
      · exact Or.inl h9
      · obtain ⟨i, hi, rfl⟩ := List.mem_map.mp h9
        exact Or.inr ⟨i, List.mem_range.mp hi, rfl⟩
    have hLL2 : ∀ q ∈ L, q ∈ L2 := fun q hq => by rw [hL2]; exact List.mem_append_left _ hq
    have hL2A : ∀ q ∈ L2, q ∈ L ∨ s.heap.size ≤ q := fun q hq => by
      rcases hL2c q hq with h9 | ⟨i, hi, rfl⟩
      · exact Or.inl h9
      · exact Or.inr (hAb i hi)
    have hA2 : ∀ q ∈ L2, A q := fun q hq => by rw [hAe]; exact hL2A q hq
    have h2i := hold 2 62 k2
    have h21 := hold 1 63 ha
    obtain ⟨p0, hp0⟩ := zH_get hW2 h2i zkd_62 (by decide)
    obtain ⟨pk, hpk⟩ := zH_get hW2 hn0 zkd_29 (by decide)
    have hD2 : va_D A ([] ++ va_pl L2 (zF η' zkds cy Θ2 h2)) := z_D hnd2 hA2
    have hp0' := hp0
    rw [zE_q rfl] at hp0
    rw [zE_o rfl, hη0] at hpk
    obtain ⟨v1, v2⟩ := z_vin (i := x) (n := 3) (by omega) (by omega)
    have ek : x.toNatClampNeg = 0 := by rw [v2]; omega
    rw [← n3 2 62 k2]
    refine va_astq hx hb hKa hW2.1 hD2 hS2 p0 6 pk 9 hp0 rfl hpk rfl v1 dX11_image_32 (fun H3 locs3 hP3 hD3 hS3 => ?_)
    rw [ek, ← hη0, ← zup_q] at hP3
    have hW3 : zH η' zkds D vwCl cy L2 Θ2 (zup h2 2 0 ((cdI 0 0 : Nat) : Int)) H3 := zH_put hW2 hD2 h2i zkd_62 (by decide) (by decide) (by
      refine ⟨Or.inr ⟨Int.natCast_nonneg _, by rw [Int.toNat_natCast]; exact hn0⟩, ?_, ?_⟩
      · show (-1 : Int) ≤ _
        omega
      · show _ ≤ (2147483647 : Int)
        have := cdI_b (k := 0) (i := 0) (by decide)
        omega) hp0' (by rw [zE_q rfl]; exact hP3)
    have fr3 : ∀ a j, ¬ (1000 * (0 + 1) ≤ a ∧ a < 1000 * (0 + 2)) → ¬ (a = 2 ∧ j = 0) → (zup h2 2 0 ((cdI 0 0 : Nat) : Int)) a j = h a j := fun a j w1 w2 => by
      rw [zup_ne w2, (hout a (fun i hi h9 => by have := cdI_b (k := 0) hi; omega)).2]
    have g3i : (zup h2 2 0 ((cdI 0 0 : Nat) : Int)) 2 0 = ((1000 * (0 + 1) + 3 : Nat) : Int) := zup_at _ _ _ _
    have g3p : cPb (1000 * (0 + 1)) (zup h2 2 0 ((cdI 0 0 : Nat) : Int)) := fun p hp => by
      obtain ⟨i, c1, c2⟩ := zTi0_p p hp
      have c3 := (hin i.1 i.2).2
      unfold cdI at c3
      rw [c1] at c3
      rw [zup_ne (by omega), c3]
      exact c2
    generalize zup h2 2 0 ((cdI 0 0 : Nat) : Int) = h3 at hW3 fr3 g3i g3p
    have hP3' : cP h3 := hP.fr (fun a j w => fr3 a j (by
      obtain ⟨p, hp, e⟩ := List.any_eq_true.mp w
      have e1 : p.1 = a ∧ p.2.1 = j := by simpa using e
      have := cPL_b p hp
      omega) (by
      obtain ⟨p, hp, e⟩ := List.any_eq_true.mp w
      have e1 : p.1 = a ∧ p.2.1 = j := by simpa using e
      have : ∀ p ∈ cPL, p.1 ≠ 2 := by decide +kernel
      have := this p hp
      omega))
    have hN3 : nmC η' adK L2 Θ2 h3 := by
      refine ⟨hN2, n5, fun q hq => ?_, h21, fun i hi w a a1 a2 => ?_⟩
      · rcases hL2c q hq with h9 | ⟨i, hi, rfl⟩
        · obtain ⟨kk, ekk⟩ := hN.2.2.1 q h9
          exact ⟨kk, by rw [n4 q h9]; exact hold _ _ ekk⟩
        · rw [n2 i hi]
          exact (hin i hi).1
      · by_cases hik : i = 0
        · rw [hik, g3i] at w
          omega
        · rw [(hout a (fun j hj h9 => by have := cdI_b (k := 0) hj; omega)).1]
          exact hN.2.2.2.2 i hi (by rw [← fr3 2 i (by omega) (by omega)]; exact w) a a1 a2
    rw [← n3 1 63 ha] at hl
    refine img_tl0 l S hKW hZ hW3 hnd2 (fun q hq => (hL2A q hq).elim (fun h9 => hLb q h9) (fun h9 => by omega)) hN3 hP3' g3i g3p hA2 hS3 (fun q h8 h9 => hS3.2.1 q h8 (fun h7 => by
      rw [hAe] at h7
      rcases h7 with h7 | h7
      · exact h9 (hLL2 q h7)
      · omega)) ⟨hRc.1, hRc.2⟩ (by omega) (by omega) hl hxk (fun h' H4 locs4 hW4 hT4 hS4 => ?_)
    exact K H4 locs4 ⟨η', L2, Θ2, h3, h', hW4, hnd2, hL2A, hN3.keep (fun k => hT4.2.2.2.2.2.2.2.2.2 _ _ (by omega)), n3 1 63 ha, ⟨fr3, g3i, g3p, (cBb_of hW3 g3p (show Θ2 (1000 * (0 + 1) + 3) = some 29 from hn0) (by decide)).1.2⟩, hT4⟩ hS4
  · have ei : va_rf (zrf η (h 2 0)) = .ref (η.1 (1000 * (0 + 1) + 3)) := by
      rw [him]
      exact z_dr 0 _
    rw [ei]
    refine lv_ifnonnull (tgt := 33) hx hb dX11_image_17 (by decide) ?_
    refine W.widen (k := 39) (n := 1090) (by decide +kernel) (by decide +kernel) ?_
    refine img_tl0 l S hKW hZ hH hnd hLb hN hP him hPk hLA hS (fun q _ _ => rfl) ⟨hRc.1, hRc.2⟩ (by omega) (by omega) hl hxk (fun h' H4 locs4 hW4 hT4 hS4 => ?_)
    exact K H4 locs4 ⟨η, L, Θ, h, h', hW4, hnd, fun q hq => Or.inl hq, hN.keep (fun k => hT4.2.2.2.2.2.2.2.2.2 _ _ (by omega)), rfl, ⟨fun a j _ _ => rfl, him, hPk, (cBb_of hH hPk (cK_im (F := False) (g := h) hH ha hP (show 0 < 3 by decide) him) (by decide)).1.2⟩, hT4⟩ hS4
theorem zTi1_p : ∀ p ∈ cPLb, ∃ i : Fin 39, cdIo.getD i.1 0 = p.1 ∧ zct zkds zTi1 (cdI 1) i.1 p.2.1 = ((1000 * (1 + 1) + p.2.2 : Nat) : Int) := by decide +kernel
set_option maxHeartbeats 8000000 in
set_option maxRecDepth 100000 in
theorem img_bd1 (l : Launch) {D : va_G} {cy : Nat → ClassId} {L : List Nat} {Θ : Nat → Option Nat} {h : Nat → Nat → Int} {p : Program} {e : Env} {R : Room} {s : State} {m : MethodId} {args : Array Value} {below : List Frame} {meth : Method} {c : Code} {Q : State → Prop} {w0 : Cond} {ls : Array Slot} {A : Nat → Prop} {base : Nat} {tb adK adV : Nat → Nat} {fv : Option Nat} {x : Int32} (S : CallFix p m c cX11_image 2 s args (w0 :: zTW) RX11) (hKW : KW D cy s) (hZ : zS0 base tb adK adV fv s)
    (hH : zH η zkds D vwCl cy L Θ h s.heap) (hnd : L.Nodup) (hLb : ∀ q ∈ L, base ≤ q) (hbs : base ≤ s.heap.size) (hN : nmC η adK L Θ h) (hP : cP h) (hI : h 2 1 = -1 ∨ (h 2 1 = ((1000 * (1 + 1) + 3 : Nat) : Int) ∧ cPb (1000 * (1 + 1)) h)) (hAe : A = fun q => q ∈ L ∨ s.heap.size ≤ q) (hRc : 39 ≤ R.cells ∧ 1090 ≤ R.slots) (hfr : 4 ≤ R.frames) (hlo : 100 ≤ R.locals) (hl : lv_has ls 2 [(0, .ref (η.1 1)), (1, .int x)]) (hxk : x.toInt = ((1 : Nat) : Int))
    (K : ∀ (H1 : Heap) (locs1 : List Loc), imgO 1 η adK D cy L h s.heap.size H1 → va_S A s.heap H1 locs1 → W p l e R s m args below meth c H1 locs1 39 1090 Q (F0 m 46 ls [])) : W p l e R s m args below meth c s.heap [] 0 0 Q (F0 m 11 ls []) := by
  obtain ⟨hx, hb, hml, hown, hts⟩ := id S
  have hKa : va_K D vwCl (tyW cy) s := hKW.1
  have hLA : ∀ q ∈ L, A q := fun q hq => by rw [hAe]; exact Or.inl hq
  have hA : ∀ q : Nat, s.heap.size ≤ q → A q := fun q hq => by rw [hAe]; exact Or.inr hq
  have hS : va_S A s.heap s.heap [] := va_S.rf
  have ha := hN.2.2.2.1
  obtain ⟨k2, k3, -⟩ := cK_0 hH ha hP
  have e11 : h 1 1 = ((2 : Nat) : Int) := hP.p (by decide)
  have et : (zty (0, 11, 7, [(30, 0, 2147483647), (64, 0, 2147483647), (36, 0, 2147483647), (48, 0, 2147483647), (49, 0, 2147483647), (53, 0, 2147483647), (60, 0, 2147483647)]) 1).1 = 62 + 2 := rfl
  refine lv_aload_n hx hb dX11_image_11 rfl (lv_at hl 0 rfl) ?_
  refine hg_get hx hb hts hown hKa (zFok_mono (fun w hw => List.mem_cons_of_mem _ hw) zf_RX11_16) ha zkd_63 ⟨rfl, rfl⟩ (by decide) hH dX11_image_12 ?_
  rw [et, e11, z_dr]
  refine lv_iload_n hx hb dX11_image_15 rfl (lv_at hl 1 rfl) ?_
  refine hg_img hx hb hKa k2 hH hxk (by decide) dX11_image_16 ?_
  rcases hI with him | ⟨him, hPk⟩
  · have ei : va_rf (zrf η (h 2 1)) = .null := by
      rw [him]
      exact z_dm1 (η := η) 0
    rw [ei]
    refine lv_ifnonnullN hx hb dX11_image_17 ?_
    refine lv_aload_n hx hb dX11_image_20 rfl (lv_at hl 0 rfl) ?_
    refine hg_get hx hb hts hown hKa (zFok_mono (fun w hw => List.mem_cons_of_mem _ hw) zf_RX11_16) ha zkd_63 ⟨rfl, rfl⟩ (by decide) hH dX11_image_21 ?_
    rw [et, e11, z_dr]
    refine lv_iload_n hx hb dX11_image_24 rfl (lv_at hl 1 rfl) ?_
    have hD0 : va_D A ([] ++ va_pl L (zF η zkds cy Θ h)) := z_D hnd hLA
    refine va_new (ci := 9) (fs := [.null, .null, .null, .null, .null, .int 0, .int 0]) (C := RX9) (T := TX9) (N := 7) hx hb hts (fun w hw => List.mem_cons_of_mem _ (zx_9 w hw)) tyX9 tyX9_ok hown (hts _ (List.mem_cons_of_mem _ zl_t7.1)) (hts _ (List.mem_cons_of_mem _ zl_t7.2.1)) (hts _ (List.mem_cons_of_mem _ zl_t7.2.2.1)) hKa hH.1 hD0 hS hA rfl (by decide +kernel) (by omega) (by omega) dX11_image_25 (fun q3 H1 hP1 hD1 hS1 => ?_)
    have hq3 : q3 ∉ L := va_pl_fresh2 hD1
    have hi3 : (([] ++ va_pl L (zF η zkds cy Θ h)) ++ [(q3, (.inr (9, [.null, .null, .null, .null, .null, .int 0, .int 0]) : va_E))])[([] ++ va_pl L (zF η zkds cy Θ h)).length]? = some (q3, .inr (9, [.null, .null, .null, .null, .null, .int 0, .int 0])) := by rw [List.getElem?_append_right (Nat.le_refl _), Nat.sub_self]; rfl
    have hA3 : s.heap.size ≤ q3 := by
      have h9 : A q3 := hD1.2 _ _ hi3
      rw [hAe] at h9
      exact h9.resolve_left hq3
    have hH1 : zH η zkds D vwCl cy L Θ h H1 := ⟨fun k q hk => hP1 k q (by rw [List.getElem?_append_left (List.getElem?_eq_some_iff.mp hk).1]; exact hk), hH.2⟩
    have hPc : va_P D vwCl [(q3, .inr (9, [.null, .null, .null, .null, .null, .int 0, .int 0]))] H1 := fun k q hk => by
      cases k with
      | zero =>
        have e9 : q = (q3, .inr (9, [.null, .null, .null, .null, .null, .int 0, .int 0])) := (Option.some.inj hk).symm
        rw [e9]
        exact hP1 _ _ hi3
      | succ k => simp at hk
    have hDc : va_D A [(q3, (.inr (9, [.null, .null, .null, .null, .null, .int 0, .int 0]) : va_E))] := by
      refine ⟨fun i j x y hx hy _ => ?_, fun k q hk => ?_⟩
      · have := (List.getElem?_eq_some_iff.mp hx).1
        have := (List.getElem?_eq_some_iff.mp hy).1
        simp only [List.length_cons, List.length_nil] at *
        omega
      · cases k with
        | zero =>
          have e9 : q = (q3, .inr (9, [.null, .null, .null, .null, .null, .int 0, .int 0])) := (Option.some.inj hk).symm
          rw [e9]
          exact hA q3 hA3
        | succ k => simp at hk
    have hFc : ∀ q, va_A [(q3, (.inr (9, [.null, .null, .null, .null, .null, .int 0, .int 0]) : va_E))] H1.size q → A q := fun q hq => by
      rcases z_vaA1 hq with h9 | h9
      · rw [h9]; exact hA q3 hA3
      · exact hA q (Nat.le_trans hS1.1 h9)
    refine W.widen (k := 1) (n := 7) (by decide +kernel) (by decide +kernel) ?_
    refine lv_dup hx hb dX11_image_28 rfl ?_
    refine va_callv (va_runIN (As := []) (rest := [.ref q3, .int x, .ref (η.1 2)]) S (c_X9_init l D cy q3 H1.size) ⟨va_cnB 0 hts (z_gdin zin_X9_init) rfl rfl rfl hKW.2.1.1 (hts _ (List.mem_cons_of_mem _ zl_t7.2.2.1)) (by decide +kernel) ⟨Nat.le_trans (Nat.le_of_ble_eq_true rfl) hfr, Nat.le_trans (Nat.le_of_ble_eq_true rfl) hlo⟩, rfl, hts _ (List.mem_cons_of_mem _ zl_t7.2.2.2)⟩ ⟨pwB, fun U hU hW => ⟨rfl, PW.of hU hW hKW hPc hDc⟩⟩ rfl rfl hl.1 rfl (lv_room (Nat.le_of_ble_eq_true rfl)) dX11_image_29 ⟨by omega, by omega⟩) hS1 (fun q _ h9 => hFc q h9) hFc (fun u t H2 locs2 ht hvm _ hB hz2 hk2 hS2 => ?_)
    obtain ⟨q_1, q_7, q_8, q_33, q_48, q_6, q_9, q_21, q_14, q_15, q_16, q_17, q_18, q_19, q_20, q_26, q_27, q_28, q_29, q_30, q_31, q_32, q_34, q_41, q_39, q_40, q_46, q_47, q_49, q_58, q_54, q_55, q_56, q_57, q_63, q_64, q_65, q_66, hP2, hD2⟩ := hB
    rw [ht] at hP2
    refine W.widen (k := 39) (n := 1090) (by decide +kernel) (by decide +kernel) ?_
    generalize hAD : (fun i => ([q3, q_1, q_6, q_7, q_8, q_9, q_14, q_15, q_16, q_17, q_18, q_19, q_20, q_21, q_26, q_27, q_28, q_29, q_30, q_31, q_32, q_33, q_34, q_39, q_40, q_41, q_46, q_47, q_48, q_49, q_54, q_55, q_56, q_57, q_58, q_63, q_64, q_65, q_66] : List Nat).getD i 0) = AD
    have hat := zi1_at hP2
    rw [hAD] at hat
    have hj : zinj 39 AD := by rw [← hAD]; exact zAD_inj hD2
    have hAA : ∀ i, i < 39 → AD i = q3 ∨ H1.size ≤ AD i := fun i hi => by rw [← hAD]; exact z_vaA1 (zAD_A hD2 hi)
    have hA0 : AD 0 = q3 := by rw [← hAD]; rfl
    clear hP2 hD2 hAD
    have hAb : ∀ i, i < 39 → s.heap.size ≤ AD i := fun i hi => by
      rcases hAA i hi with h9 | h9
      · omega
      · have := hS1.1
        omega
    have hAL : ∀ i, i < 39 → AD i ∉ L := fun i hi h9 => by
      rcases hAA i hi with h8 | h8
      · rw [h8] at h9
        exact hq3 h9
      · have := zH_lt hH1 h9
        omega
    have hH2 : zH η zkds D vwCl cy L Θ h H2 := zH_kept hH1 (fun q hq => hk2 q (zH_lt hH1 hq) (fun h9 => by
      rcases z_vaA1 h9 with h8 | h8
      · rw [h8] at hq
        exact hq3 hq
      · have := zH_lt hH1 hq
        omega))
    have hno : ∀ i, i < 39 → Θ (cdI 1 i) = none := fun i hi => hN.2.2.2.2 1 (by decide) him _ (by have := cdI_b (k := 1) hi; omega) (by have := cdI_b (k := 1) hi; omega)
    have hne : ∀ q kk, Θ q = some kk → ∀ i, i < 39 → cdI 1 i ≠ q := fun q kk hq i hi h9 => by
      have := hno i hi
      rw [h9, hq] at this
      cases this
    obtain ⟨η', hη'⟩ : ∃ η' : zRn, η' = zηx 39 (cdI 1) AD η := ⟨_, rfl⟩
    have n1 : ∀ i, i < 39 → η'.1 (cdI 1 i) = AD i := fun i hi => by rw [hη']; exact zηx1 (cdI_j 1) hi
    have n2 : ∀ i, i < 39 → η'.2 (AD i) = cdI 1 i := fun i hi => by rw [hη']; exact zηx2 hj hi
    have n3 : ∀ q kk, Θ q = some kk → η'.1 q = η.1 q := fun q kk hq => by rw [hη']; exact zηx1n (hne q kk hq)
    have n4 : ∀ q ∈ L, η'.2 q = η.2 q := fun q hq => by rw [hη']; exact zηx2n (fun i hi h9 => hAL i hi (by rw [h9]; exact hq))
    have n5 : ∀ i, i < 15 → η'.1 (1000000 + i) = adK i := fun i hi => by
      rw [hη', zηx1n (fun j hj h9 => by have := cdI_b (k := 1) hj; omega)]
      exact hN.2.1 i hi
    clear hη'
    have hH2' : zH η' zkds D vwCl cy L Θ h H2 := zH_ren zkds_q hH2 hN.2.2.1 n3 n4
    have hW2 := zH_new (T := zTi1) (cd := cdI 1) (AD := AD) n1 n2 hH2' zTi1_ok zTi1_ox (cdI_j 1) (fun i hi => by have := cdI_b (k := 1) hi; omega) hno hAL hat
    have hnd2 : (L ++ (List.range zTi1.length).map AD).Nodup := z_ndnew hnd hj hAL
    have hN2 : zNm (zTh zTi1 (cdI 1) Θ) := zNm_app hN.1 zTi_ns.2.1 (cdI_j 1) (fun i hi => by have := cdI_b (k := 1) hi; omega)
    have hold : ∀ q kk, Θ q = some kk → zTh zTi1 (cdI 1) Θ q = some kk := fun q kk hq => by
      rw [zTh_ne (T := zTi1) (hne q kk hq)]
      exact hq
    have hout : ∀ q, (∀ i, i < 39 → cdI 1 i ≠ q) → zTh zTi1 (cdI 1) Θ q = Θ q ∧ zhh zkds zTi1 (cdI 1) h q = h q := fun q hq => ⟨zTh_ne (T := zTi1) hq, zhh_ne (T := zTi1) hq⟩
    have hin : ∀ i, i < 39 → (∃ kk, zTh zTi1 (cdI 1) Θ (cdI 1 i) = some kk) ∧ zhh zkds zTi1 (cdI 1) h (cdI 1 i) = zct zkds zTi1 (cdI 1) i := fun i hi => ⟨⟨_, zTh_at (T := zTi1) (cdI_j 1) hi⟩, zhh_at (T := zTi1) (cdI_j 1) hi⟩
    have hn0 : zTh zTi1 (cdI 1) Θ (cdI 1 0) = some 30 := zTh_at (T := zTi1) (i := 0) (cdI_j 1) (by decide)
    have hη0 : η'.1 (cdI 1 0) = q3 := (n1 0 (by decide)).trans hA0
    generalize zTh zTi1 (cdI 1) Θ = Θ2 at hW2 hN2 hold hn0 hout hin
    generalize zhh zkds zTi1 (cdI 1) h = h2 at hW2 hout hin
    obtain ⟨L2, hL2⟩ : ∃ L2, L2 = L ++ (List.range zTi1.length).map AD := ⟨_, rfl⟩
    rw [← hL2] at hW2 hnd2
    have hL2c : ∀ q ∈ L2, q ∈ L ∨ ∃ i, i < 39 ∧ AD i = q := fun q hq => by
      rw [hL2] at hq
      rcases List.mem_append.mp hq with h9 | h9
      · exact Or.inl h9
      · obtain ⟨i, hi, rfl⟩ := List.mem_map.mp h9
        exact Or.inr ⟨i, List.mem_range.mp hi, rfl⟩
    have hLL2 : ∀ q ∈ L, q ∈ L2 := fun q hq => by rw [hL2]; exact List.mem_append_left _ hq
    have hL2A : ∀ q ∈ L2, q ∈ L ∨ s.heap.size ≤ q := fun q hq => by
      rcases hL2c q hq with h9 | ⟨i, hi, rfl⟩
      · exact Or.inl h9
      · exact Or.inr (hAb i hi)
    have hA2 : ∀ q ∈ L2, A q := fun q hq => by rw [hAe]; exact hL2A q hq
    have h2i := hold 2 62 k2
    have h21 := hold 1 63 ha
    obtain ⟨p0, hp0⟩ := zH_get hW2 h2i zkd_62 (by decide)
    obtain ⟨pk, hpk⟩ := zH_get hW2 hn0 zkd_30 (by decide)
    have hD2 : va_D A ([] ++ va_pl L2 (zF η' zkds cy Θ2 h2)) := z_D hnd2 hA2
    have hp0' := hp0
    rw [zE_q rfl] at hp0
    rw [zE_o rfl, hη0] at hpk
    obtain ⟨v1, v2⟩ := z_vin (i := x) (n := 3) (by omega) (by omega)
    have ek : x.toNatClampNeg = 1 := by rw [v2]; omega
    rw [← n3 2 62 k2]
    refine va_astq hx hb hKa hW2.1 hD2 hS2 p0 6 pk 9 hp0 rfl hpk rfl v1 dX11_image_32 (fun H3 locs3 hP3 hD3 hS3 => ?_)
    rw [ek, ← hη0, ← zup_q] at hP3
    have hW3 : zH η' zkds D vwCl cy L2 Θ2 (zup h2 2 1 ((cdI 1 0 : Nat) : Int)) H3 := zH_put hW2 hD2 h2i zkd_62 (by decide) (by decide) (by
      refine ⟨Or.inr ⟨Int.natCast_nonneg _, by rw [Int.toNat_natCast]; exact hn0⟩, ?_, ?_⟩
      · show (-1 : Int) ≤ _
        omega
      · show _ ≤ (2147483647 : Int)
        have := cdI_b (k := 1) (i := 0) (by decide)
        omega) hp0' (by rw [zE_q rfl]; exact hP3)
    have fr3 : ∀ a j, ¬ (1000 * (1 + 1) ≤ a ∧ a < 1000 * (1 + 2)) → ¬ (a = 2 ∧ j = 1) → (zup h2 2 1 ((cdI 1 0 : Nat) : Int)) a j = h a j := fun a j w1 w2 => by
      rw [zup_ne w2, (hout a (fun i hi h9 => by have := cdI_b (k := 1) hi; omega)).2]
    have g3i : (zup h2 2 1 ((cdI 1 0 : Nat) : Int)) 2 1 = ((1000 * (1 + 1) + 3 : Nat) : Int) := zup_at _ _ _ _
    have g3p : cPb (1000 * (1 + 1)) (zup h2 2 1 ((cdI 1 0 : Nat) : Int)) := fun p hp => by
      obtain ⟨i, c1, c2⟩ := zTi1_p p hp
      have c3 := (hin i.1 i.2).2
      unfold cdI at c3
      rw [c1] at c3
      rw [zup_ne (by omega), c3]
      exact c2
    generalize zup h2 2 1 ((cdI 1 0 : Nat) : Int) = h3 at hW3 fr3 g3i g3p
    have hP3' : cP h3 := hP.fr (fun a j w => fr3 a j (by
      obtain ⟨p, hp, e⟩ := List.any_eq_true.mp w
      have e1 : p.1 = a ∧ p.2.1 = j := by simpa using e
      have := cPL_b p hp
      omega) (by
      obtain ⟨p, hp, e⟩ := List.any_eq_true.mp w
      have e1 : p.1 = a ∧ p.2.1 = j := by simpa using e
      have : ∀ p ∈ cPL, p.1 ≠ 2 := by decide +kernel
      have := this p hp
      omega))
    have hN3 : nmC η' adK L2 Θ2 h3 := by
      refine ⟨hN2, n5, fun q hq => ?_, h21, fun i hi w a a1 a2 => ?_⟩
      · rcases hL2c q hq with h9 | ⟨i, hi, rfl⟩
        · obtain ⟨kk, ekk⟩ := hN.2.2.1 q h9
          exact ⟨kk, by rw [n4 q h9]; exact hold _ _ ekk⟩
        · rw [n2 i hi]
          exact (hin i hi).1
      · by_cases hik : i = 1
        · rw [hik, g3i] at w
          omega
        · rw [(hout a (fun j hj h9 => by have := cdI_b (k := 1) hj; omega)).1]
          exact hN.2.2.2.2 i hi (by rw [← fr3 2 i (by omega) (by omega)]; exact w) a a1 a2
    rw [← n3 1 63 ha] at hl
    refine img_tl1 l S hKW hZ hW3 hnd2 (fun q hq => (hL2A q hq).elim (fun h9 => hLb q h9) (fun h9 => by omega)) hN3 hP3' g3i g3p hA2 hS3 (fun q h8 h9 => hS3.2.1 q h8 (fun h7 => by
      rw [hAe] at h7
      rcases h7 with h7 | h7
      · exact h9 (hLL2 q h7)
      · omega)) ⟨hRc.1, hRc.2⟩ (by omega) (by omega) hl hxk (fun h' H4 locs4 hW4 hT4 hS4 => ?_)
    exact K H4 locs4 ⟨η', L2, Θ2, h3, h', hW4, hnd2, hL2A, hN3.keep (fun k => hT4.2.2.2.2.2.2.2.2.2 _ _ (by omega)), n3 1 63 ha, ⟨fr3, g3i, g3p, (cBb_of hW3 g3p (show Θ2 (1000 * (1 + 1) + 3) = some 30 from hn0) (by decide)).1.2⟩, hT4⟩ hS4
  · have ei : va_rf (zrf η (h 2 1)) = .ref (η.1 (1000 * (1 + 1) + 3)) := by
      rw [him]
      exact z_dr 0 _
    rw [ei]
    refine lv_ifnonnull (tgt := 33) hx hb dX11_image_17 (by decide) ?_
    refine W.widen (k := 39) (n := 1090) (by decide +kernel) (by decide +kernel) ?_
    refine img_tl1 l S hKW hZ hH hnd hLb hN hP him hPk hLA hS (fun q _ _ => rfl) ⟨hRc.1, hRc.2⟩ (by omega) (by omega) hl hxk (fun h' H4 locs4 hW4 hT4 hS4 => ?_)
    exact K H4 locs4 ⟨η, L, Θ, h, h', hW4, hnd, fun q hq => Or.inl hq, hN.keep (fun k => hT4.2.2.2.2.2.2.2.2.2 _ _ (by omega)), rfl, ⟨fun a j _ _ => rfl, him, hPk, (cBb_of hH hPk (cK_im (F := False) (g := h) hH ha hP (show 1 < 3 by decide) him) (by decide)).1.2⟩, hT4⟩ hS4
theorem zTi2_p : ∀ p ∈ cPLb, ∃ i : Fin 39, cdIo.getD i.1 0 = p.1 ∧ zct zkds zTi2 (cdI 2) i.1 p.2.1 = ((1000 * (2 + 1) + p.2.2 : Nat) : Int) := by decide +kernel
set_option maxHeartbeats 8000000 in
set_option maxRecDepth 100000 in
theorem img_bd2 (l : Launch) {D : va_G} {cy : Nat → ClassId} {L : List Nat} {Θ : Nat → Option Nat} {h : Nat → Nat → Int} {p : Program} {e : Env} {R : Room} {s : State} {m : MethodId} {args : Array Value} {below : List Frame} {meth : Method} {c : Code} {Q : State → Prop} {w0 : Cond} {ls : Array Slot} {A : Nat → Prop} {base : Nat} {tb adK adV : Nat → Nat} {fv : Option Nat} {x : Int32} (S : CallFix p m c cX11_image 2 s args (w0 :: zTW) RX11) (hKW : KW D cy s) (hZ : zS0 base tb adK adV fv s)
    (hH : zH η zkds D vwCl cy L Θ h s.heap) (hnd : L.Nodup) (hLb : ∀ q ∈ L, base ≤ q) (hbs : base ≤ s.heap.size) (hN : nmC η adK L Θ h) (hP : cP h) (hI : h 2 2 = -1 ∨ (h 2 2 = ((1000 * (2 + 1) + 3 : Nat) : Int) ∧ cPb (1000 * (2 + 1)) h)) (hAe : A = fun q => q ∈ L ∨ s.heap.size ≤ q) (hRc : 39 ≤ R.cells ∧ 1090 ≤ R.slots) (hfr : 4 ≤ R.frames) (hlo : 100 ≤ R.locals) (hl : lv_has ls 2 [(0, .ref (η.1 1)), (1, .int x)]) (hxk : x.toInt = ((2 : Nat) : Int))
    (K : ∀ (H1 : Heap) (locs1 : List Loc), imgO 2 η adK D cy L h s.heap.size H1 → va_S A s.heap H1 locs1 → W p l e R s m args below meth c H1 locs1 39 1090 Q (F0 m 46 ls [])) : W p l e R s m args below meth c s.heap [] 0 0 Q (F0 m 11 ls []) := by
  obtain ⟨hx, hb, hml, hown, hts⟩ := id S
  have hKa : va_K D vwCl (tyW cy) s := hKW.1
  have hLA : ∀ q ∈ L, A q := fun q hq => by rw [hAe]; exact Or.inl hq
  have hA : ∀ q : Nat, s.heap.size ≤ q → A q := fun q hq => by rw [hAe]; exact Or.inr hq
  have hS : va_S A s.heap s.heap [] := va_S.rf
  have ha := hN.2.2.2.1
  obtain ⟨k2, k3, -⟩ := cK_0 hH ha hP
  have e11 : h 1 1 = ((2 : Nat) : Int) := hP.p (by decide)
  have et : (zty (0, 11, 7, [(30, 0, 2147483647), (64, 0, 2147483647), (36, 0, 2147483647), (48, 0, 2147483647), (49, 0, 2147483647), (53, 0, 2147483647), (60, 0, 2147483647)]) 1).1 = 62 + 2 := rfl
  refine lv_aload_n hx hb dX11_image_11 rfl (lv_at hl 0 rfl) ?_
  refine hg_get hx hb hts hown hKa (zFok_mono (fun w hw => List.mem_cons_of_mem _ hw) zf_RX11_16) ha zkd_63 ⟨rfl, rfl⟩ (by decide) hH dX11_image_12 ?_
  rw [et, e11, z_dr]
  refine lv_iload_n hx hb dX11_image_15 rfl (lv_at hl 1 rfl) ?_
  refine hg_img hx hb hKa k2 hH hxk (by decide) dX11_image_16 ?_
  rcases hI with him | ⟨him, hPk⟩
  · have ei : va_rf (zrf η (h 2 2)) = .null := by
      rw [him]
      exact z_dm1 (η := η) 0
    rw [ei]
    refine lv_ifnonnullN hx hb dX11_image_17 ?_
    refine lv_aload_n hx hb dX11_image_20 rfl (lv_at hl 0 rfl) ?_
    refine hg_get hx hb hts hown hKa (zFok_mono (fun w hw => List.mem_cons_of_mem _ hw) zf_RX11_16) ha zkd_63 ⟨rfl, rfl⟩ (by decide) hH dX11_image_21 ?_
    rw [et, e11, z_dr]
    refine lv_iload_n hx hb dX11_image_24 rfl (lv_at hl 1 rfl) ?_
    have hD0 : va_D A ([] ++ va_pl L (zF η zkds cy Θ h)) := z_D hnd hLA
    refine va_new (ci := 9) (fs := [.null, .null, .null, .null, .null, .int 0, .int 0]) (C := RX9) (T := TX9) (N := 7) hx hb hts (fun w hw => List.mem_cons_of_mem _ (zx_9 w hw)) tyX9 tyX9_ok hown (hts _ (List.mem_cons_of_mem _ zl_t7.1)) (hts _ (List.mem_cons_of_mem _ zl_t7.2.1)) (hts _ (List.mem_cons_of_mem _ zl_t7.2.2.1)) hKa hH.1 hD0 hS hA rfl (by decide +kernel) (by omega) (by omega) dX11_image_25 (fun q3 H1 hP1 hD1 hS1 => ?_)
    have hq3 : q3 ∉ L := va_pl_fresh2 hD1
    have hi3 : (([] ++ va_pl L (zF η zkds cy Θ h)) ++ [(q3, (.inr (9, [.null, .null, .null, .null, .null, .int 0, .int 0]) : va_E))])[([] ++ va_pl L (zF η zkds cy Θ h)).length]? = some (q3, .inr (9, [.null, .null, .null, .null, .null, .int 0, .int 0])) := by rw [List.getElem?_append_right (Nat.le_refl _), Nat.sub_self]; rfl
    have hA3 : s.heap.size ≤ q3 := by
      have h9 : A q3 := hD1.2 _ _ hi3
      rw [hAe] at h9
      exact h9.resolve_left hq3
    have hH1 : zH η zkds D vwCl cy L Θ h H1 := ⟨fun k q hk => hP1 k q (by rw [List.getElem?_append_left (List.getElem?_eq_some_iff.mp hk).1]; exact hk), hH.2⟩
    have hPc : va_P D vwCl [(q3, .inr (9, [.null, .null, .null, .null, .null, .int 0, .int 0]))] H1 := fun k q hk => by
      cases k with
      | zero =>
        have e9 : q = (q3, .inr (9, [.null, .null, .null, .null, .null, .int 0, .int 0])) := (Option.some.inj hk).symm
        rw [e9]
        exact hP1 _ _ hi3
      | succ k => simp at hk
    have hDc : va_D A [(q3, (.inr (9, [.null, .null, .null, .null, .null, .int 0, .int 0]) : va_E))] := by
      refine ⟨fun i j x y hx hy _ => ?_, fun k q hk => ?_⟩
      · have := (List.getElem?_eq_some_iff.mp hx).1
        have := (List.getElem?_eq_some_iff.mp hy).1
        simp only [List.length_cons, List.length_nil] at *
        omega
      · cases k with
        | zero =>
          have e9 : q = (q3, .inr (9, [.null, .null, .null, .null, .null, .int 0, .int 0])) := (Option.some.inj hk).symm
          rw [e9]
          exact hA q3 hA3
        | succ k => simp at hk
    have hFc : ∀ q, va_A [(q3, (.inr (9, [.null, .null, .null, .null, .null, .int 0, .int 0]) : va_E))] H1.size q → A q := fun q hq => by
      rcases z_vaA1 hq with h9 | h9
      · rw [h9]; exact hA q3 hA3
      · exact hA q (Nat.le_trans hS1.1 h9)
    refine W.widen (k := 1) (n := 7) (by decide +kernel) (by decide +kernel) ?_
    refine lv_dup hx hb dX11_image_28 rfl ?_
    refine va_callv (va_runIN (As := []) (rest := [.ref q3, .int x, .ref (η.1 2)]) S (c_X9_init l D cy q3 H1.size) ⟨va_cnB 0 hts (z_gdin zin_X9_init) rfl rfl rfl hKW.2.1.1 (hts _ (List.mem_cons_of_mem _ zl_t7.2.2.1)) (by decide +kernel) ⟨Nat.le_trans (Nat.le_of_ble_eq_true rfl) hfr, Nat.le_trans (Nat.le_of_ble_eq_true rfl) hlo⟩, rfl, hts _ (List.mem_cons_of_mem _ zl_t7.2.2.2)⟩ ⟨pwB, fun U hU hW => ⟨rfl, PW.of hU hW hKW hPc hDc⟩⟩ rfl rfl hl.1 rfl (lv_room (Nat.le_of_ble_eq_true rfl)) dX11_image_29 ⟨by omega, by omega⟩) hS1 (fun q _ h9 => hFc q h9) hFc (fun u t H2 locs2 ht hvm _ hB hz2 hk2 hS2 => ?_)
    obtain ⟨q_1, q_7, q_8, q_33, q_48, q_6, q_9, q_21, q_14, q_15, q_16, q_17, q_18, q_19, q_20, q_26, q_27, q_28, q_29, q_30, q_31, q_32, q_34, q_41, q_39, q_40, q_46, q_47, q_49, q_58, q_54, q_55, q_56, q_57, q_63, q_64, q_65, q_66, hP2, hD2⟩ := hB
    rw [ht] at hP2
    refine W.widen (k := 39) (n := 1090) (by decide +kernel) (by decide +kernel) ?_
    generalize hAD : (fun i => ([q3, q_1, q_6, q_7, q_8, q_9, q_14, q_15, q_16, q_17, q_18, q_19, q_20, q_21, q_26, q_27, q_28, q_29, q_30, q_31, q_32, q_33, q_34, q_39, q_40, q_41, q_46, q_47, q_48, q_49, q_54, q_55, q_56, q_57, q_58, q_63, q_64, q_65, q_66] : List Nat).getD i 0) = AD
    have hat := zi2_at hP2
    rw [hAD] at hat
    have hj : zinj 39 AD := by rw [← hAD]; exact zAD_inj hD2
    have hAA : ∀ i, i < 39 → AD i = q3 ∨ H1.size ≤ AD i := fun i hi => by rw [← hAD]; exact z_vaA1 (zAD_A hD2 hi)
    have hA0 : AD 0 = q3 := by rw [← hAD]; rfl
    clear hP2 hD2 hAD
    have hAb : ∀ i, i < 39 → s.heap.size ≤ AD i := fun i hi => by
      rcases hAA i hi with h9 | h9
      · omega
      · have := hS1.1
        omega
    have hAL : ∀ i, i < 39 → AD i ∉ L := fun i hi h9 => by
      rcases hAA i hi with h8 | h8
      · rw [h8] at h9
        exact hq3 h9
      · have := zH_lt hH1 h9
        omega
    have hH2 : zH η zkds D vwCl cy L Θ h H2 := zH_kept hH1 (fun q hq => hk2 q (zH_lt hH1 hq) (fun h9 => by
      rcases z_vaA1 h9 with h8 | h8
      · rw [h8] at hq
        exact hq3 hq
      · have := zH_lt hH1 hq
        omega))
    have hno : ∀ i, i < 39 → Θ (cdI 2 i) = none := fun i hi => hN.2.2.2.2 2 (by decide) him _ (by have := cdI_b (k := 2) hi; omega) (by have := cdI_b (k := 2) hi; omega)
    have hne : ∀ q kk, Θ q = some kk → ∀ i, i < 39 → cdI 2 i ≠ q := fun q kk hq i hi h9 => by
      have := hno i hi
      rw [h9, hq] at this
      cases this
    obtain ⟨η', hη'⟩ : ∃ η' : zRn, η' = zηx 39 (cdI 2) AD η := ⟨_, rfl⟩
    have n1 : ∀ i, i < 39 → η'.1 (cdI 2 i) = AD i := fun i hi => by rw [hη']; exact zηx1 (cdI_j 2) hi
    have n2 : ∀ i, i < 39 → η'.2 (AD i) = cdI 2 i := fun i hi => by rw [hη']; exact zηx2 hj hi
    have n3 : ∀ q kk, Θ q = some kk → η'.1 q = η.1 q := fun q kk hq => by rw [hη']; exact zηx1n (hne q kk hq)
    have n4 : ∀ q ∈ L, η'.2 q = η.2 q := fun q hq => by rw [hη']; exact zηx2n (fun i hi h9 => hAL i hi (by rw [h9]; exact hq))
    have n5 : ∀ i, i < 15 → η'.1 (1000000 + i) = adK i := fun i hi => by
      rw [hη', zηx1n (fun j hj h9 => by have := cdI_b (k := 2) hj; omega)]
      exact hN.2.1 i hi
    clear hη'
    have hH2' : zH η' zkds D vwCl cy L Θ h H2 := zH_ren zkds_q hH2 hN.2.2.1 n3 n4
    have hW2 := zH_new (T := zTi2) (cd := cdI 2) (AD := AD) n1 n2 hH2' zTi2_ok zTi2_ox (cdI_j 2) (fun i hi => by have := cdI_b (k := 2) hi; omega) hno hAL hat
    have hnd2 : (L ++ (List.range zTi2.length).map AD).Nodup := z_ndnew hnd hj hAL
    have hN2 : zNm (zTh zTi2 (cdI 2) Θ) := zNm_app hN.1 zTi_ns.2.2.1 (cdI_j 2) (fun i hi => by have := cdI_b (k := 2) hi; omega)
    have hold : ∀ q kk, Θ q = some kk → zTh zTi2 (cdI 2) Θ q = some kk := fun q kk hq => by
      rw [zTh_ne (T := zTi2) (hne q kk hq)]
      exact hq
    have hout : ∀ q, (∀ i, i < 39 → cdI 2 i ≠ q) → zTh zTi2 (cdI 2) Θ q = Θ q ∧ zhh zkds zTi2 (cdI 2) h q = h q := fun q hq => ⟨zTh_ne (T := zTi2) hq, zhh_ne (T := zTi2) hq⟩
    have hin : ∀ i, i < 39 → (∃ kk, zTh zTi2 (cdI 2) Θ (cdI 2 i) = some kk) ∧ zhh zkds zTi2 (cdI 2) h (cdI 2 i) = zct zkds zTi2 (cdI 2) i := fun i hi => ⟨⟨_, zTh_at (T := zTi2) (cdI_j 2) hi⟩, zhh_at (T := zTi2) (cdI_j 2) hi⟩
    have hn0 : zTh zTi2 (cdI 2) Θ (cdI 2 0) = some 31 := zTh_at (T := zTi2) (i := 0) (cdI_j 2) (by decide)
    have hη0 : η'.1 (cdI 2 0) = q3 := (n1 0 (by decide)).trans hA0
    generalize zTh zTi2 (cdI 2) Θ = Θ2 at hW2 hN2 hold hn0 hout hin
    generalize zhh zkds zTi2 (cdI 2) h = h2 at hW2 hout hin
    obtain ⟨L2, hL2⟩ : ∃ L2, L2 = L ++ (List.range zTi2.length).map AD := ⟨_, rfl⟩
    rw [← hL2] at hW2 hnd2
    have hL2c : ∀ q ∈ L2, q ∈ L ∨ ∃ i, i < 39 ∧ AD i = q := fun q hq => by
      rw [hL2] at hq
      rcases List.mem_append.mp hq with h9 | h9
      · exact Or.inl h9
      · obtain ⟨i, hi, rfl⟩ := List.mem_map.mp h9
        exact Or.inr ⟨i, List.mem_range.mp hi, rfl⟩
    have hLL2 : ∀ q ∈ L, q ∈ L2 := fun q hq => by rw [hL2]; exact List.mem_append_left _ hq
    have hL2A : ∀ q ∈ L2, q ∈ L ∨ s.heap.size ≤ q := fun q hq => by
      rcases hL2c q hq with h9 | ⟨i, hi, rfl⟩
      · exact Or.inl h9
      · exact Or.inr (hAb i hi)
    have hA2 : ∀ q ∈ L2, A q := fun q hq => by rw [hAe]; exact hL2A q hq
    have h2i := hold 2 62 k2
    have h21 := hold 1 63 ha
    obtain ⟨p0, hp0⟩ := zH_get hW2 h2i zkd_62 (by decide)
    obtain ⟨pk, hpk⟩ := zH_get hW2 hn0 zkd_31 (by decide)
    have hD2 : va_D A ([] ++ va_pl L2 (zF η' zkds cy Θ2 h2)) := z_D hnd2 hA2
    have hp0' := hp0
    rw [zE_q rfl] at hp0
    rw [zE_o rfl, hη0] at hpk
    obtain ⟨v1, v2⟩ := z_vin (i := x) (n := 3) (by omega) (by omega)
    have ek : x.toNatClampNeg = 2 := by rw [v2]; omega
    rw [← n3 2 62 k2]
    refine va_astq hx hb hKa hW2.1 hD2 hS2 p0 6 pk 9 hp0 rfl hpk rfl v1 dX11_image_32 (fun H3 locs3 hP3 hD3 hS3 => ?_)
    rw [ek, ← hη0, ← zup_q] at hP3
    have hW3 : zH η' zkds D vwCl cy L2 Θ2 (zup h2 2 2 ((cdI 2 0 : Nat) : Int)) H3 := zH_put hW2 hD2 h2i zkd_62 (by decide) (by decide) (by
      refine ⟨Or.inr ⟨Int.natCast_nonneg _, by rw [Int.toNat_natCast]; exact hn0⟩, ?_, ?_⟩
      · show (-1 : Int) ≤ _
        omega
      · show _ ≤ (2147483647 : Int)
        have := cdI_b (k := 2) (i := 0) (by decide)
        omega) hp0' (by rw [zE_q rfl]; exact hP3)
    have fr3 : ∀ a j, ¬ (1000 * (2 + 1) ≤ a ∧ a < 1000 * (2 + 2)) → ¬ (a = 2 ∧ j = 2) → (zup h2 2 2 ((cdI 2 0 : Nat) : Int)) a j = h a j := fun a j w1 w2 => by
      rw [zup_ne w2, (hout a (fun i hi h9 => by have := cdI_b (k := 2) hi; omega)).2]
    have g3i : (zup h2 2 2 ((cdI 2 0 : Nat) : Int)) 2 2 = ((1000 * (2 + 1) + 3 : Nat) : Int) := zup_at _ _ _ _
    have g3p : cPb (1000 * (2 + 1)) (zup h2 2 2 ((cdI 2 0 : Nat) : Int)) := fun p hp => by
      obtain ⟨i, c1, c2⟩ := zTi2_p p hp
      have c3 := (hin i.1 i.2).2
      unfold cdI at c3
      rw [c1] at c3
      rw [zup_ne (by omega), c3]
      exact c2
    generalize zup h2 2 2 ((cdI 2 0 : Nat) : Int) = h3 at hW3 fr3 g3i g3p
    have hP3' : cP h3 := hP.fr (fun a j w => fr3 a j (by
      obtain ⟨p, hp, e⟩ := List.any_eq_true.mp w
      have e1 : p.1 = a ∧ p.2.1 = j := by simpa using e
      have := cPL_b p hp
      omega) (by
      obtain ⟨p, hp, e⟩ := List.any_eq_true.mp w
      have e1 : p.1 = a ∧ p.2.1 = j := by simpa using e
      have : ∀ p ∈ cPL, p.1 ≠ 2 := by decide +kernel
      have := this p hp
      omega))
    have hN3 : nmC η' adK L2 Θ2 h3 := by
      refine ⟨hN2, n5, fun q hq => ?_, h21, fun i hi w a a1 a2 => ?_⟩
      · rcases hL2c q hq with h9 | ⟨i, hi, rfl⟩
        · obtain ⟨kk, ekk⟩ := hN.2.2.1 q h9
          exact ⟨kk, by rw [n4 q h9]; exact hold _ _ ekk⟩
        · rw [n2 i hi]
          exact (hin i hi).1
      · by_cases hik : i = 2
        · rw [hik, g3i] at w
          omega
        · rw [(hout a (fun j hj h9 => by have := cdI_b (k := 2) hj; omega)).1]
          exact hN.2.2.2.2 i hi (by rw [← fr3 2 i (by omega) (by omega)]; exact w) a a1 a2
    rw [← n3 1 63 ha] at hl
    refine img_tl2 l S hKW hZ hW3 hnd2 (fun q hq => (hL2A q hq).elim (fun h9 => hLb q h9) (fun h9 => by omega)) hN3 hP3' g3i g3p hA2 hS3 (fun q h8 h9 => hS3.2.1 q h8 (fun h7 => by
      rw [hAe] at h7
      rcases h7 with h7 | h7
      · exact h9 (hLL2 q h7)
      · omega)) ⟨hRc.1, hRc.2⟩ (by omega) (by omega) hl hxk (fun h' H4 locs4 hW4 hT4 hS4 => ?_)
    exact K H4 locs4 ⟨η', L2, Θ2, h3, h', hW4, hnd2, hL2A, hN3.keep (fun k => hT4.2.2.2.2.2.2.2.2.2 _ _ (by omega)), n3 1 63 ha, ⟨fr3, g3i, g3p, (cBb_of hW3 g3p (show Θ2 (1000 * (2 + 1) + 3) = some 31 from hn0) (by decide)).1.2⟩, hT4⟩ hS4
  · have ei : va_rf (zrf η (h 2 2)) = .ref (η.1 (1000 * (2 + 1) + 3)) := by
      rw [him]
      exact z_dr 0 _
    rw [ei]
    refine lv_ifnonnull (tgt := 33) hx hb dX11_image_17 (by decide) ?_
    refine W.widen (k := 39) (n := 1090) (by decide +kernel) (by decide +kernel) ?_
    refine img_tl2 l S hKW hZ hH hnd hLb hN hP him hPk hLA hS (fun q _ _ => rfl) ⟨hRc.1, hRc.2⟩ (by omega) (by omega) hl hxk (fun h' H4 locs4 hW4 hT4 hS4 => ?_)
    exact K H4 locs4 ⟨η, L, Θ, h, h', hW4, hnd, fun q hq => Or.inl hq, hN.keep (fun k => hT4.2.2.2.2.2.2.2.2.2 _ _ (by omega)), rfl, ⟨fun a j _ _ => rfl, him, hPk, (cBb_of hH hPk (cK_im (F := False) (g := h) hH ha hP (show 2 < 3 by decide) him) (by decide)).1.2⟩, hT4⟩ hS4
/-- what image() leaves -/
def imgB (η : zRn) (adK : Nat → Nat) (D : va_G) (cy : Nat → ClassId) (L : List Nat) (Θ : Nat → Option Nat) (h : yH) (x : Int) (sz : Nat) (v : Int32) (H : Heap) : Prop := (¬ (0 ≤ x ∧ x < 3) ∧ v = 0 ∧ zH η zkds D vwCl cy L Θ h H) ∨ ∃ k : Nat, k < 3 ∧ x = (k : Int) ∧ v = 1 ∧ imgO k η adK D cy L h sz H
set_option maxHeartbeats 4000000 in
set_option maxRecDepth 100000 in
theorem c_img (l : Launch) {D : va_G} {cy : Nat → ClassId} {L : List Nat} {Θ : Nat → Option Nat} {h : Nat → Nat → Int} {base : Nat} {tb adK adV : Nat → Nat} {fv : Option Nat} {sz : Nat} {x : Int32} (hnd : L.Nodup) (hLb : ∀ q ∈ L, base ≤ q) (hbs : base ≤ sz) (hN : nmC η adK L Θ h) (hP : cP h) (hI : ∀ k, k < 3 → h 2 k = -1 ∨ (h 2 k = ((1000 * (k + 1) + 3 : Nat) : Int) ∧ cPb (1000 * (k + 1)) h)) :
    Met l yX11_image (Cond.code yX11_image cX11_image 2 (some .boolean) :: zTW) ({ frames := 4, cells := 39, slots := 1090, locals := 100 } : Room) (va_Pc [.ref (η.1 1), .int x] (fun U => U.heap.size = sz ∧ zH η zkds D vwCl cy L Θ h U.heap ∧ KW D cy U ∧ zS0 base tb adK adV fv U)) (va_Qi (fun v (u : Int32) => v = u) (fun u t => imgB η adK D cy L Θ h x.toInt sz u t.heap) (fun q => q ∈ L ∨ sz ≤ q)) 39 1090 (fun q => q ∈ L ∨ sz ≤ q) := by
  refine Met.ofW (cc := cX11_image) (maxL := 2) (ret := (some .boolean)) (by decide) rfl ?_
  intro p e s m args below meth c s₁ B hml hv
  obtain ⟨rfl, hsz, hH, hKW, hZ⟩ := hv
  have hx := B.exec
  have hb := B.bytes
  have hr := B.returns
  have hts := atoms_spec (ws := Cond.code yX11_image cX11_image 2 (some .boolean) :: zTW) B.pre
  have hown : s.vm.findClass RX11 = some m.cls := findClass_of_methodNamed B.named
  have hlocks := B.notSynchronized
  subst hsz
  have hl := lv_entry ([.ref (η.1 1), .int x]) (n := 2) (Nat.le_of_ble_eq_true rfl)
  rw [lg_entry_eq]
  generalize (lg_sl ([.ref (η.1 1), .int x]) ++ List.replicate (2 - (lg_sl ([.ref (η.1 1), .int x])).length) Slot.unset).toArray = ls at hl ⊢
  have hl : lv_has ls 2 [(0, .ref (η.1 1)), (1, .int x)] := hl
  have hS0 : va_S (fun q => q ∈ L ∨ s.heap.size ≤ q) s.heap s.heap [] := va_S.rf
  have z0 : (0 : Int32).toInt = 0 := rfl
  have z3 : (3 : Int32).toInt = 3 := rfl
  refine lv_iload_n hx hb dX11_image_0 rfl (lv_at hl 1 rfl) ?_
  refine lv_if_lt (tgt := 9) hx hb dX11_image_1 (by decide) (fun c_1 => ?_) (fun c_1 => ?_)
  · have h1 := Int32.lt_iff_toInt_lt.mp c_1
    rw [z0] at h1
    refine lv_iconst (v := 0) hx hb dX11_image_9 (by decide +kernel) ?_
    refine W.widen (k := 39) (n := 1090) (by decide +kernel) (by decide +kernel) ?_
    exact W.zret (v := 0) hx hb hr (rfl) (fun t ht hW => ⟨⟨0, 0, rfl, rfl, by show imgB η adK D cy L Θ h x.toInt s.heap.size 0 t.heap; rw [ht]; exact Or.inl ⟨by omega, rfl, hH⟩⟩, hS0.F ht⟩) hS0.2.2 dX11_image_10
  · have h1 : ¬ x.toInt < 0 := fun h9 => c_1 (Int32.lt_iff_toInt_lt.mpr (by rw [z0]; exact h9))
    refine lv_iload_n hx hb dX11_image_4 rfl (lv_at hl 1 rfl) ?_
    refine lv_iconst (v := 3) hx hb dX11_image_5 (by decide +kernel) ?_
    refine lv_icmp_lt (tgt := 11) hx hb dX11_image_6 (by decide) (fun c_2 => ?_) (fun c_2 => ?_)
    · have h2 := Int32.lt_iff_toInt_lt.mp c_2
      rw [z3] at h2
      have S : CallFix p m c cX11_image 2 s _ (Cond.code yX11_image cX11_image 2 (some .boolean) :: zTW) RX11 := ⟨hx, hb, hml, hown, hts⟩
      rcases (show x.toInt = ((0 : Nat) : Int) ∨ x.toInt = ((1 : Nat) : Int) ∨ x.toInt = ((2 : Nat) : Int) by omega) with hk | hk | hk
      · refine img_bd0 l S hKW hZ hH hnd hLb hbs hN hP (hI 0 (by decide)) rfl ⟨by decide, by decide⟩ (by decide) (by decide) hl hk (fun H1 locs1 hB hS1 => ?_)
        refine lv_iconst (v := 1) hx hb dX11_image_46 (by decide +kernel) ?_
        exact W.zret (v := 1) hx hb hr (rfl) (fun t ht hW => ⟨⟨1, 1, rfl, rfl, by show imgB η adK D cy L Θ h x.toInt s.heap.size 1 t.heap; rw [ht]; exact Or.inr ⟨0, by decide, hk, rfl, hB⟩⟩, hS1.F ht⟩) hS1.2.2 dX11_image_47
      · refine img_bd1 l S hKW hZ hH hnd hLb hbs hN hP (hI 1 (by decide)) rfl ⟨by decide, by decide⟩ (by decide) (by decide) hl hk (fun H1 locs1 hB hS1 => ?_)
        refine lv_iconst (v := 1) hx hb dX11_image_46 (by decide +kernel) ?_
        exact W.zret (v := 1) hx hb hr (rfl) (fun t ht hW => ⟨⟨1, 1, rfl, rfl, by show imgB η adK D cy L Θ h x.toInt s.heap.size 1 t.heap; rw [ht]; exact Or.inr ⟨1, by decide, hk, rfl, hB⟩⟩, hS1.F ht⟩) hS1.2.2 dX11_image_47
      · refine img_bd2 l S hKW hZ hH hnd hLb hbs hN hP (hI 2 (by decide)) rfl ⟨by decide, by decide⟩ (by decide) (by decide) hl hk (fun H1 locs1 hB hS1 => ?_)
        refine lv_iconst (v := 1) hx hb dX11_image_46 (by decide +kernel) ?_
        exact W.zret (v := 1) hx hb hr (rfl) (fun t ht hW => ⟨⟨1, 1, rfl, rfl, by show imgB η adK D cy L Θ h x.toInt s.heap.size 1 t.heap; rw [ht]; exact Or.inr ⟨2, by decide, hk, rfl, hB⟩⟩, hS1.F ht⟩) hS1.2.2 dX11_image_47
    · have h2 : ¬ x.toInt < 3 := fun h9 => c_2 (Int32.lt_iff_toInt_lt.mpr (by rw [z3]; exact h9))
      refine lv_iconst (v := 0) hx hb dX11_image_9 (by decide +kernel) ?_
      refine W.widen (k := 39) (n := 1090) (by decide +kernel) (by decide +kernel) ?_
      exact W.zret (v := 0) hx hb hr (rfl) (fun t ht hW => ⟨⟨0, 0, rfl, rfl, by show imgB η adK D cy L Θ h x.toInt s.heap.size 0 t.heap; rw [ht]; exact Or.inl ⟨by omega, rfl, hH⟩⟩, hS0.F ht⟩) hS0.2.2 dX11_image_10
end
section
variable {η : zRn}
theorem dX11_again_0 : decode cX11_again 0 = .ok (.iload_n 1, 1) := by decide +kernel
theorem dX11_again_1 : decode cX11_again 1 = .ok (.ifCond .lt 17, 3) := by decide +kernel
theorem dX11_again_4 : decode cX11_again 4 = .ok (.iload_n 1, 1) := by decide +kernel
theorem dX11_again_5 : decode cX11_again 5 = .ok (.iconst 3, 1) := by decide +kernel
theorem dX11_again_6 : decode cX11_again 6 = .ok (.if_icmp .ge 12, 3) := by decide +kernel
theorem dX11_again_9 : decode cX11_again 9 = .ok (.aload_n 0, 1) := by decide +kernel
theorem dX11_again_10 : decode cX11_again 10 = .ok (.getfield 16, 3) := by decide +kernel
theorem dX11_again_13 : decode cX11_again 13 = .ok (.iload_n 1, 1) := by decide +kernel
theorem dX11_again_14 : decode cX11_again 14 = .ok (.aaload, 1) := by decide +kernel
theorem dX11_again_15 : decode cX11_again 15 = .ok (.ifnonnull 5, 3) := by decide +kernel
theorem dX11_again_18 : decode cX11_again 18 = .ok (.iconst 0, 1) := by decide +kernel
theorem dX11_again_19 : decode cX11_again 19 = .ok (.ireturn, 1) := by decide +kernel
theorem dX11_again_20 : decode cX11_again 20 = .ok (.aload_n 0, 1) := by decide +kernel
theorem dX11_again_21 : decode cX11_again 21 = .ok (.getfield 10, 3) := by decide +kernel
theorem dX11_again_24 : decode cX11_again 24 = .ok (.aload_n 0, 1) := by decide +kernel
theorem dX11_again_25 : decode cX11_again 25 = .ok (.getfield 16, 3) := by decide +kernel
theorem dX11_again_28 : decode cX11_again 28 = .ok (.iload_n 1, 1) := by decide +kernel
theorem dX11_again_29 : decode cX11_again 29 = .ok (.aaload, 1) := by decide +kernel
theorem dX11_again_30 : decode cX11_again 30 = .ok (.invokevirtual 382, 3) := by decide +kernel
theorem dX11_again_33 : decode cX11_again 33 = .ok (.iconst 1, 1) := by decide +kernel
theorem dX11_again_34 : decode cX11_again 34 = .ok (.ireturn, 1) := by decide +kernel
/-- what again() leaves -/
def agB (η : zRn) (D : va_G) (cy : Nat → ClassId) (L : List Nat) (Θ : Nat → Option Nat) (h : yH) (x : Int) (v : Int32) (H : Heap) : Prop := ((¬ (0 ≤ x ∧ x < 3) ∨ h 2 x.toNat = -1) ∧ v = 0 ∧ zH η zkds D vwCl cy L Θ h H) ∨ ∃ k : Nat, k < 3 ∧ x = (k : Int) ∧ v = 1 ∧ h 2 k ≠ -1 ∧ ∃ h2, zH η zkds D vwCl cy L Θ h2 H ∧ tcR 0 (1000 * (k + 1)) h h2
set_option maxHeartbeats 4000000 in
set_option maxRecDepth 10000 in
theorem ag_bd0 (l : Launch) {D : va_G} {cy : Nat → ClassId} {L : List Nat} {Θ : Nat → Option Nat} {h : Nat → Nat → Int} {p : Program} {e : Env} {R : Room} {s : State} {m : MethodId} {args : Array Value} {below : List Frame} {meth : Method} {c : Code} {Q : State → Prop} {w0 : Cond} {ls : Array Slot} {A : Nat → Prop} {base : Nat} {tb adK adV : Nat → Nat} {fv : Option Nat} {x : Int32} (S : CallFix p m c cX11_again 2 s args (w0 :: zTW) RX11) (hKW : KW D cy s) (hZ : zS0 base tb adK adV fv s)
    (hH : zH η zkds D vwCl cy L Θ h s.heap) (hnd : L.Nodup) (hLb : ∀ q ∈ L, base ≤ q) (hN : nmC η adK L Θ h) (hP : cP h) (him : h 2 0 = ((1000 * (0 + 1) + 3 : Nat) : Int)) (hPk : cPb (1000 * (0 + 1)) h) (hAe : A = fun q => q ∈ L) (hfr : 3 ≤ R.frames) (hlo : 69 ≤ R.locals) (hl : lv_has ls 2 [(0, .ref (η.1 1)), (1, .int x)]) (hxk : x.toInt = ((0 : Nat) : Int))
    (K : ∀ (h' : Nat → Nat → Int) (H1 : Heap) (locs1 : List Loc), zH η zkds D vwCl cy L Θ h' H1 → tcR 0 (1000 * (0 + 1)) h h' → va_S A s.heap H1 locs1 → W p l e R s m args below meth c H1 locs1 0 0 Q (F0 m 33 ls [])) : W p l e R s m args below meth c s.heap [] 0 0 Q (F0 m 20 ls []) := by
  obtain ⟨hx, hb, hml, hown, hts⟩ := id S
  have hKa : va_K D vwCl (tyW cy) s := hKW.1
  have hLA : ∀ q ∈ L, A q := fun q hq => by rw [hAe]; exact hq
  have hS : va_S A s.heap s.heap [] := va_S.rf
  have ha := hN.2.2.2.1
  obtain ⟨k2, k3, -⟩ := cK_0 hH ha hP
  have kI := cK_im (F := False) (g := h) hH ha hP (show 0 < 3 by decide) him
  have e11 : h 1 1 = ((2 : Nat) : Int) := hP.p (by decide)
  have e10 : h 1 0 = ((3 : Nat) : Int) := hP.p (by decide)
  refine lv_aload_n hx hb dX11_again_20 rfl (lv_at hl 0 rfl) ?_
  refine hg_get hx hb hts hown hKa (zFok_mono (fun w hw => List.mem_cons_of_mem _ hw) zf_RX11_10) ha zkd_63 ⟨rfl, rfl⟩ (by decide) hH dX11_again_21 ?_
  rw [show (zty (0, 11, 7, [(30, 0, 2147483647), (64, 0, 2147483647), (36, 0, 2147483647), (48, 0, 2147483647), (49, 0, 2147483647), (53, 0, 2147483647), (60, 0, 2147483647)]) 0).1 = 28 + 2 from rfl, e10, z_dr]
  refine lv_aload_n hx hb dX11_again_24 rfl (lv_at hl 0 rfl) ?_
  refine hg_get hx hb hts hown hKa (zFok_mono (fun w hw => List.mem_cons_of_mem _ hw) zf_RX11_16) ha zkd_63 ⟨rfl, rfl⟩ (by decide) hH dX11_again_25 ?_
  rw [show (zty (0, 11, 7, [(30, 0, 2147483647), (64, 0, 2147483647), (36, 0, 2147483647), (48, 0, 2147483647), (49, 0, 2147483647), (53, 0, 2147483647), (60, 0, 2147483647)]) 1).1 = 62 + 2 from rfl, e11, z_dr]
  refine lv_iload_n hx hb dX11_again_28 rfl (lv_at hl 1 rfl) ?_
  refine hg_img hx hb hKa k2 hH hxk (by decide) dX11_again_29 ?_
  have ei : va_rf (zrf η (h 2 0)) = .ref (η.1 (1000 * (0 + 1) + 3)) := by
    rw [him]
    exact z_dr 0 _
  rw [ei]
  have hKP : zKP η D cy L Θ s := ⟨hKW, zST_of hN.2.1 hZ hLb hN.1⟩
  obtain ⟨v, h2, e1, r⟩ := tcp_a0 (n := 3) (h := h) (by decide) hP.b hPk (cBb_of hH hPk kI (by decide))
  have o1 : yok Θ (100031, ((1000 * (0 + 1) + 3 : Nat) : Int)) := by
    unfold yok
    rw [if_neg (by decide)]
    exact ⟨by simp only; omega, by simp only [Int.toNat_natCast]; exact kI⟩
  have o2 : yok Θ (100030, ((3 : Nat) : Int)) := by
    unfold yok
    rw [if_neg (by decide)]
    exact ⟨by simp only; omega, by simp only [Int.toNat_natCast]; exact k3⟩
  have v1 := (y_ref (η := η) (k := 29) o1 rfl).2.2
  have v2 := (y_ref (η := η) (k := 28) o2 rfl).2.2
  simp only [Int.toNat_natCast] at v1 v2
  refine lw_callY (kds := zkds) (vs := [(100030, ((3 : Nat) : Int)), (100031, ((1000 * (0 + 1) + 3 : Nat) : Int))]) (Qr := fun _ h' => tcR 0 (1000 * (0 + 1)) h h') (rest := []) zkp_ok zTW_good rfl (m_X9_copyFrom_a0 l) hnd S hKP (ycv_of yw_X9_copyFrom 382 dX11_again_30 zl_img rfl (by omega) (show 8 + (3 + 11) + 47 ≤ R.locals by omega) (zk_ex (kk := 28) (ts := [100031]) _ _ rfl (zkK ⟨28, by decide⟩) rfl rfl rfl)) ⟨Nat.zero_le _, Nat.zero_le _⟩ rfl (fun a ha => ?_) ⟨3, v, h2, e1, r⟩ hH hLA hS (fun q _ _ => rfl) hl.1 (by decide) ?_ (fun a h' H1 locs1 hQ oa oH oz oq oS => ?_)
  · rcases List.mem_cons.mp ha with rfl | ha
    · exact o2
    · rcases List.mem_cons.mp ha with rfl | ha
      · exact o1
      · cases ha
  · simp only [List.map_cons, List.map_nil, v1, v2]
    rfl
  · exact K h' H1 locs1 oH hQ oS
set_option maxHeartbeats 4000000 in
set_option maxRecDepth 10000 in
theorem ag_bd1 (l : Launch) {D : va_G} {cy : Nat → ClassId} {L : List Nat} {Θ : Nat → Option Nat} {h : Nat → Nat → Int} {p : Program} {e : Env} {R : Room} {s : State} {m : MethodId} {args : Array Value} {below : List Frame} {meth : Method} {c : Code} {Q : State → Prop} {w0 : Cond} {ls : Array Slot} {A : Nat → Prop} {base : Nat} {tb adK adV : Nat → Nat} {fv : Option Nat} {x : Int32} (S : CallFix p m c cX11_again 2 s args (w0 :: zTW) RX11) (hKW : KW D cy s) (hZ : zS0 base tb adK adV fv s)
    (hH : zH η zkds D vwCl cy L Θ h s.heap) (hnd : L.Nodup) (hLb : ∀ q ∈ L, base ≤ q) (hN : nmC η adK L Θ h) (hP : cP h) (him : h 2 1 = ((1000 * (1 + 1) + 3 : Nat) : Int)) (hPk : cPb (1000 * (1 + 1)) h) (hAe : A = fun q => q ∈ L) (hfr : 3 ≤ R.frames) (hlo : 69 ≤ R.locals) (hl : lv_has ls 2 [(0, .ref (η.1 1)), (1, .int x)]) (hxk : x.toInt = ((1 : Nat) : Int))
    (K : ∀ (h' : Nat → Nat → Int) (H1 : Heap) (locs1 : List Loc), zH η zkds D vwCl cy L Θ h' H1 → tcR 0 (1000 * (1 + 1)) h h' → va_S A s.heap H1 locs1 → W p l e R s m args below meth c H1 locs1 0 0 Q (F0 m 33 ls [])) : W p l e R s m args below meth c s.heap [] 0 0 Q (F0 m 20 ls []) := by
  obtain ⟨hx, hb, hml, hown, hts⟩ := id S
  have hKa : va_K D vwCl (tyW cy) s := hKW.1
  have hLA : ∀ q ∈ L, A q := fun q hq => by rw [hAe]; exact hq
  have hS : va_S A s.heap s.heap [] := va_S.rf
  have ha := hN.2.2.2.1
  obtain ⟨k2, k3, -⟩ := cK_0 hH ha hP
  have kI := cK_im (F := False) (g := h) hH ha hP (show 1 < 3 by decide) him
  have e11 : h 1 1 = ((2 : Nat) : Int) := hP.p (by decide)
  have e10 : h 1 0 = ((3 : Nat) : Int) := hP.p (by decide)
  refine lv_aload_n hx hb dX11_again_20 rfl (lv_at hl 0 rfl) ?_
  refine hg_get hx hb hts hown hKa (zFok_mono (fun w hw => List.mem_cons_of_mem _ hw) zf_RX11_10) ha zkd_63 ⟨rfl, rfl⟩ (by decide) hH dX11_again_21 ?_
  rw [show (zty (0, 11, 7, [(30, 0, 2147483647), (64, 0, 2147483647), (36, 0, 2147483647), (48, 0, 2147483647), (49, 0, 2147483647), (53, 0, 2147483647), (60, 0, 2147483647)]) 0).1 = 28 + 2 from rfl, e10, z_dr]
  refine lv_aload_n hx hb dX11_again_24 rfl (lv_at hl 0 rfl) ?_
  refine hg_get hx hb hts hown hKa (zFok_mono (fun w hw => List.mem_cons_of_mem _ hw) zf_RX11_16) ha zkd_63 ⟨rfl, rfl⟩ (by decide) hH dX11_again_25 ?_
  rw [show (zty (0, 11, 7, [(30, 0, 2147483647), (64, 0, 2147483647), (36, 0, 2147483647), (48, 0, 2147483647), (49, 0, 2147483647), (53, 0, 2147483647), (60, 0, 2147483647)]) 1).1 = 62 + 2 from rfl, e11, z_dr]
  refine lv_iload_n hx hb dX11_again_28 rfl (lv_at hl 1 rfl) ?_
  refine hg_img hx hb hKa k2 hH hxk (by decide) dX11_again_29 ?_
  have ei : va_rf (zrf η (h 2 1)) = .ref (η.1 (1000 * (1 + 1) + 3)) := by
    rw [him]
    exact z_dr 0 _
  rw [ei]
  have hKP : zKP η D cy L Θ s := ⟨hKW, zST_of hN.2.1 hZ hLb hN.1⟩
  obtain ⟨v, h2, e1, r⟩ := tcp_a1 (n := 3) (h := h) (by decide) hP.b hPk (cBb_of hH hPk kI (by decide))
  have o1 : yok Θ (100032, ((1000 * (1 + 1) + 3 : Nat) : Int)) := by
    unfold yok
    rw [if_neg (by decide)]
    exact ⟨by simp only; omega, by simp only [Int.toNat_natCast]; exact kI⟩
  have o2 : yok Θ (100030, ((3 : Nat) : Int)) := by
    unfold yok
    rw [if_neg (by decide)]
    exact ⟨by simp only; omega, by simp only [Int.toNat_natCast]; exact k3⟩
  have v1 := (y_ref (η := η) (k := 30) o1 rfl).2.2
  have v2 := (y_ref (η := η) (k := 28) o2 rfl).2.2
  simp only [Int.toNat_natCast] at v1 v2
  refine lw_callY (kds := zkds) (vs := [(100030, ((3 : Nat) : Int)), (100032, ((1000 * (1 + 1) + 3 : Nat) : Int))]) (Qr := fun _ h' => tcR 0 (1000 * (1 + 1)) h h') (rest := []) zkp_ok zTW_good rfl (m_X9_copyFrom_a1 l) hnd S hKP (ycv_of yw_X9_copyFrom 382 dX11_again_30 zl_img rfl (by omega) (show 8 + (3 + 11) + 47 ≤ R.locals by omega) (zk_ex (kk := 28) (ts := [100032]) _ _ rfl (zkK ⟨28, by decide⟩) rfl rfl rfl)) ⟨Nat.zero_le _, Nat.zero_le _⟩ rfl (fun a ha => ?_) ⟨3, v, h2, e1, r⟩ hH hLA hS (fun q _ _ => rfl) hl.1 (by decide) ?_ (fun a h' H1 locs1 hQ oa oH oz oq oS => ?_)
  · rcases List.mem_cons.mp ha with rfl | ha
    · exact o2
    · rcases List.mem_cons.mp ha with rfl | ha
      · exact o1
      · cases ha
  · simp only [List.map_cons, List.map_nil, v1, v2]
    rfl
  · exact K h' H1 locs1 oH hQ oS
set_option maxHeartbeats 4000000 in
set_option maxRecDepth 10000 in
theorem ag_bd2 (l : Launch) {D : va_G} {cy : Nat → ClassId} {L : List Nat} {Θ : Nat → Option Nat} {h : Nat → Nat → Int} {p : Program} {e : Env} {R : Room} {s : State} {m : MethodId} {args : Array Value} {below : List Frame} {meth : Method} {c : Code} {Q : State → Prop} {w0 : Cond} {ls : Array Slot} {A : Nat → Prop} {base : Nat} {tb adK adV : Nat → Nat} {fv : Option Nat} {x : Int32} (S : CallFix p m c cX11_again 2 s args (w0 :: zTW) RX11) (hKW : KW D cy s) (hZ : zS0 base tb adK adV fv s)
    (hH : zH η zkds D vwCl cy L Θ h s.heap) (hnd : L.Nodup) (hLb : ∀ q ∈ L, base ≤ q) (hN : nmC η adK L Θ h) (hP : cP h) (him : h 2 2 = ((1000 * (2 + 1) + 3 : Nat) : Int)) (hPk : cPb (1000 * (2 + 1)) h) (hAe : A = fun q => q ∈ L) (hfr : 3 ≤ R.frames) (hlo : 69 ≤ R.locals) (hl : lv_has ls 2 [(0, .ref (η.1 1)), (1, .int x)]) (hxk : x.toInt = ((2 : Nat) : Int))
    (K : ∀ (h' : Nat → Nat → Int) (H1 : Heap) (locs1 : List Loc), zH η zkds D vwCl cy L Θ h' H1 → tcR 0 (1000 * (2 + 1)) h h' → va_S A s.heap H1 locs1 → W p l e R s m args below meth c H1 locs1 0 0 Q (F0 m 33 ls [])) : W p l e R s m args below meth c s.heap [] 0 0 Q (F0 m 20 ls []) := by
  obtain ⟨hx, hb, hml, hown, hts⟩ := id S
  have hKa : va_K D vwCl (tyW cy) s := hKW.1
  have hLA : ∀ q ∈ L, A q := fun q hq => by rw [hAe]; exact hq
  have hS : va_S A s.heap s.heap [] := va_S.rf
  have ha := hN.2.2.2.1
  obtain ⟨k2, k3, -⟩ := cK_0 hH ha hP
  have kI := cK_im (F := False) (g := h) hH ha hP (show 2 < 3 by decide) him
  have e11 : h 1 1 = ((2 : Nat) : Int) := hP.p (by decide)
  have e10 : h 1 0 = ((3 : Nat) : Int) := hP.p (by decide)
  refine lv_aload_n hx hb dX11_again_20 rfl (lv_at hl 0 rfl) ?_
  refine hg_get hx hb hts hown hKa (zFok_mono (fun w hw => List.mem_cons_of_mem _ hw) zf_RX11_10) ha zkd_63 ⟨rfl, rfl⟩ (by decide) hH dX11_again_21 ?_
  rw [show (zty (0, 11, 7, [(30, 0, 2147483647), (64, 0, 2147483647), (36, 0, 2147483647), (48, 0, 2147483647), (49, 0, 2147483647), (53, 0, 2147483647), (60, 0, 2147483647)]) 0).1 = 28 + 2 from rfl, e10, z_dr]
  refine lv_aload_n hx hb dX11_again_24 rfl (lv_at hl 0 rfl) ?_
  refine hg_get hx hb hts hown hKa (zFok_mono (fun w hw => List.mem_cons_of_mem _ hw) zf_RX11_16) ha zkd_63 ⟨rfl, rfl⟩ (by decide) hH dX11_again_25 ?_
  rw [show (zty (0, 11, 7, [(30, 0, 2147483647), (64, 0, 2147483647), (36, 0, 2147483647), (48, 0, 2147483647), (49, 0, 2147483647), (53, 0, 2147483647), (60, 0, 2147483647)]) 1).1 = 62 + 2 from rfl, e11, z_dr]
  refine lv_iload_n hx hb dX11_again_28 rfl (lv_at hl 1 rfl) ?_
  refine hg_img hx hb hKa k2 hH hxk (by decide) dX11_again_29 ?_
  have ei : va_rf (zrf η (h 2 2)) = .ref (η.1 (1000 * (2 + 1) + 3)) := by
    rw [him]
    exact z_dr 0 _
  rw [ei]
  have hKP : zKP η D cy L Θ s := ⟨hKW, zST_of hN.2.1 hZ hLb hN.1⟩
  obtain ⟨v, h2, e1, r⟩ := tcp_a2 (n := 3) (h := h) (by decide) hP.b hPk (cBb_of hH hPk kI (by decide))
  have o1 : yok Θ (100033, ((1000 * (2 + 1) + 3 : Nat) : Int)) := by
    unfold yok
    rw [if_neg (by decide)]
    exact ⟨by simp only; omega, by simp only [Int.toNat_natCast]; exact kI⟩
  have o2 : yok Θ (100030, ((3 : Nat) : Int)) := by
    unfold yok
    rw [if_neg (by decide)]
    exact ⟨by simp only; omega, by simp only [Int.toNat_natCast]; exact k3⟩
  have v1 := (y_ref (η := η) (k := 31) o1 rfl).2.2
  have v2 := (y_ref (η := η) (k := 28) o2 rfl).2.2
  simp only [Int.toNat_natCast] at v1 v2
  refine lw_callY (kds := zkds) (vs := [(100030, ((3 : Nat) : Int)), (100033, ((1000 * (2 + 1) + 3 : Nat) : Int))]) (Qr := fun _ h' => tcR 0 (1000 * (2 + 1)) h h') (rest := []) zkp_ok zTW_good rfl (m_X9_copyFrom_a2 l) hnd S hKP (ycv_of yw_X9_copyFrom 382 dX11_again_30 zl_img rfl (by omega) (show 8 + (3 + 11) + 47 ≤ R.locals by omega) (zk_ex (kk := 28) (ts := [100033]) _ _ rfl (zkK ⟨28, by decide⟩) rfl rfl rfl)) ⟨Nat.zero_le _, Nat.zero_le _⟩ rfl (fun a ha => ?_) ⟨3, v, h2, e1, r⟩ hH hLA hS (fun q _ _ => rfl) hl.1 (by decide) ?_ (fun a h' H1 locs1 hQ oa oH oz oq oS => ?_)
  · rcases List.mem_cons.mp ha with rfl | ha
    · exact o2
    · rcases List.mem_cons.mp ha with rfl | ha
      · exact o1
      · cases ha
  · simp only [List.map_cons, List.map_nil, v1, v2]
    rfl
  · exact K h' H1 locs1 oH hQ oS
set_option maxHeartbeats 4000000 in
set_option maxRecDepth 100000 in
theorem c_again (l : Launch) {D : va_G} {cy : Nat → ClassId} {L : List Nat} {Θ : Nat → Option Nat} {h : Nat → Nat → Int} {base : Nat} {tb adK adV : Nat → Nat} {fv : Option Nat} {x : Int32} (hnd : L.Nodup) (hLb : ∀ q ∈ L, base ≤ q) (hN : nmC η adK L Θ h) (hP : cP h) (hI : ∀ k, k < 3 → h 2 k = -1 ∨ (h 2 k = ((1000 * (k + 1) + 3 : Nat) : Int) ∧ cPb (1000 * (k + 1)) h)) :
    Met l yX11_again (Cond.code yX11_again cX11_again 2 (some .boolean) :: zTW) ({ frames := 3, cells := 0, slots := 0, locals := 69 } : Room) (va_Pc [.ref (η.1 1), .int x] (fun U => zH η zkds D vwCl cy L Θ h U.heap ∧ KW D cy U ∧ zS0 base tb adK adV fv U)) (va_Qi (fun v (u : Int32) => v = u) (fun u t => agB η D cy L Θ h x.toInt u t.heap) (fun q => q ∈ L)) 0 0 (fun q => q ∈ L) := by
  refine Met.ofW (cc := cX11_again) (maxL := 2) (ret := (some .boolean)) (by decide) rfl ?_
  intro p e s m args below meth c s₁ B hml hv
  obtain ⟨rfl, hH, hKW, hZ⟩ := hv
  have hx := B.exec
  have hb := B.bytes
  have hr := B.returns
  have hts := atoms_spec (ws := Cond.code yX11_again cX11_again 2 (some .boolean) :: zTW) B.pre
  have hown : s.vm.findClass RX11 = some m.cls := findClass_of_methodNamed B.named
  have hlocks := B.notSynchronized
  have hKa : va_K D vwCl (tyW cy) s := hKW.1
  have hl := lv_entry ([.ref (η.1 1), .int x]) (n := 2) (Nat.le_of_ble_eq_true rfl)
  rw [lg_entry_eq]
  generalize (lg_sl ([.ref (η.1 1), .int x]) ++ List.replicate (2 - (lg_sl ([.ref (η.1 1), .int x])).length) Slot.unset).toArray = ls at hl ⊢
  have hl : lv_has ls 2 [(0, .ref (η.1 1)), (1, .int x)] := hl
  have hS0 : va_S (fun q => q ∈ L) s.heap s.heap [] := va_S.rf
  have ha := hN.2.2.2.1
  obtain ⟨k2, k3, -⟩ := cK_0 hH ha hP
  have e11 : h 1 1 = ((2 : Nat) : Int) := hP.p (by decide)
  have z0 : (0 : Int32).toInt = 0 := rfl
  have z3 : (3 : Int32).toInt = 3 := rfl
  have S : CallFix p m c cX11_again 2 s _ (Cond.code yX11_again cX11_again 2 (some .boolean) :: zTW) RX11 := ⟨hx, hb, hml, hown, hts⟩
  refine lv_iload_n hx hb dX11_again_0 rfl (lv_at hl 1 rfl) ?_
  refine lv_if_lt (tgt := 18) hx hb dX11_again_1 (by decide) (fun c_1 => ?_) (fun c_1 => ?_)
  · have h1 := Int32.lt_iff_toInt_lt.mp c_1
    rw [z0] at h1
    refine lv_iconst (v := 0) hx hb dX11_again_18 (by decide +kernel) ?_
    exact W.zret (v := 0) hx hb hr (rfl) (fun t ht hW => ⟨⟨0, 0, rfl, rfl, by show agB η D cy L Θ h x.toInt 0 t.heap; rw [ht]; exact Or.inl ⟨Or.inl (by omega), rfl, hH⟩⟩, hS0.F ht⟩) hS0.2.2 dX11_again_19
  · have h1 : ¬ x.toInt < 0 := fun h9 => c_1 (Int32.lt_iff_toInt_lt.mpr (by rw [z0]; exact h9))
    refine lv_iload_n hx hb dX11_again_4 rfl (lv_at hl 1 rfl) ?_
    refine lv_iconst (v := 3) hx hb dX11_again_5 (by decide +kernel) ?_
    refine lv_icmp_ge (tgt := 18) hx hb dX11_again_6 (by decide) (fun c_2 => ?_) (fun c_2 => ?_)
    · have h2 := Int32.le_iff_toInt_le.mp c_2
      rw [z3] at h2
      refine lv_iconst (v := 0) hx hb dX11_again_18 (by decide +kernel) ?_
      exact W.zret (v := 0) hx hb hr (rfl) (fun t ht hW => ⟨⟨0, 0, rfl, rfl, by show agB η D cy L Θ h x.toInt 0 t.heap; rw [ht]; exact Or.inl ⟨Or.inl (by omega), rfl, hH⟩⟩, hS0.F ht⟩) hS0.2.2 dX11_again_19
    · have h2 : ¬ 3 ≤ x.toInt := fun h9 => c_2 (Int32.le_iff_toInt_le.mpr (by rw [z3]; exact h9))
      refine lv_aload_n hx hb dX11_again_9 rfl (lv_at hl 0 rfl) ?_
      refine hg_get hx hb hts hown hKa (zFok_mono (fun w hw => List.mem_cons_of_mem _ hw) zf_RX11_16) ha zkd_63 ⟨rfl, rfl⟩ (by decide) hH dX11_again_10 ?_
      rw [show (zty (0, 11, 7, [(30, 0, 2147483647), (64, 0, 2147483647), (36, 0, 2147483647), (48, 0, 2147483647), (49, 0, 2147483647), (53, 0, 2147483647), (60, 0, 2147483647)]) 1).1 = 62 + 2 from rfl, e11, z_dr]
      refine lv_iload_n hx hb dX11_again_13 rfl (lv_at hl 1 rfl) ?_
      rcases (show x.toInt = ((0 : Nat) : Int) ∨ x.toInt = ((1 : Nat) : Int) ∨ x.toInt = ((2 : Nat) : Int) by omega) with hk | hk | hk
      · refine hg_img hx hb hKa k2 hH hk (by decide) dX11_again_14 ?_
        rcases hI 0 (by decide) with him | ⟨him, hPk⟩
        · rw [him, show va_rf (zrf η (-1)) = .null from z_dm1 (η := η) 0]
          refine lv_ifnonnullN hx hb dX11_again_15 ?_
          refine lv_iconst (v := 0) hx hb dX11_again_18 (by decide +kernel) ?_
          exact W.zret (v := 0) hx hb hr (rfl) (fun t ht hW => ⟨⟨0, 0, rfl, rfl, by show agB η D cy L Θ h x.toInt 0 t.heap; rw [ht]; exact Or.inl ⟨Or.inr (by rw [hk, Int.toNat_natCast]; exact him), rfl, hH⟩⟩, hS0.F ht⟩) hS0.2.2 dX11_again_19
        · rw [him, show va_rf (zrf η ((1000 * (0 + 1) + 3 : Nat) : Int)) = .ref (η.1 (1000 * (0 + 1) + 3)) from z_dr 0 _]
          refine lv_ifnonnull (tgt := 20) hx hb dX11_again_15 (by decide) ?_
          refine ag_bd0 l S hKW hZ hH hnd hLb hN hP him hPk rfl (by decide) (by decide) hl hk (fun h' H1 locs1 hH1 hT1 hS1 => ?_)
          refine lv_iconst (v := 1) hx hb dX11_again_33 (by decide +kernel) ?_
          exact W.zret (v := 1) hx hb hr (rfl) (fun t ht hW => ⟨⟨1, 1, rfl, rfl, by show agB η D cy L Θ h x.toInt 1 t.heap; rw [ht]; exact Or.inr ⟨0, by decide, hk, rfl, by rw [him]; omega, h', hH1, hT1⟩⟩, hS1.F ht⟩) hS1.2.2 dX11_again_34
      · refine hg_img hx hb hKa k2 hH hk (by decide) dX11_again_14 ?_
        rcases hI 1 (by decide) with him | ⟨him, hPk⟩
        · rw [him, show va_rf (zrf η (-1)) = .null from z_dm1 (η := η) 0]
          refine lv_ifnonnullN hx hb dX11_again_15 ?_
          refine lv_iconst (v := 0) hx hb dX11_again_18 (by decide +kernel) ?_
          exact W.zret (v := 0) hx hb hr (rfl) (fun t ht hW => ⟨⟨0, 0, rfl, rfl, by show agB η D cy L Θ h x.toInt 0 t.heap; rw [ht]; exact Or.inl ⟨Or.inr (by rw [hk, Int.toNat_natCast]; exact him), rfl, hH⟩⟩, hS0.F ht⟩) hS0.2.2 dX11_again_19
        · rw [him, show va_rf (zrf η ((1000 * (1 + 1) + 3 : Nat) : Int)) = .ref (η.1 (1000 * (1 + 1) + 3)) from z_dr 0 _]
          refine lv_ifnonnull (tgt := 20) hx hb dX11_again_15 (by decide) ?_
          refine ag_bd1 l S hKW hZ hH hnd hLb hN hP him hPk rfl (by decide) (by decide) hl hk (fun h' H1 locs1 hH1 hT1 hS1 => ?_)
          refine lv_iconst (v := 1) hx hb dX11_again_33 (by decide +kernel) ?_
          exact W.zret (v := 1) hx hb hr (rfl) (fun t ht hW => ⟨⟨1, 1, rfl, rfl, by show agB η D cy L Θ h x.toInt 1 t.heap; rw [ht]; exact Or.inr ⟨1, by decide, hk, rfl, by rw [him]; omega, h', hH1, hT1⟩⟩, hS1.F ht⟩) hS1.2.2 dX11_again_34
      · refine hg_img hx hb hKa k2 hH hk (by decide) dX11_again_14 ?_
        rcases hI 2 (by decide) with him | ⟨him, hPk⟩
        · rw [him, show va_rf (zrf η (-1)) = .null from z_dm1 (η := η) 0]
          refine lv_ifnonnullN hx hb dX11_again_15 ?_
          refine lv_iconst (v := 0) hx hb dX11_again_18 (by decide +kernel) ?_
          exact W.zret (v := 0) hx hb hr (rfl) (fun t ht hW => ⟨⟨0, 0, rfl, rfl, by show agB η D cy L Θ h x.toInt 0 t.heap; rw [ht]; exact Or.inl ⟨Or.inr (by rw [hk, Int.toNat_natCast]; exact him), rfl, hH⟩⟩, hS0.F ht⟩) hS0.2.2 dX11_again_19
        · rw [him, show va_rf (zrf η ((1000 * (2 + 1) + 3 : Nat) : Int)) = .ref (η.1 (1000 * (2 + 1) + 3)) from z_dr 0 _]
          refine lv_ifnonnull (tgt := 20) hx hb dX11_again_15 (by decide) ?_
          refine ag_bd2 l S hKW hZ hH hnd hLb hN hP him hPk rfl (by decide) (by decide) hl hk (fun h' H1 locs1 hH1 hT1 hS1 => ?_)
          refine lv_iconst (v := 1) hx hb dX11_again_33 (by decide +kernel) ?_
          exact W.zret (v := 1) hx hb hr (rfl) (fun t ht hW => ⟨⟨1, 1, rfl, rfl, by show agB η D cy L Θ h x.toInt 1 t.heap; rw [ht]; exact Or.inr ⟨2, by decide, hk, rfl, by rw [him]; omega, h', hH1, hT1⟩⟩, hS1.F ht⟩) hS1.2.2 dX11_again_34
end
