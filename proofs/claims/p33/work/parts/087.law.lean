variable {η : zRn}
def imgB (η : zRn) (D : va_G) (cy : Nat → ClassId) (L : List Nat) (h : Nat → Nat → Int) (a : Nat) (x : Int) (sz : Nat) (H : Heap) : Prop := ∃ (L' : List Nat) (Θ' : Nat → Option Nat) (h' : Nat → Nat → Int), zH η zkds D vwCl cy L' Θ' h' H ∧ L'.Nodup ∧ (∀ q ∈ L, q ∈ L') ∧ (∀ q ∈ L', q ∈ L ∨ sz ≤ q) ∧ zNm Θ' ∧ Θ' a = some 63 ∧ imgR x h h' a
theorem zup_q {h : Nat → Nat → Int} {im k cd : Nat} : (fun j => zrf η (zup h im k (cd : Int) im j)) = va_up (fun j => zrf η (h im j)) k (some (η.1 cd)) := by
  funext j
  unfold va_up
  by_cases hj : j = k
  · subst hj
    rw [zup_at]
    simp only [if_true]
    unfold zrf
    rw [if_neg (by omega), Int.toNat_natCast]
  · rw [zup_ne (fun q => hj q.2), if_neg hj]
theorem zl_t7 : Cond.classLink RX11 7 RX9 ∈ zTW ∧ Cond.instantiable RX9 7 ∈ zTW ∧ Cond.initialized RX9 ∈ zTW ∧ Cond.instanceMethod yX9_init ∈ zTW := ⟨zTin 130 (by decide +kernel) rfl, zTin 131 (by decide +kernel) rfl, zTin 102 (by decide +kernel) rfl, zTin 133 (by decide +kernel) rfl⟩
set_option maxHeartbeats 8000000 in
set_option maxRecDepth 100000 in
theorem img_bd0 (l : Launch) {D : va_G} {cy : Nat → ClassId} {L : List Nat} {Θ : Nat → Option Nat} {h : Nat → Nat → Int} {p : Program} {e : Env} {R : Room} {s : State} {m : MethodId} {args : Array Value} {below : List Frame} {meth : Method} {c : Code} {Q : State → Prop} {w0 : Cond} {ls : Array Slot} {A : Nat → Prop} {base : Nat} {tb adK adV : Nat → Nat} {fv : Option Nat} {a : Nat} {x : Int32} (hη : η = zη base adK) (S : CallFix p m c cX11_image 2 s args (w0 :: zTW) RX11) (hKW : KW D cy s) (hZ : zS0 base tb adK adV fv s)
    (hH : zH η zkds D vwCl cy L Θ h s.heap) (hnd : L.Nodup) (hLb : ∀ q ∈ L, base ≤ q) (hbs : base ≤ s.heap.size) (hsb : s.heap.size ≤ base + 900000) (hN : zNm Θ) (ha : Θ a = some 63) (hAe : A = fun q => q ∈ L ∨ s.heap.size ≤ q) (hRc : 39 ≤ R.cells ∧ 1090 ≤ R.slots) (hfr : 4 ≤ R.frames) (hlo : 100 ≤ R.locals) (hl : lv_has ls 2 [(0, .ref (η.1 a)), (1, .int x)]) (hxk : x.toInt = 0)
    (K : ∀ (H1 : Heap) (locs1 : List Loc), imgB η D cy L h a 0 s.heap.size H1 → va_S A s.heap H1 locs1 → W p l e R s m args below meth c H1 locs1 39 1090 Q (F0 m 46 ls [])) : W p l e R s m args below meth c s.heap [] 0 0 Q (F0 m 11 ls []) := by
  obtain ⟨hx, hb, hml, hown, hts⟩ := id S
  have hKa : va_K D vwCl (tyW cy) s := hKW.1
  have hLA : ∀ q ∈ L, A q := fun q hq => by rw [hAe]; exact Or.inl hq
  have hA : ∀ q : Nat, s.heap.size ≤ q → A q := fun q hq => by rw [hAe]; exact Or.inr hq
  have hS : va_S A s.heap s.heap [] := va_S.rf
  have c1 := cP1 hH ha
  have e11 : (zty (0, 11, 7, [(30, 0, 2147483647), (64, 0, 2147483647), (36, 0, 2147483647), (48, 0, 2147483647), (49, 0, 2147483647), (53, 0, 2147483647), (60, 0, 2147483647)]) 1).1 = 62 + 2 := rfl
  refine lv_aload_n hx hb dX11_image_11 rfl (lv_at hl 0 rfl) ?_
  refine hg_get hx hb hts hown hKa (zFok_mono (fun w hw => List.mem_cons_of_mem _ hw) zf_RX11_16) ha zkd_63 ⟨rfl, rfl⟩ (by decide) hH dX11_image_12 ?_
  rw [e11, z_dx 62 c1.1]
  refine lv_iload_n hx hb dX11_image_15 rfl (lv_at hl 1 rfl) ?_
  refine hg_img hx hb hKa c1.2 hH hxk (by decide) dX11_image_16 ?_
  rcases cP4 hH ha (k := 0) (by decide) with him | ⟨him, -⟩
  · have ei : va_rf (zrf η (h (h a 1).toNat 0)) = .null := by
      have : h (h a 1).toNat 0 = -1 := him
      rw [this]
      exact z_dm1 (η := η) 0
    rw [ei]
    refine lv_ifnonnullN hx hb dX11_image_17 ?_
    refine lv_aload_n hx hb dX11_image_20 rfl (lv_at hl 0 rfl) ?_
    refine hg_get hx hb hts hown hKa (zFok_mono (fun w hw => List.mem_cons_of_mem _ hw) zf_RX11_16) ha zkd_63 ⟨rfl, rfl⟩ (by decide) hH dX11_image_21 ?_
    rw [e11, z_dx 62 c1.1]
    refine lv_iload_n hx hb dX11_image_24 rfl (lv_at hl 1 rfl) ?_
    have hD0 : va_D A ([] ++ va_pl L (zF η zkds cy Θ h)) := z_D hnd hLA
    refine va_new (ci := 9) (fs := [.null, .null, .null, .null, .null, .int 0, .int 0]) (C := RX9) (T := TX9) (N := 7) hx hb hts (fun w hw => List.mem_cons_of_mem _ (zx_9 w hw)) tyX9 tyX9_ok hown (hts _ (List.mem_cons_of_mem _ zl_t7.1)) (hts _ (List.mem_cons_of_mem _ zl_t7.2.1)) (hts _ (List.mem_cons_of_mem _ zl_t7.2.2.1)) hKa hH.1 hD0 hS hA rfl (by decide +kernel) (by omega) (by omega) dX11_image_25 (fun q3 H1 hP1 hD1 hS1 => ?_)
    have hq3 : q3 ∉ L := va_pl_fresh2 hD1
    have hi3 : (([] ++ va_pl L (zF η zkds cy Θ h)) ++ [(q3, (.inr (9, [.null, .null, .null, .null, .null, .int 0, .int 0]) : va_E))])[([] ++ va_pl L (zF η zkds cy Θ h)).length]? = some (q3, .inr (9, [.null, .null, .null, .null, .null, .int 0, .int 0])) := by rw [List.getElem?_append_right (Nat.le_refl _), Nat.sub_self]; rfl
    have hA3 : s.heap.size ≤ q3 := by
      have h9 : A q3 := hD1.2 _ _ hi3
      rw [hAe] at h9
      exact h9.resolve_left hq3
    have hH1 : zH η zkds D vwCl cy L Θ h H1 := ⟨fun k q hk => hP1 k q (by rw [List.getElem?_append_left (List.getElem?_eq_some_iff.mp hk).1]; exact hk), hH.2⟩
    have hPc : va_P D vwCl [(q3, .inr (9, [.null, .null, .null, .null, .null, .int 0, .int 0]))] H1 := fun k q hk => by
      cases k with
      | zero =>
        have e9 : q = (q3, .inr (9, [.null, .null, .null, .null, .null, .int 0, .int 0])) := (Option.some.inj hk).symm
        rw [e9]
        exact hP1 _ _ hi3
      | succ k => simp at hk
    have hDc : va_D A [(q3, (.inr (9, [.null, .null, .null, .null, .null, .int 0, .int 0]) : va_E))] := by
      refine ⟨fun i j x y hx hy _ => ?_, fun k q hk => ?_⟩
      · have := (List.getElem?_eq_some_iff.mp hx).1
        have := (List.getElem?_eq_some_iff.mp hy).1
        simp only [List.length_cons, List.length_nil] at *
        omega
      · cases k with
        | zero =>
          have e9 : q = (q3, .inr (9, [.null, .null, .null, .null, .null, .int 0, .int 0])) := (Option.some.inj hk).symm
          rw [e9]
          exact hA q3 hA3
        | succ k => simp at hk
    have hFc : ∀ q, va_A [(q3, (.inr (9, [.null, .null, .null, .null, .null, .int 0, .int 0]) : va_E))] H1.size q → A q := fun q hq => by
      rcases z_vaA1 hq with h9 | h9
      · rw [h9]; exact hA q3 hA3
      · exact hA q (Nat.le_trans hS1.1 h9)
    refine W.widen (k := 1) (n := 7) (by decide +kernel) (by decide +kernel) ?_
    refine lv_dup hx hb dX11_image_28 rfl ?_
    refine va_callv (va_runIN (As := []) (rest := [.ref q3, .int x, .ref (η.1 (h a 1).toNat)]) S (c_X9_init l D cy q3 H1.size) ⟨va_cnB 0 hts (z_gdin zin_X9_init) rfl rfl rfl hKW.2.1.1 (hts _ (List.mem_cons_of_mem _ zl_t7.2.2.1)) (by decide +kernel) ⟨Nat.le_trans (Nat.le_of_ble_eq_true rfl) hfr, Nat.le_trans (Nat.le_of_ble_eq_true rfl) hlo⟩, rfl, hts _ (List.mem_cons_of_mem _ zl_t7.2.2.2)⟩ ⟨pwB, fun U hU hW => ⟨rfl, PW.of hU hW hKW hPc hDc⟩⟩ rfl rfl hl.1 rfl (lv_room (Nat.le_of_ble_eq_true rfl)) dX11_image_29 ⟨by omega, by omega⟩) hS1 (fun q _ h9 => hFc q h9) hFc (fun u t H2 locs2 ht hvm _ hB hz2 hk2 hS2 => ?_)
    obtain ⟨q_1, q_7, q_8, q_33, q_48, q_6, q_9, q_21, q_14, q_15, q_16, q_17, q_18, q_19, q_20, q_26, q_27, q_28, q_29, q_30, q_31, q_32, q_34, q_41, q_39, q_40, q_46, q_47, q_49, q_58, q_54, q_55, q_56, q_57, q_63, q_64, q_65, q_66, hP2, hD2⟩ := hB
    rw [ht] at hP2
    refine W.widen (k := 39) (n := 1090) (by decide +kernel) (by decide +kernel) ?_
    refine W_sz (fun hsz2 => ?_)
    generalize hAD : (fun i => ([q3, q_1, q_6, q_7, q_8, q_9, q_14, q_15, q_16, q_17, q_18, q_19, q_20, q_21, q_26, q_27, q_28, q_29, q_30, q_31, q_32, q_33, q_34, q_39, q_40, q_41, q_46, q_47, q_48, q_49, q_54, q_55, q_56, q_57, q_58, q_63, q_64, q_65, q_66] : List Nat).getD i 0) = AD
    have hat := zi0_at hP2
    rw [hAD] at hat
    have hj : zinj 39 AD := by rw [← hAD]; exact zAD_inj hD2
    have hAA : ∀ i, i < 39 → AD i = q3 ∨ H1.size ≤ AD i := fun i hi => by rw [← hAD]; exact z_vaA1 (zAD_A hD2 hi)
    have hAl : ∀ i, i < 39 → AD i < H2.size := fun i hi => by rw [← hAD]; exact zAD_lt hP2 hi
    have hA0 : AD 0 = q3 := by rw [← hAD]; rfl
    clear hP2 hD2 hAD
    have hAb : ∀ i, i < 39 → s.heap.size ≤ AD i := fun i hi => by
      rcases hAA i hi with h9 | h9
      · omega
      · have := hS1.1
        omega
    have hAL : ∀ i, i < 39 → AD i ∉ L := fun i hi h9 => by
      rcases hAA i hi with h8 | h8
      · rw [h8] at h9
        exact hq3 h9
      · have := zH_lt hH1 h9
        omega
    have hH2 : zH η zkds D vwCl cy L Θ h H2 := zH_kept hH1 (fun q hq => hk2 q (zH_lt hH1 hq) (fun h9 => by
      rcases z_vaA1 h9 with h8 | h8
      · rw [h8] at hq
        exact hq3 hq
      · have := zH_lt hH1 hq
        omega))
    have hlt : ∀ i, i < 39 → AD i < base + 1000000 := fun i hi => by
      have := hAl i hi
      omega
    have hlb : ∀ i, i < 39 → base ≤ AD i := fun i hi => by
      have := hAb i hi
      omega
    have hno : ∀ i, i < 39 → Θ (AD i - base) = none := fun i hi => zΘ_none hη hH2 hN (hlb i hi) (hlt i hi) (hAL i hi)
    have hW2 := zH_new (AD := AD) hη hH2 zTi0_ok zTi0_ox hj hlb hlt hno hAL hat
    have hnd2 : (L ++ (List.range zTi0.length).map AD).Nodup := z_ndnew hnd hj hAL
    have hN2 : zNm (zTh zTi0 (fun i => AD i - base) Θ) := zNm_app hN zTi_ns.1 (fun i k hi hk h9 => hj i k hi hk (by
      have := hlb i hi
      have := hlb k hk
      have h8 : AD i - base = AD k - base := h9
      omega)) (fun i hi => by
      have := hlt i hi
      have := hlb i hi
      show AD i - base < 1000000
      omega)
    have hold : ∀ q kk, Θ q = some kk → zTh zTi0 (fun i => AD i - base) Θ q = some kk ∧ zhh zkds zTi0 (fun i => AD i - base) h q = h q := fun q kk hq => by
      have hne : ∀ i, i < zTi0.length → (fun i => AD i - base) i ≠ q := fun i hi h9 => by
        have := hno i hi
        simp only at h9
        rw [h9, hq] at this
        cases this
      exact ⟨by rw [zTh_ne hne]; exact hq, zhh_ne hne⟩
    have hn0 : zTh zTi0 (fun i => AD i - base) Θ (AD 0 - base) = some (29 + 0) := zTh_at (T := zTi0) (cd := fun i => AD i - base) (i := 0) (fun i k hi hk h9 => hj i k hi hk (by
      have := hlb i hi
      have := hlb k hk
      have h8 : AD i - base = AD k - base := h9
      omega)) (by decide)
    have hη0 : η.1 (AD 0 - base) = q3 := by
      have h8 := hlt 0 (by decide)
      have h9 := hlb 0 (by decide)
      rw [hη, zη1 (by omega)]
      omega
    generalize hΘ2 : zTh zTi0 (fun i => AD i - base) Θ = Θ2 at hW2 hN2 hold hn0
    generalize hh2 : zhh zkds zTi0 (fun i => AD i - base) h = h2 at hW2 hold
    generalize hL2 : L ++ (List.range zTi0.length).map AD = L2 at hW2 hnd2
    have hLL2 : ∀ q ∈ L, q ∈ L2 := fun q hq => by rw [← hL2]; exact List.mem_append_left _ hq
    have hL2A : ∀ q ∈ L2, q ∈ L ∨ s.heap.size ≤ q := fun q hq => by
      rw [← hL2] at hq
      rcases List.mem_append.mp hq with h9 | h9
      · exact Or.inl h9
      · obtain ⟨i, hi, rfl⟩ := List.mem_map.mp h9
        exact Or.inr (hAb i (List.mem_range.mp hi))
    have hA2 : ∀ q ∈ L2, A q := fun q hq => by rw [hAe]; exact hL2A q hq
    obtain ⟨im, him0⟩ : ∃ im : Nat, im = (h a 1).toNat := ⟨_, rfl⟩
    rw [← him0]
    have hΘi : Θ im = some 62 := by rw [him0]; exact c1.2
    have h2a := hold a 63 ha
    have h2i := hold im 62 hΘi
    have hai : a ≠ im := fun h9 => by rw [h9, hΘi] at ha; cases ha
    obtain ⟨p0, hp0⟩ := zH_get hW2 h2i.1 zkd_62 (by decide)
    obtain ⟨pk, hpk⟩ := zH_get hW2 hn0 zkd_29 (by decide)
    have hD2 : va_D A ([] ++ va_pl L2 (zF η zkds cy Θ2 h2)) := z_D hnd2 hA2
    have hp0' := hp0
    rw [zE_q rfl] at hp0
    rw [zE_o rfl, hη0] at hpk
    obtain ⟨v1, v2⟩ := z_vin (i := x) (n := 3) (by omega) (by omega)
    have ek : x.toNatClampNeg = 0 := by rw [v2]; omega
    refine va_astq hx hb hKa hW2.1 hD2 hS2 p0 6 pk 9 hp0 rfl hpk rfl v1 dX11_image_32 (fun H3 locs3 hP3 hD3 hS3 => ?_)
    rw [ek, ← hη0, ← zup_q] at hP3
    have hcd : (AD 0 - base : Nat) < 1000000 := by
      have h8 := hlt 0 (by decide)
      have h9 := hlb 0 (by decide)
      omega
    have hW3 : zH η zkds D vwCl cy L2 Θ2 (zup h2 im 0 ((AD 0 - base : Nat) : Int)) H3 := zH_put hW2 hD2 h2i.1 zkd_62 (by decide) (by decide) (by
      refine ⟨Or.inr ⟨Int.natCast_nonneg _, by rw [Int.toNat_natCast]; exact hn0⟩, ?_, ?_⟩
      · show (-1 : Int) ≤ _
        omega
      · show _ ≤ (2147483647 : Int)
        omega) hp0' (by rw [zE_q rfl]; exact hP3)
    generalize hh3 : zup h2 im 0 ((AD 0 - base : Nat) : Int) = h3 at hW3
    have g3 : ∀ q kk j, Θ q = some kk → ¬ (q = im ∧ j = 0) → h3 q j = h q j := fun q kk j hq hne => by rw [← hh3, zup_ne hne, (hold q kk hq).2]
    have g3i : h3 im 0 = ((AD 0 - base : Nat) : Int) := by rw [← hh3, zup_at]
    have hI : cIm h3 a 0 = ((AD 0 - base : Nat) : Int) := by
      unfold cIm
      rw [g3 a 63 1 ha (fun h9 => hai h9.1), ← him0]
      exact g3i
    refine img_tl0 hη S hKW hZ hW3 hnd2 (fun q hq => (hL2A q hq).elim (fun h9 => hLb q h9) (fun h9 => by omega)) hN2 h2a.1 (by rw [hI]; exact Int.natCast_nonneg _) hA2 hS3 (fun q h8 h9 => hS3.2.1 q h8 (fun h7 => by
      rw [hAe] at h7
      rcases h7 with h7 | h7
      · exact h9 (hLL2 q h7)
      · omega)) ⟨hRc.1, hRc.2⟩ (by omega) (by omega) hl hxk (fun h' H4 locs4 hW4 hR4 hz4 hq4 hS4 => ?_)
    refine K H4 locs4 ⟨L2, Θ2, h', hW4, hnd2, hLL2, hL2A, hN2, h2a.1, ?_⟩ hS4
    have e0 : cLn h3 a = cLn h a := by
      have p0 := cP0 hH ha
      have p2 := cP2 hH ha
      unfold cLn
      rw [g3 a 63 0 ha (fun h9 => hai h9.1), g3 _ 28 0 p0.2 (fun h9 => by rw [h9.1, hΘi] at p0; cases p0.2), g3 _ 1 1 p2.2 (fun h9 => by rw [h9.1, hΘi] at p2; cases p2.2)]
    obtain ⟨r1, r2⟩ := hR4
    refine ⟨r1.trans e0, fun k hk => ⟨fun h9 => ?_, fun h9 => ?_⟩⟩
    · obtain ⟨r3, r4⟩ := (r2 k hk).1 h9
      exact ⟨r3, r4.trans e0⟩
    · obtain ⟨r3, r4⟩ := (r2 k hk).2 h9
      have e5 : cIm h3 a k = cIm h a k := by
        unfold cIm
        rw [g3 a 63 1 ha (fun h9 => hai h9.1), ← him0]
        exact g3 im 62 k hΘi (fun h8 => h9 (by rw [h8.2]; rfl))
      refine ⟨r3.trans e5, fun h8 => ?_⟩
      rw [r4 (by rw [e5]; exact h8)]
      have p1 : Θ (cIm h a k).toNat = some (29 + k) := by
        rcases cP4 hH ha hk with q | q
        · omega
        · exact q.2
      have p2 := cP5 hH hk p1
      unfold cIl
      rw [e5, g3 _ (29 + k) 0 p1 (fun h7 => by rw [h7.1, hΘi] at p1; have := Option.some.inj p1; omega), g3 _ (3 + 2 * k) 1 p2.2 (fun h7 => by rw [h7.1, hΘi] at p2; have := Option.some.inj p2.2; omega)]
  · have ei : va_rf (zrf η (h (h a 1).toNat 0)) = .ref (η.1 (cIm h a 0).toNat) := z_dx (η := η) (29 + 0) him
    rw [ei]
    refine lv_ifnonnull (tgt := 33) hx hb dX11_image_17 (by decide) ?_
    refine W.widen (k := 39) (n := 1090) (by decide +kernel) (by decide +kernel) ?_
    refine img_tl0 hη S hKW hZ hH hnd hLb hN ha him hLA hS (fun q _ _ => rfl) ⟨hRc.1, hRc.2⟩ (by omega) (by omega) hl hxk (fun h' H4 locs4 hW4 hR4 hz4 hq4 hS4 => ?_)
    exact K H4 locs4 ⟨L, Θ, h', hW4, hnd, fun q hq => hq, fun q hq => Or.inl hq, hN, ha, hR4⟩ hS4
set_option maxHeartbeats 8000000 in
set_option maxRecDepth 100000 in
theorem img_bd1 (l : Launch) {D : va_G} {cy : Nat → ClassId} {L : List Nat} {Θ : Nat → Option Nat} {h : Nat → Nat → Int} {p : Program} {e : Env} {R : Room} {s : State} {m : MethodId} {args : Array Value} {below : List Frame} {meth : Method} {c : Code} {Q : State → Prop} {w0 : Cond} {ls : Array Slot} {A : Nat → Prop} {base : Nat} {tb adK adV : Nat → Nat} {fv : Option Nat} {a : Nat} {x : Int32} (hη : η = zη base adK) (S : CallFix p m c cX11_image 2 s args (w0 :: zTW) RX11) (hKW : KW D cy s) (hZ : zS0 base tb adK adV fv s)
    (hH : zH η zkds D vwCl cy L Θ h s.heap) (hnd : L.Nodup) (hLb : ∀ q ∈ L, base ≤ q) (hbs : base ≤ s.heap.size) (hsb : s.heap.size ≤ base + 900000) (hN : zNm Θ) (ha : Θ a = some 63) (hAe : A = fun q => q ∈ L ∨ s.heap.size ≤ q) (hRc : 39 ≤ R.cells ∧ 1090 ≤ R.slots) (hfr : 4 ≤ R.frames) (hlo : 100 ≤ R.locals) (hl : lv_has ls 2 [(0, .ref (η.1 a)), (1, .int x)]) (hxk : x.toInt = 1)
    (K : ∀ (H1 : Heap) (locs1 : List Loc), imgB η D cy L h a 1 s.heap.size H1 → va_S A s.heap H1 locs1 → W p l e R s m args below meth c H1 locs1 39 1090 Q (F0 m 46 ls [])) : W p l e R s m args below meth c s.heap [] 0 0 Q (F0 m 11 ls []) := by
  obtain ⟨hx, hb, hml, hown, hts⟩ := id S
  have hKa : va_K D vwCl (tyW cy) s := hKW.1
  have hLA : ∀ q ∈ L, A q := fun q hq => by rw [hAe]; exact Or.inl hq
  have hA : ∀ q : Nat, s.heap.size ≤ q → A q := fun q hq => by rw [hAe]; exact Or.inr hq
  have hS : va_S A s.heap s.heap [] := va_S.rf
  have c1 := cP1 hH ha
  have e11 : (zty (0, 11, 7, [(30, 0, 2147483647), (64, 0, 2147483647), (36, 0, 2147483647), (48, 0, 2147483647), (49, 0, 2147483647), (53, 0, 2147483647), (60, 0, 2147483647)]) 1).1 = 62 + 2 := rfl
  refine lv_aload_n hx hb dX11_image_11 rfl (lv_at hl 0 rfl) ?_
  refine hg_get hx hb hts hown hKa (zFok_mono (fun w hw => List.mem_cons_of_mem _ hw) zf_RX11_16) ha zkd_63 ⟨rfl, rfl⟩ (by decide) hH dX11_image_12 ?_
  rw [e11, z_dx 62 c1.1]
  refine lv_iload_n hx hb dX11_image_15 rfl (lv_at hl 1 rfl) ?_
  refine hg_img hx hb hKa c1.2 hH hxk (by decide) dX11_image_16 ?_
  rcases cP4 hH ha (k := 1) (by decide) with him | ⟨him, -⟩
  · have ei : va_rf (zrf η (h (h a 1).toNat 1)) = .null := by
      have : h (h a 1).toNat 1 = -1 := him
      rw [this]
      exact z_dm1 (η := η) 0
    rw [ei]
    refine lv_ifnonnullN hx hb dX11_image_17 ?_
    refine lv_aload_n hx hb dX11_image_20 rfl (lv_at hl 0 rfl) ?_
    refine hg_get hx hb hts hown hKa (zFok_mono (fun w hw => List.mem_cons_of_mem _ hw) zf_RX11_16) ha zkd_63 ⟨rfl, rfl⟩ (by decide) hH dX11_image_21 ?_
    rw [e11, z_dx 62 c1.1]
    refine lv_iload_n hx hb dX11_image_24 rfl (lv_at hl 1 rfl) ?_
    have hD0 : va_D A ([] ++ va_pl L (zF η zkds cy Θ h)) := z_D hnd hLA
    refine va_new (ci := 9) (fs := [.null, .null, .null, .null, .null, .int 0, .int 0]) (C := RX9) (T := TX9) (N := 7) hx hb hts (fun w hw => List.mem_cons_of_mem _ (zx_9 w hw)) tyX9 tyX9_ok hown (hts _ (List.mem_cons_of_mem _ zl_t7.1)) (hts _ (List.mem_cons_of_mem _ zl_t7.2.1)) (hts _ (List.mem_cons_of_mem _ zl_t7.2.2.1)) hKa hH.1 hD0 hS hA rfl (by decide +kernel) (by omega) (by omega) dX11_image_25 (fun q3 H1 hP1 hD1 hS1 => ?_)
    have hq3 : q3 ∉ L := va_pl_fresh2 hD1
    have hi3 : (([] ++ va_pl L (zF η zkds cy Θ h)) ++ [(q3, (.inr (9, [.null, .null, .null, .null, .null, .int 0, .int 0]) : va_E))])[([] ++ va_pl L (zF η zkds cy Θ h)).length]? = some (q3, .inr (9, [.null, .null, .null, .null, .null, .int 0, .int 0])) := by rw [List.getElem?_append_right (Nat.le_refl _), Nat.sub_self]; rfl
    have hA3 : s.heap.size ≤ q3 := by
      have h9 : A q3 := hD1.2 _ _ hi3
      rw [hAe] at h9
      exact h9.resolve_left hq3
    have hH1 : zH η zkds D vwCl cy L Θ h H1 := ⟨fun k q hk => hP1 k q (by rw [List.getElem?_append_left (List.getElem?_eq_some_iff.mp hk).1]; exact hk), hH.2⟩
    have hPc : va_P D vwCl [(q3, .inr (9, [.null, .null, .null, .null, .null, .int 0, .int 0]))] H1 := fun k q hk => by
      cases k with
      | zero =>
        have e9 : q = (q3, .inr (9, [.null, .null, .null, .null, .null, .int 0, .int 0])) := (Option.some.inj hk).symm
        rw [e9]
        exact hP1 _ _ hi3
      | succ k => simp at hk
    have hDc : va_D A [(q3, (.inr (9, [.null, .null, .null, .null, .null, .int 0, .int 0]) : va_E))] := by
      refine ⟨fun i j x y hx hy _ => ?_, fun k q hk => ?_⟩
      · have := (List.getElem?_eq_some_iff.mp hx).1
        have := (List.getElem?_eq_some_iff.mp hy).1
        simp only [List.length_cons, List.length_nil] at *
        omega
      · cases k with
        | zero =>
          have e9 : q = (q3, .inr (9, [.null, .null, .null, .null, .null, .int 0, .int 0])) := (Option.some.inj hk).symm
          rw [e9]
          exact hA q3 hA3
        | succ k => simp at hk
    have hFc : ∀ q, va_A [(q3, (.inr (9, [.null, .null, .null, .null, .null, .int 0, .int 0]) : va_E))] H1.size q → A q := fun q hq => by
      rcases z_vaA1 hq with h9 | h9
      · rw [h9]; exact hA q3 hA3
      · exact hA q (Nat.le_trans hS1.1 h9)
    refine W.widen (k := 1) (n := 7) (by decide +kernel) (by decide +kernel) ?_
    refine lv_dup hx hb dX11_image_28 rfl ?_
    refine va_callv (va_runIN (As := []) (rest := [.ref q3, .int x, .ref (η.1 (h a 1).toNat)]) S (c_X9_init l D cy q3 H1.size) ⟨va_cnB 0 hts (z_gdin zin_X9_init) rfl rfl rfl hKW.2.1.1 (hts _ (List.mem_cons_of_mem _ zl_t7.2.2.1)) (by decide +kernel) ⟨Nat.le_trans (Nat.le_of_ble_eq_true rfl) hfr, Nat.le_trans (Nat.le_of_ble_eq_true rfl) hlo⟩, rfl, hts _ (List.mem_cons_of_mem _ zl_t7.2.2.2)⟩ ⟨pwB, fun U hU hW => ⟨rfl, PW.of hU hW hKW hPc hDc⟩⟩ rfl rfl hl.1 rfl (lv_room (Nat.le_of_ble_eq_true rfl)) dX11_image_29 ⟨by omega, by omega⟩) hS1 (fun q _ h9 => hFc q h9) hFc (fun u t H2 locs2 ht hvm _ hB hz2 hk2 hS2 => ?_)
    obtain ⟨q_1, q_7, q_8, q_33, q_48, q_6, q_9, q_21, q_14, q_15, q_16, q_17, q_18, q_19, q_20, q_26, q_27, q_28, q_29, q_30, q_31, q_32, q_34, q_41, q_39, q_40, q_46, q_47, q_49, q_58, q_54, q_55, q_56, q_57, q_63, q_64, q_65, q_66, hP2, hD2⟩ := hB
    rw [ht] at hP2
    refine W.widen (k := 39) (n := 1090) (by decide +kernel) (by decide +kernel) ?_
    refine W_sz (fun hsz2 => ?_)
    generalize hAD : (fun i => ([q3, q_1, q_6, q_7, q_8, q_9, q_14, q_15, q_16, q_17, q_18, q_19, q_20, q_21, q_26, q_27, q_28, q_29, q_30, q_31, q_32, q_33, q_34, q_39, q_40, q_41, q_46, q_47, q_48, q_49, q_54, q_55, q_56, q_57, q_58, q_63, q_64, q_65, q_66] : List Nat).getD i 0) = AD
    have hat := zi1_at hP2
    rw [hAD] at hat
    have hj : zinj 39 AD := by rw [← hAD]; exact zAD_inj hD2
    have hAA : ∀ i, i < 39 → AD i = q3 ∨ H1.size ≤ AD i := fun i hi => by rw [← hAD]; exact z_vaA1 (zAD_A hD2 hi)
    have hAl : ∀ i, i < 39 → AD i < H2.size := fun i hi => by rw [← hAD]; exact zAD_lt hP2 hi
    have hA0 : AD 0 = q3 := by rw [← hAD]; rfl
    clear hP2 hD2 hAD
    have hAb : ∀ i, i < 39 → s.heap.size ≤ AD i := fun i hi => by
      rcases hAA i hi with h9 | h9
      · omega
      · have := hS1.1
        omega
    have hAL : ∀ i, i < 39 → AD i ∉ L := fun i hi h9 => by
      rcases hAA i hi with h8 | h8
      · rw [h8] at h9
        exact hq3 h9
      · have := zH_lt hH1 h9
        omega
    have hH2 : zH η zkds D vwCl cy L Θ h H2 := zH_kept hH1 (fun q hq => hk2 q (zH_lt hH1 hq) (fun h9 => by
      rcases z_vaA1 h9 with h8 | h8
      · rw [h8] at hq
        exact hq3 hq
      · have := zH_lt hH1 hq
        omega))
    have hlt : ∀ i, i < 39 → AD i < base + 1000000 := fun i hi => by
      have := hAl i hi
      omega
    have hlb : ∀ i, i < 39 → base ≤ AD i := fun i hi => by
      have := hAb i hi
      omega
    have hno : ∀ i, i < 39 → Θ (AD i - base) = none := fun i hi => zΘ_none hη hH2 hN (hlb i hi) (hlt i hi) (hAL i hi)
    have hW2 := zH_new (AD := AD) hη hH2 zTi1_ok zTi1_ox hj hlb hlt hno hAL hat
    have hnd2 : (L ++ (List.range zTi1.length).map AD).Nodup := z_ndnew hnd hj hAL
    have hN2 : zNm (zTh zTi1 (fun i => AD i - base) Θ) := zNm_app hN zTi_ns.2.1 (fun i k hi hk h9 => hj i k hi hk (by
      have := hlb i hi
      have := hlb k hk
      have h8 : AD i - base = AD k - base := h9
      omega)) (fun i hi => by
      have := hlt i hi
      have := hlb i hi
      show AD i - base < 1000000
      omega)
    have hold : ∀ q kk, Θ q = some kk → zTh zTi1 (fun i => AD i - base) Θ q = some kk ∧ zhh zkds zTi1 (fun i => AD i - base) h q = h q := fun q kk hq => by
      have hne : ∀ i, i < zTi1.length → (fun i => AD i - base) i ≠ q := fun i hi h9 => by
        have := hno i hi
        simp only at h9
        rw [h9, hq] at this
        cases this
      exact ⟨by rw [zTh_ne hne]; exact hq, zhh_ne hne⟩
    have hn0 : zTh zTi1 (fun i => AD i - base) Θ (AD 0 - base) = some (29 + 1) := zTh_at (T := zTi1) (cd := fun i => AD i - base) (i := 0) (fun i k hi hk h9 => hj i k hi hk (by
      have := hlb i hi
      have := hlb k hk
      have h8 : AD i - base = AD k - base := h9
      omega)) (by decide)
    have hη0 : η.1 (AD 0 - base) = q3 := by
      have h8 := hlt 0 (by decide)
      have h9 := hlb 0 (by decide)
      rw [hη, zη1 (by omega)]
      omega
    generalize hΘ2 : zTh zTi1 (fun i => AD i - base) Θ = Θ2 at hW2 hN2 hold hn0
    generalize hh2 : zhh zkds zTi1 (fun i => AD i - base) h = h2 at hW2 hold
    generalize hL2 : L ++ (List.range zTi1.length).map AD = L2 at hW2 hnd2
    have hLL2 : ∀ q ∈ L, q ∈ L2 := fun q hq => by rw [← hL2]; exact List.mem_append_left _ hq
    have hL2A : ∀ q ∈ L2, q ∈ L ∨ s.heap.size ≤ q := fun q hq => by
      rw [← hL2] at hq
      rcases List.mem_append.mp hq with h9 | h9
      · exact Or.inl h9
      · obtain ⟨i, hi, rfl⟩ := List.mem_map.mp h9
        exact Or.inr (hAb i (List.mem_range.mp hi))
    have hA2 : ∀ q ∈ L2, A q := fun q hq => by rw [hAe]; exact hL2A q hq
    obtain ⟨im, him0⟩ : ∃ im : Nat, im = (h a 1).toNat := ⟨_, rfl⟩
    rw [← him0]
    have hΘi : Θ im = some 62 := by rw [him0]; exact c1.2
    have h2a := hold a 63 ha
    have h2i := hold im 62 hΘi
    have hai : a ≠ im := fun h9 => by rw [h9, hΘi] at ha; cases ha
    obtain ⟨p0, hp0⟩ := zH_get hW2 h2i.1 zkd_62 (by decide)
    obtain ⟨pk, hpk⟩ := zH_get hW2 hn0 zkd_30 (by decide)
    have hD2 : va_D A ([] ++ va_pl L2 (zF η zkds cy Θ2 h2)) := z_D hnd2 hA2
    have hp0' := hp0
    rw [zE_q rfl] at hp0
    rw [zE_o rfl, hη0] at hpk
    obtain ⟨v1, v2⟩ := z_vin (i := x) (n := 3) (by omega) (by omega)
    have ek : x.toNatClampNeg = 1 := by rw [v2]; omega
    refine va_astq hx hb hKa hW2.1 hD2 hS2 p0 6 pk 9 hp0 rfl hpk rfl v1 dX11_image_32 (fun H3 locs3 hP3 hD3 hS3 => ?_)
    rw [ek, ← hη0, ← zup_q] at hP3
    have hcd : (AD 0 - base : Nat) < 1000000 := by
      have h8 := hlt 0 (by decide)
      have h9 := hlb 0 (by decide)
      omega
    have hW3 : zH η zkds D vwCl cy L2 Θ2 (zup h2 im 1 ((AD 0 - base : Nat) : Int)) H3 := zH_put hW2 hD2 h2i.1 zkd_62 (by decide) (by decide) (by
      refine ⟨Or.inr ⟨Int.natCast_nonneg _, by rw [Int.toNat_natCast]; exact hn0⟩, ?_, ?_⟩
      · show (-1 : Int) ≤ _
        omega
      · show _ ≤ (2147483647 : Int)
        omega) hp0' (by rw [zE_q rfl]; exact hP3)
    generalize hh3 : zup h2 im 1 ((AD 0 - base : Nat) : Int) = h3 at hW3
    have g3 : ∀ q kk j, Θ q = some kk → ¬ (q = im ∧ j = 1) → h3 q j = h q j := fun q kk j hq hne => by rw [← hh3, zup_ne hne, (hold q kk hq).2]
    have g3i : h3 im 1 = ((AD 0 - base : Nat) : Int) := by rw [← hh3, zup_at]
    have hI : cIm h3 a 1 = ((AD 0 - base : Nat) : Int) := by
      unfold cIm
      rw [g3 a 63 1 ha (fun h9 => hai h9.1), ← him0]
      exact g3i
    refine img_tl1 hη S hKW hZ hW3 hnd2 (fun q hq => (hL2A q hq).elim (fun h9 => hLb q h9) (fun h9 => by omega)) hN2 h2a.1 (by rw [hI]; exact Int.natCast_nonneg _) hA2 hS3 (fun q h8 h9 => hS3.2.1 q h8 (fun h7 => by
      rw [hAe] at h7
      rcases h7 with h7 | h7
      · exact h9 (hLL2 q h7)
      · omega)) ⟨hRc.1, hRc.2⟩ (by omega) (by omega) hl hxk (fun h' H4 locs4 hW4 hR4 hz4 hq4 hS4 => ?_)
    refine K H4 locs4 ⟨L2, Θ2, h', hW4, hnd2, hLL2, hL2A, hN2, h2a.1, ?_⟩ hS4
    have e0 : cLn h3 a = cLn h a := by
      have p0 := cP0 hH ha
      have p2 := cP2 hH ha
      unfold cLn
      rw [g3 a 63 0 ha (fun h9 => hai h9.1), g3 _ 28 0 p0.2 (fun h9 => by rw [h9.1, hΘi] at p0; cases p0.2), g3 _ 1 1 p2.2 (fun h9 => by rw [h9.1, hΘi] at p2; cases p2.2)]
    obtain ⟨r1, r2⟩ := hR4
    refine ⟨r1.trans e0, fun k hk => ⟨fun h9 => ?_, fun h9 => ?_⟩⟩
    · obtain ⟨r3, r4⟩ := (r2 k hk).1 h9
      exact ⟨r3, r4.trans e0⟩
    · obtain ⟨r3, r4⟩ := (r2 k hk).2 h9
      have e5 : cIm h3 a k = cIm h a k := by
        unfold cIm
        rw [g3 a 63 1 ha (fun h9 => hai h9.1), ← him0]
        exact g3 im 62 k hΘi (fun h8 => h9 (by rw [h8.2]; rfl))
      refine ⟨r3.trans e5, fun h8 => ?_⟩
      rw [r4 (by rw [e5]; exact h8)]
      have p1 : Θ (cIm h a k).toNat = some (29 + k) := by
        rcases cP4 hH ha hk with q | q
        · omega
        · exact q.2
      have p2 := cP5 hH hk p1
      unfold cIl
      rw [e5, g3 _ (29 + k) 0 p1 (fun h7 => by rw [h7.1, hΘi] at p1; have := Option.some.inj p1; omega), g3 _ (3 + 2 * k) 1 p2.2 (fun h7 => by rw [h7.1, hΘi] at p2; have := Option.some.inj p2.2; omega)]
  · have ei : va_rf (zrf η (h (h a 1).toNat 1)) = .ref (η.1 (cIm h a 1).toNat) := z_dx (η := η) (29 + 1) him
    rw [ei]
    refine lv_ifnonnull (tgt := 33) hx hb dX11_image_17 (by decide) ?_
    refine W.widen (k := 39) (n := 1090) (by decide +kernel) (by decide +kernel) ?_
    refine img_tl1 hη S hKW hZ hH hnd hLb hN ha him hLA hS (fun q _ _ => rfl) ⟨hRc.1, hRc.2⟩ (by omega) (by omega) hl hxk (fun h' H4 locs4 hW4 hR4 hz4 hq4 hS4 => ?_)
    exact K H4 locs4 ⟨L, Θ, h', hW4, hnd, fun q hq => hq, fun q hq => Or.inl hq, hN, ha, hR4⟩ hS4
set_option maxHeartbeats 8000000 in
set_option maxRecDepth 100000 in
theorem img_bd2 (l : Launch) {D : va_G} {cy : Nat → ClassId} {L : List Nat} {Θ : Nat → Option Nat} {h : Nat → Nat → Int} {p : Program} {e : Env} {R : Room} {s : State} {m : MethodId} {args : Array Value} {below : List Frame} {meth : Method} {c : Code} {Q : State → Prop} {w0 : Cond} {ls : Array Slot} {A : Nat → Prop} {base : Nat} {tb adK adV : Nat → Nat} {fv : Option Nat} {a : Nat} {x : Int32} (hη : η = zη base adK) (S : CallFix p m c cX11_image 2 s args (w0 :: zTW) RX11) (hKW : KW D cy s) (hZ : zS0 base tb adK adV fv s)
    (hH : zH η zkds D vwCl cy L Θ h s.heap) (hnd : L.Nodup) (hLb : ∀ q ∈ L, base ≤ q) (hbs : base ≤ s.heap.size) (hsb : s.heap.size ≤ base + 900000) (hN : zNm Θ) (ha : Θ a = some 63) (hAe : A = fun q => q ∈ L ∨ s.heap.size ≤ q) (hRc : 39 ≤ R.cells ∧ 1090 ≤ R.slots) (hfr : 4 ≤ R.frames) (hlo : 100 ≤ R.locals) (hl : lv_has ls 2 [(0, .ref (η.1 a)), (1, .int x)]) (hxk : x.toInt = 2)
    (K : ∀ (H1 : Heap) (locs1 : List Loc), imgB η D cy L h a 2 s.heap.size H1 → va_S A s.heap H1 locs1 → W p l e R s m args below meth c H1 locs1 39 1090 Q (F0 m 46 ls [])) : W p l e R s m args below meth c s.heap [] 0 0 Q (F0 m 11 ls []) := by
  obtain ⟨hx, hb, hml, hown, hts⟩ := id S
  have hKa : va_K D vwCl (tyW cy) s := hKW.1
  have hLA : ∀ q ∈ L, A q := fun q hq => by rw [hAe]; exact Or.inl hq
  have hA : ∀ q : Nat, s.heap.size ≤ q → A q := fun q hq => by rw [hAe]; exact Or.inr hq
  have hS : va_S A s.heap s.heap [] := va_S.rf
  have c1 := cP1 hH ha
  have e11 : (zty (0, 11, 7, [(30, 0, 2147483647), (64, 0, 2147483647), (36, 0, 2147483647), (48, 0, 2147483647), (49, 0, 2147483647), (53, 0, 2147483647), (60, 0, 2147483647)]) 1).1 = 62 + 2 := rfl
  refine lv_aload_n hx hb dX11_image_11 rfl (lv_at hl 0 rfl) ?_
  refine hg_get hx hb hts hown hKa (zFok_mono (fun w hw => List.mem_cons_of_mem _ hw) zf_RX11_16) ha zkd_63 ⟨rfl, rfl⟩ (by decide) hH dX11_image_12 ?_
  rw [e11, z_dx 62 c1.1]
  refine lv_iload_n hx hb dX11_image_15 rfl (lv_at hl 1 rfl) ?_
  refine hg_img hx hb hKa c1.2 hH hxk (by decide) dX11_image_16 ?_
  rcases cP4 hH ha (k := 2) (by decide) with him | ⟨him, -⟩
  · have ei : va_rf (zrf η (h (h a 1).toNat 2)) = .null := by
      have : h (h a 1).toNat 2 = -1 := him
      rw [this]
      exact z_dm1 (η := η) 0
    rw [ei]
    refine lv_ifnonnullN hx hb dX11_image_17 ?_
    refine lv_aload_n hx hb dX11_image_20 rfl (lv_at hl 0 rfl) ?_
    refine hg_get hx hb hts hown hKa (zFok_mono (fun w hw => List.mem_cons_of_mem _ hw) zf_RX11_16) ha zkd_63 ⟨rfl, rfl⟩ (by decide) hH dX11_image_21 ?_
    rw [e11, z_dx 62 c1.1]
    refine lv_iload_n hx hb dX11_image_24 rfl (lv_at hl 1 rfl) ?_
    have hD0 : va_D A ([] ++ va_pl L (zF η zkds cy Θ h)) := z_D hnd hLA
    refine va_new (ci := 9) (fs := [.null, .null, .null, .null, .null, .int 0, .int 0]) (C := RX9) (T := TX9) (N := 7) hx hb hts (fun w hw => List.mem_cons_of_mem _ (zx_9 w hw)) tyX9 tyX9_ok hown (hts _ (List.mem_cons_of_mem _ zl_t7.1)) (hts _ (List.mem_cons_of_mem _ zl_t7.2.1)) (hts _ (List.mem_cons_of_mem _ zl_t7.2.2.1)) hKa hH.1 hD0 hS hA rfl (by decide +kernel) (by omega) (by omega) dX11_image_25 (fun q3 H1 hP1 hD1 hS1 => ?_)
    have hq3 : q3 ∉ L := va_pl_fresh2 hD1
    have hi3 : (([] ++ va_pl L (zF η zkds cy Θ h)) ++ [(q3, (.inr (9, [.null, .null, .null, .null, .null, .int 0, .int 0]) : va_E))])[([] ++ va_pl L (zF η zkds cy Θ h)).length]? = some (q3, .inr (9, [.null, .null, .null, .null, .null, .int 0, .int 0])) := by rw [List.getElem?_append_right (Nat.le_refl _), Nat.sub_self]; rfl
    have hA3 : s.heap.size ≤ q3 := by
      have h9 : A q3 := hD1.2 _ _ hi3
      rw [hAe] at h9
      exact h9.resolve_left hq3
    have hH1 : zH η zkds D vwCl cy L Θ h H1 := ⟨fun k q hk => hP1 k q (by rw [List.getElem?_append_left (List.getElem?_eq_some_iff.mp hk).1]; exact hk), hH.2⟩
    have hPc : va_P D vwCl [(q3, .inr (9, [.null, .null, .null, .null, .null, .int 0, .int 0]))] H1 := fun k q hk => by
      cases k with
      | zero =>
        have e9 : q = (q3, .inr (9, [.null, .null, .null, .null, .null, .int 0, .int 0])) := (Option.some.inj hk).symm
        rw [e9]
        exact hP1 _ _ hi3
      | succ k => simp at hk
    have hDc : va_D A [(q3, (.inr (9, [.null, .null, .null, .null, .null, .int 0, .int 0]) : va_E))] := by
      refine ⟨fun i j x y hx hy _ => ?_, fun k q hk => ?_⟩
      · have := (List.getElem?_eq_some_iff.mp hx).1
        have := (List.getElem?_eq_some_iff.mp hy).1
        simp only [List.length_cons, List.length_nil] at *
        omega
      · cases k with
        | zero =>
          have e9 : q = (q3, .inr (9, [.null, .null, .null, .null, .null, .int 0, .int 0])) := (Option.some.inj hk).symm
          rw [e9]
          exact hA q3 hA3
        | succ k => simp at hk
    have hFc : ∀ q, va_A [(q3, (.inr (9, [.null, .null, .null, .null, .null, .int 0, .int 0]) : va_E))] H1.size q → A q := fun q hq => by
      rcases z_vaA1 hq with h9 | h9
      · rw [h9]; exact hA q3 hA3
      · exact hA q (Nat.le_trans hS1.1 h9)
    refine W.widen (k := 1) (n := 7) (by decide +kernel) (by decide +kernel) ?_
    refine lv_dup hx hb dX11_image_28 rfl ?_
    refine va_callv (va_runIN (As := []) (rest := [.ref q3, .int x, .ref (η.1 (h a 1).toNat)]) S (c_X9_init l D cy q3 H1.size) ⟨va_cnB 0 hts (z_gdin zin_X9_init) rfl rfl rfl hKW.2.1.1 (hts _ (List.mem_cons_of_mem _ zl_t7.2.2.1)) (by decide +kernel) ⟨Nat.le_trans (Nat.le_of_ble_eq_true rfl) hfr, Nat.le_trans (Nat.le_of_ble_eq_true rfl) hlo⟩, rfl, hts _ (List.mem_cons_of_mem _ zl_t7.2.2.2)⟩ ⟨pwB, fun U hU hW => ⟨rfl, PW.of hU hW hKW hPc hDc⟩⟩ rfl rfl hl.1 rfl (lv_room (Nat.le_of_ble_eq_true rfl)) dX11_image_29 ⟨by omega, by omega⟩) hS1 (fun q _ h9 => hFc q h9) hFc (fun u t H2 locs2 ht hvm _ hB hz2 hk2 hS2 => ?_)
    obtain ⟨q_1, q_7, q_8, q_33, q_48, q_6, q_9, q_21, q_14, q_15, q_16, q_17, q_18, q_19, q_20, q_26, q_27, q_28, q_29, q_30, q_31, q_32, q_34, q_41, q_39, q_40, q_46, q_47, q_49, q_58, q_54, q_55, q_56, q_57, q_63, q_64, q_65, q_66, hP2, hD2⟩ := hB
    rw [ht] at hP2
    refine W.widen (k := 39) (n := 1090) (by decide +kernel) (by decide +kernel) ?_
    refine W_sz (fun hsz2 => ?_)
    generalize hAD : (fun i => ([q3, q_1, q_6, q_7, q_8, q_9, q_14, q_15, q_16, q_17, q_18, q_19, q_20, q_21, q_26, q_27, q_28, q_29, q_30, q_31, q_32, q_33, q_34, q_39, q_40, q_41, q_46, q_47, q_48, q_49, q_54, q_55, q_56, q_57, q_58, q_63, q_64, q_65, q_66] : List Nat).getD i 0) = AD
    have hat := zi2_at hP2
    rw [hAD] at hat
    have hj : zinj 39 AD := by rw [← hAD]; exact zAD_inj hD2
    have hAA : ∀ i, i < 39 → AD i = q3 ∨ H1.size ≤ AD i := fun i hi => by rw [← hAD]; exact z_vaA1 (zAD_A hD2 hi)
    have hAl : ∀ i, i < 39 → AD i < H2.size := fun i hi => by rw [← hAD]; exact zAD_lt hP2 hi
    have hA0 : AD 0 = q3 := by rw [← hAD]; rfl
    clear hP2 hD2 hAD
    have hAb : ∀ i, i < 39 → s.heap.size ≤ AD i := fun i hi => by
      rcases hAA i hi with h9 | h9
      · omega
      · have := hS1.1
        omega
    have hAL : ∀ i, i < 39 → AD i ∉ L := fun i hi h9 => by
      rcases hAA i hi with h8 | h8
      · rw [h8] at h9
        exact hq3 h9
      · have := zH_lt hH1 h9
        omega
    have hH2 : zH η zkds D vwCl cy L Θ h H2 := zH_kept hH1 (fun q hq => hk2 q (zH_lt hH1 hq) (fun h9 => by
      rcases z_vaA1 h9 with h8 | h8
      · rw [h8] at hq
        exact hq3 hq
      · have := zH_lt hH1 hq
        omega))
    have hlt : ∀ i, i < 39 → AD i < base + 1000000 := fun i hi => by
      have := hAl i hi
      omega
    have hlb : ∀ i, i < 39 → base ≤ AD i := fun i hi => by
      have := hAb i hi
      omega
    have hno : ∀ i, i < 39 → Θ (AD i - base) = none := fun i hi => zΘ_none hη hH2 hN (hlb i hi) (hlt i hi) (hAL i hi)
    have hW2 := zH_new (AD := AD) hη hH2 zTi2_ok zTi2_ox hj hlb hlt hno hAL hat
    have hnd2 : (L ++ (List.range zTi2.length).map AD).Nodup := z_ndnew hnd hj hAL
    have hN2 : zNm (zTh zTi2 (fun i => AD i - base) Θ) := zNm_app hN zTi_ns.2.2.1 (fun i k hi hk h9 => hj i k hi hk (by
      have := hlb i hi
      have := hlb k hk
      have h8 : AD i - base = AD k - base := h9
      omega)) (fun i hi => by
      have := hlt i hi
      have := hlb i hi
      show AD i - base < 1000000
      omega)
    have hold : ∀ q kk, Θ q = some kk → zTh zTi2 (fun i => AD i - base) Θ q = some kk ∧ zhh zkds zTi2 (fun i => AD i - base) h q = h q := fun q kk hq => by
      have hne : ∀ i, i < zTi2.length → (fun i => AD i - base) i ≠ q := fun i hi h9 => by
        have := hno i hi
        simp only at h9
        rw [h9, hq] at this
        cases this
      exact ⟨by rw [zTh_ne hne]; exact hq, zhh_ne hne⟩
    have hn0 : zTh zTi2 (fun i => AD i - base) Θ (AD 0 - base) = some (29 + 2) := zTh_at (T := zTi2) (cd := fun i => AD i - base) (i := 0) (fun i k hi hk h9 => hj i k hi hk (by
      have := hlb i hi
      have := hlb k hk
      have h8 : AD i - base = AD k - base := h9
      omega)) (by decide)
    have hη0 : η.1 (AD 0 - base) = q3 := by
      have h8 := hlt 0 (by decide)
      have h9 := hlb 0 (by decide)
      rw [hη, zη1 (by omega)]
      omega
    generalize hΘ2 : zTh zTi2 (fun i => AD i - base) Θ = Θ2 at hW2 hN2 hold hn0
    generalize hh2 : zhh zkds zTi2 (fun i => AD i - base) h = h2 at hW2 hold
    generalize hL2 : L ++ (List.range zTi2.length).map AD = L2 at hW2 hnd2
    have hLL2 : ∀ q ∈ L, q ∈ L2 := fun q hq => by rw [← hL2]; exact List.mem_append_left _ hq
    have hL2A : ∀ q ∈ L2, q ∈ L ∨ s.heap.size ≤ q := fun q hq => by
      rw [← hL2] at hq
      rcases List.mem_append.mp hq with h9 | h9
      · exact Or.inl h9
      · obtain ⟨i, hi, rfl⟩ := List.mem_map.mp h9
        exact Or.inr (hAb i (List.mem_range.mp hi))
    have hA2 : ∀ q ∈ L2, A q := fun q hq => by rw [hAe]; exact hL2A q hq
    obtain ⟨im, him0⟩ : ∃ im : Nat, im = (h a 1).toNat := ⟨_, rfl⟩
    rw [← him0]
    have hΘi : Θ im = some 62 := by rw [him0]; exact c1.2
    have h2a := hold a 63 ha
    have h2i := hold im 62 hΘi
    have hai : a ≠ im := fun h9 => by rw [h9, hΘi] at ha; cases ha
    obtain ⟨p0, hp0⟩ := zH_get hW2 h2i.1 zkd_62 (by decide)
    obtain ⟨pk, hpk⟩ := zH_get hW2 hn0 zkd_31 (by decide)
    have hD2 : va_D A ([] ++ va_pl L2 (zF η zkds cy Θ2 h2)) := z_D hnd2 hA2
    have hp0' := hp0
    rw [zE_q rfl] at hp0
    rw [zE_o rfl, hη0] at hpk
    obtain ⟨v1, v2⟩ := z_vin (i := x) (n := 3) (by omega) (by omega)
    have ek : x.toNatClampNeg = 2 := by rw [v2]; omega
    refine va_astq hx hb hKa hW2.1 hD2 hS2 p0 6 pk 9 hp0 rfl hpk rfl v1 dX11_image_32 (fun H3 locs3 hP3 hD3 hS3 => ?_)
    rw [ek, ← hη0, ← zup_q] at hP3
    have hcd : (AD 0 - base : Nat) < 1000000 := by
      have h8 := hlt 0 (by decide)
      have h9 := hlb 0 (by decide)
      omega
    have hW3 : zH η zkds D vwCl cy L2 Θ2 (zup h2 im 2 ((AD 0 - base : Nat) : Int)) H3 := zH_put hW2 hD2 h2i.1 zkd_62 (by decide) (by decide) (by
      refine ⟨Or.inr ⟨Int.natCast_nonneg _, by rw [Int.toNat_natCast]; exact hn0⟩, ?_, ?_⟩
      · show (-1 : Int) ≤ _
        omega
      · show _ ≤ (2147483647 : Int)
        omega) hp0' (by rw [zE_q rfl]; exact hP3)
    generalize hh3 : zup h2 im 2 ((AD 0 - base : Nat) : Int) = h3 at hW3
    have g3 : ∀ q kk j, Θ q = some kk → ¬ (q = im ∧ j = 2) → h3 q j = h q j := fun q kk j hq hne => by rw [← hh3, zup_ne hne, (hold q kk hq).2]
    have g3i : h3 im 2 = ((AD 0 - base : Nat) : Int) := by rw [← hh3, zup_at]
    have hI : cIm h3 a 2 = ((AD 0 - base : Nat) : Int) := by
      unfold cIm
      rw [g3 a 63 1 ha (fun h9 => hai h9.1), ← him0]
      exact g3i
    refine img_tl2 hη S hKW hZ hW3 hnd2 (fun q hq => (hL2A q hq).elim (fun h9 => hLb q h9) (fun h9 => by omega)) hN2 h2a.1 (by rw [hI]; exact Int.natCast_nonneg _) hA2 hS3 (fun q h8 h9 => hS3.2.1 q h8 (fun h7 => by
      rw [hAe] at h7
      rcases h7 with h7 | h7
      · exact h9 (hLL2 q h7)
      · omega)) ⟨hRc.1, hRc.2⟩ (by omega) (by omega) hl hxk (fun h' H4 locs4 hW4 hR4 hz4 hq4 hS4 => ?_)
    refine K H4 locs4 ⟨L2, Θ2, h', hW4, hnd2, hLL2, hL2A, hN2, h2a.1, ?_⟩ hS4
    have e0 : cLn h3 a = cLn h a := by
      have p0 := cP0 hH ha
      have p2 := cP2 hH ha
      unfold cLn
      rw [g3 a 63 0 ha (fun h9 => hai h9.1), g3 _ 28 0 p0.2 (fun h9 => by rw [h9.1, hΘi] at p0; cases p0.2), g3 _ 1 1 p2.2 (fun h9 => by rw [h9.1, hΘi] at p2; cases p2.2)]
    obtain ⟨r1, r2⟩ := hR4
    refine ⟨r1.trans e0, fun k hk => ⟨fun h9 => ?_, fun h9 => ?_⟩⟩
    · obtain ⟨r3, r4⟩ := (r2 k hk).1 h9
      exact ⟨r3, r4.trans e0⟩
    · obtain ⟨r3, r4⟩ := (r2 k hk).2 h9
      have e5 : cIm h3 a k = cIm h a k := by
        unfold cIm
        rw [g3 a 63 1 ha (fun h9 => hai h9.1), ← him0]
        exact g3 im 62 k hΘi (fun h8 => h9 (by rw [h8.2]; rfl))
      refine ⟨r3.trans e5, fun h8 => ?_⟩
      rw [r4 (by rw [e5]; exact h8)]
      have p1 : Θ (cIm h a k).toNat = some (29 + k) := by
        rcases cP4 hH ha hk with q | q
        · omega
        · exact q.2
      have p2 := cP5 hH hk p1
      unfold cIl
      rw [e5, g3 _ (29 + k) 0 p1 (fun h7 => by rw [h7.1, hΘi] at p1; have := Option.some.inj p1; omega), g3 _ (3 + 2 * k) 1 p2.2 (fun h7 => by rw [h7.1, hΘi] at p2; have := Option.some.inj p2.2; omega)]
  · have ei : va_rf (zrf η (h (h a 1).toNat 2)) = .ref (η.1 (cIm h a 2).toNat) := z_dx (η := η) (29 + 2) him
    rw [ei]
    refine lv_ifnonnull (tgt := 33) hx hb dX11_image_17 (by decide) ?_
    refine W.widen (k := 39) (n := 1090) (by decide +kernel) (by decide +kernel) ?_
    refine img_tl2 hη S hKW hZ hH hnd hLb hN ha him hLA hS (fun q _ _ => rfl) ⟨hRc.1, hRc.2⟩ (by omega) (by omega) hl hxk (fun h' H4 locs4 hW4 hR4 hz4 hq4 hS4 => ?_)
    exact K H4 locs4 ⟨L, Θ, h', hW4, hnd, fun q hq => hq, fun q hq => Or.inl hq, hN, ha, hR4⟩ hS4
set_option maxHeartbeats 4000000 in
set_option maxRecDepth 100000 in
theorem c_img (l : Launch) {D : va_G} {cy : Nat → ClassId} {L : List Nat} {Θ : Nat → Option Nat} {h : Nat → Nat → Int} {base : Nat} {tb adK adV : Nat → Nat} {fv : Option Nat} {a sz : Nat} {x : Int32} (hη : η = zη base adK) (hnd : L.Nodup) (hLb : ∀ q ∈ L, base ≤ q) (hbs : base ≤ sz) (hsb : sz ≤ base + 900000) (hN : zNm Θ) (ha : Θ a = some 63) :
    Met l yX11_image (Cond.code yX11_image cX11_image 2 (some .boolean) :: zTW) ({ frames := 4, cells := 39, slots := 1090, locals := 100 } : Room) (va_Pc [.ref (η.1 a), .int x] (fun U => U.heap.size = sz ∧ zH η zkds D vwCl cy L Θ h U.heap ∧ KW D cy U ∧ zS0 base tb adK adV fv U)) (va_Qi (fun v (_ : Unit) => v = if 0 ≤ x.toInt ∧ x.toInt < 3 then 1 else 0) (fun _ t => imgB η D cy L h a x.toInt sz t.heap) (fun q => q ∈ L ∨ sz ≤ q)) 39 1090 (fun q => q ∈ L ∨ sz ≤ q) := by
  refine Met.ofW (cc := cX11_image) (maxL := 2) (ret := (some .boolean)) (by decide) rfl ?_
  intro p e s m args below meth c s₁ B hml hv
  obtain ⟨rfl, hsz, hH, hKW, hZ⟩ := hv
  have hx := B.exec
  have hb := B.bytes
  have hr := B.returns
  have hts := atoms_spec (ws := Cond.code yX11_image cX11_image 2 (some .boolean) :: zTW) B.pre
  have hown : s.vm.findClass RX11 = some m.cls := findClass_of_methodNamed B.named
  have hlocks := B.notSynchronized
  subst hsz
  have hl := lv_entry ([.ref (η.1 a), .int x]) (n := 2) (Nat.le_of_ble_eq_true rfl)
  rw [lg_entry_eq]
  generalize (lg_sl ([.ref (η.1 a), .int x]) ++ List.replicate (2 - (lg_sl ([.ref (η.1 a), .int x])).length) Slot.unset).toArray = ls at hl ⊢
  have hl : lv_has ls 2 [(0, .ref (η.1 a)), (1, .int x)] := hl
  have hS0 : va_S (fun q => q ∈ L ∨ s.heap.size ≤ q) s.heap s.heap [] := va_S.rf
  have none0 : ∀ (hne : ∀ k : Nat, k < 3 → x.toInt ≠ (k : Int)), imgB η D cy L h a x.toInt s.heap.size s.heap := fun hne => ⟨L, Θ, h, hH, hnd, fun q hq => hq, fun q hq => Or.inl hq, hN, ha, rfl, fun k hk => ⟨fun h9 => absurd h9 (hne k hk), fun _ => ⟨rfl, fun _ => rfl⟩⟩⟩
  have z0 : (0 : Int32).toInt = 0 := rfl
  have z3 : (3 : Int32).toInt = 3 := rfl
  refine lv_iload_n hx hb dX11_image_0 rfl (lv_at hl 1 rfl) ?_
  refine lv_if_lt (tgt := 9) hx hb dX11_image_1 (by decide) (fun c_1 => ?_) (fun c_1 => ?_)
  · have h1 := Int32.lt_iff_toInt_lt.mp c_1
    refine lv_iconst (v := 0) hx hb dX11_image_9 (by decide +kernel) ?_
    refine W.widen (k := 39) (n := 1090) (by decide +kernel) (by decide +kernel) ?_
    exact W.zret (v := 0) hx hb hr (rfl) (fun t ht hW => ⟨⟨0, (), rfl, (if_neg (by omega)).symm, by show imgB η D cy L h a x.toInt s.heap.size t.heap; rw [ht]; exact none0 (fun k hk => by omega)⟩, hS0.F ht⟩) hS0.2.2 dX11_image_10
  · have h1 : ¬ x.toInt < 0 := fun h9 => c_1 (Int32.lt_iff_toInt_lt.mpr (by rw [z0]; exact h9))
    refine lv_iload_n hx hb dX11_image_4 rfl (lv_at hl 1 rfl) ?_
    refine lv_iconst (v := 3) hx hb dX11_image_5 (by decide +kernel) ?_
    refine lv_icmp_lt (tgt := 11) hx hb dX11_image_6 (by decide) (fun c_2 => ?_) (fun c_2 => ?_)
    · have h2 := Int32.lt_iff_toInt_lt.mp c_2
      rw [z3] at h2
      have S : CallFix p m c cX11_image 2 s _ (Cond.code yX11_image cX11_image 2 (some .boolean) :: zTW) RX11 := ⟨hx, hb, hml, hown, hts⟩
      rcases (show x.toInt = 0 ∨ x.toInt = 1 ∨ x.toInt = 2 by omega) with hk | hk | hk
      · refine img_bd0 l hη S hKW hZ hH hnd hLb hbs hsb hN ha rfl ⟨by decide, by decide⟩ (by decide) (by decide) hl hk (fun H1 locs1 hB hS1 => ?_)
        refine lv_iconst (v := 1) hx hb dX11_image_46 (by decide +kernel) ?_
        exact W.zret (v := 1) hx hb hr (rfl) (fun t ht hW => ⟨⟨1, (), rfl, (if_pos (by omega)).symm, by show imgB η D cy L h a x.toInt s.heap.size t.heap; rw [ht, hk]; exact hB⟩, hS1.F ht⟩) hS1.2.2 dX11_image_47
      · refine img_bd1 l hη S hKW hZ hH hnd hLb hbs hsb hN ha rfl ⟨by decide, by decide⟩ (by decide) (by decide) hl hk (fun H1 locs1 hB hS1 => ?_)
        refine lv_iconst (v := 1) hx hb dX11_image_46 (by decide +kernel) ?_
        exact W.zret (v := 1) hx hb hr (rfl) (fun t ht hW => ⟨⟨1, (), rfl, (if_pos (by omega)).symm, by show imgB η D cy L h a x.toInt s.heap.size t.heap; rw [ht, hk]; exact hB⟩, hS1.F ht⟩) hS1.2.2 dX11_image_47
      · refine img_bd2 l hη S hKW hZ hH hnd hLb hbs hsb hN ha rfl ⟨by decide, by decide⟩ (by decide) (by decide) hl hk (fun H1 locs1 hB hS1 => ?_)
        refine lv_iconst (v := 1) hx hb dX11_image_46 (by decide +kernel) ?_
        exact W.zret (v := 1) hx hb hr (rfl) (fun t ht hW => ⟨⟨1, (), rfl, (if_pos (by omega)).symm, by show imgB η D cy L h a x.toInt s.heap.size t.heap; rw [ht, hk]; exact hB⟩, hS1.F ht⟩) hS1.2.2 dX11_image_47
    · have h2 : ¬ x.toInt < 3 := fun h9 => c_2 (Int32.lt_iff_toInt_lt.mpr (by rw [z3]; exact h9))
      refine lv_iconst (v := 0) hx hb dX11_image_9 (by decide +kernel) ?_
      refine W.widen (k := 39) (n := 1090) (by decide +kernel) (by decide +kernel) ?_
      exact W.zret (v := 0) hx hb hr (rfl) (fun t ht hW => ⟨⟨0, (), rfl, (if_neg (by omega)).symm, by show imgB η D cy L h a x.toInt s.heap.size t.heap; rw [ht]; exact none0 (fun k hk => by omega)⟩, hS0.F ht⟩) hS0.2.2 dX11_image_10
