theorem dX11_end_0 : decode cX11_end 0 = .ok (.iload_n 1, 1) := by decide +kernel
theorem dX11_end_1 : decode cX11_end 1 = .ok (.ifCond .lt 17, 3) := by decide +kernel
theorem dX11_end_4 : decode cX11_end 4 = .ok (.iload_n 1, 1) := by decide +kernel
theorem dX11_end_5 : decode cX11_end 5 = .ok (.aload_n 0, 1) := by decide +kernel
theorem dX11_end_6 : decode cX11_end 6 = .ok (.getfield 10, 3) := by decide +kernel
theorem dX11_end_9 : decode cX11_end 9 = .ok (.getfield 55, 3) := by decide +kernel
theorem dX11_end_12 : decode cX11_end 12 = .ok (.getfield 59, 3) := by decide +kernel
theorem dX11_end_15 : decode cX11_end 15 = .ok (.if_icmp .le 5, 3) := by decide +kernel
theorem dX11_end_18 : decode cX11_end 18 = .ok (.iconst (-1), 1) := by decide +kernel
theorem dX11_end_19 : decode cX11_end 19 = .ok (.ireturn, 1) := by decide +kernel
theorem dX11_end_20 : decode cX11_end 20 = .ok (.aload_n 0, 1) := by decide +kernel
theorem dX11_end_21 : decode cX11_end 21 = .ok (.getfield 10, 3) := by decide +kernel
theorem dX11_end_24 : decode cX11_end 24 = .ok (.getfield 55, 3) := by decide +kernel
theorem dX11_end_27 : decode cX11_end 27 = .ok (.iload_n 1, 1) := by decide +kernel
theorem dX11_end_28 : decode cX11_end 28 = .ok (.putfield 59, 3) := by decide +kernel
theorem dX11_end_31 : decode cX11_end 31 = .ok (.iload_n 1, 1) := by decide +kernel
theorem dX11_end_32 : decode cX11_end 32 = .ok (.ireturn, 1) := by decide +kernel
theorem dX12_end_0 : decode cX12_end 0 = .ok (.aload_n 0, 1) := by decide +kernel
theorem dX12_end_1 : decode cX12_end 1 = .ok (.iconst 0, 1) := by decide +kernel
theorem dX12_end_2 : decode cX12_end 2 = .ok (.putfield 117, 3) := by decide +kernel
theorem dX12_end_5 : decode cX12_end 5 = .ok (.iload_n 1, 1) := by decide +kernel
theorem dX12_end_6 : decode cX12_end 6 = .ok (.iconst 0, 1) := by decide +kernel
theorem dX12_end_7 : decode cX12_end 7 = .ok (.aload_n 0, 1) := by decide +kernel
theorem dX12_end_8 : decode cX12_end 8 = .ok (.getfield 13, 3) := by decide +kernel
theorem dX12_end_11 : decode cX12_end 11 = .ok (.iconst 0, 1) := by decide +kernel
theorem dX12_end_12 : decode cX12_end 12 = .ok (.iaload, 1) := by decide +kernel
theorem dX12_end_13 : decode cX12_end 13 = .ok (.invokestatic 129, 3) := by decide +kernel
theorem dX12_end_16 : decode cX12_end 16 = .ok (.ifCond .ne 5, 3) := by decide +kernel
theorem dX12_end_19 : decode cX12_end 19 = .ok (.iconst (-1), 1) := by decide +kernel
theorem dX12_end_20 : decode cX12_end 20 = .ok (.ireturn, 1) := by decide +kernel
theorem dX12_end_21 : decode cX12_end 21 = .ok (.aload_n 0, 1) := by decide +kernel
theorem dX12_end_22 : decode cX12_end 22 = .ok (.getfield 13, 3) := by decide +kernel
theorem dX12_end_25 : decode cX12_end 25 = .ok (.iconst 0, 1) := by decide +kernel
theorem dX12_end_26 : decode cX12_end 26 = .ok (.iload_n 1, 1) := by decide +kernel
theorem dX12_end_27 : decode cX12_end 27 = .ok (.iastore, 1) := by decide +kernel
theorem dX12_end_28 : decode cX12_end 28 = .ok (.iload_n 1, 1) := by decide +kernel
theorem dX12_end_29 : decode cX12_end 29 = .ok (.ireturn, 1) := by decide +kernel
variable {η : zRn}
/-! end(), of both: told to so many bytes, if so many are there -/
def endP (x : Int32) (n : Int) (v : Int32) : Prop := (0 ≤ x.toInt ∧ x.toInt ≤ n ∧ v = x) ∨ (¬ (0 ≤ x.toInt ∧ x.toInt ≤ n) ∧ v = -1)
theorem zcx0 {D : va_G} {cy : Nat → ClassId} {L : List Nat} {p : Program} {s : State} {m : MethodId} {args : Array Value} {c : Code} {cc : ByteArray} {nL : Nat} {Ts : List Cond} {own : String} (hx : p.tables.exec = Jvm.exec) (hb : c.code = cc) (hml : c.maxLocals = nL) (hts : ∀ w ∈ Ts, w.before args s = true) (hown : s.vm.findClass own = some m.cls) (hKW : KW D cy s) (hnd : L.Nodup) : hCx D vwCl cy L p s m args c cc nL (tyW cy) Ts own := ⟨hx, hb, hml, hts, hown, hKW.1, (zkpr_ok.1 ((id, id) : zRn) D cy L (fun _ => none) s hKW).2, hnd⟩
set_option maxHeartbeats 4000000 in
theorem c_end (l : Launch) {D : va_G} {cy : Nat → ClassId} {L : List Nat} {Θ : Nat → Option Nat} {h : Nat → Nat → Int} {a : Nat} {x : Int32} (hnd : L.Nodup) (ha : Θ a = some 63) :
    Met l yX11_end (Cond.code yX11_end cX11_end 2 (some .int) :: zTW) ({ frames := 0, cells := 0, slots := 0, locals := 0 } : Room) (va_Pc [.ref (η.1 a), .int x] (fun U => zH η zkds D vwCl cy L Θ h U.heap ∧ KW D cy U)) (va_Qi (fun v (h' : Nat → Nat → Int) => endP x (cLn h a) v ∧ (v = -1 → h' = h) ∧ (v ≠ -1 → h' = zup h (h (h a 0).toNat 0).toNat 1 x.toInt)) (fun h' t => zH η zkds D vwCl cy L Θ h' t.heap) (fun q => q ∈ L)) 0 0 (fun q => q ∈ L) := by
  refine Met.ofW (cc := cX11_end) (maxL := 2) (ret := (some .int)) (by decide) rfl ?_
  intro p e s m args below meth c s₁ B hml hv
  obtain ⟨rfl, hH, hKW⟩ := hv
  have hx := B.exec
  have hb := B.bytes
  have hr := B.returns
  have hts := atoms_spec (ws := Cond.code yX11_end cX11_end 2 (some .int) :: zTW) B.pre
  have hown : s.vm.findClass RX11 = some m.cls := findClass_of_methodNamed B.named
  have X := zcx0 (L := L) hx hb hml hts hown hKW hnd
  have hl := lv_entry ([.ref (η.1 a), .int x]) (n := 2) (Nat.le_of_ble_eq_true rfl)
  rw [lg_entry_eq]
  generalize (lg_sl ([.ref (η.1 a), .int x]) ++ List.replicate (2 - (lg_sl ([.ref (η.1 a), .int x])).length) Slot.unset).toArray = ls at hl ⊢
  have hl : lv_has ls 2 [(0, .ref (η.1 a)), (1, .int x)] := hl
  have hS0 : va_S (fun q => q ∈ L) s.heap s.heap [] := va_S.rf
  have mono : ∀ w ∈ zTW, w ∈ Cond.code yX11_end cX11_end 2 (some .int) :: zTW := fun w hw => List.mem_cons_of_mem _ hw
  have c0 := cP0 hH ha
  have c2 := cP2 hH ha
  have c3 := cP3 hH ha
  have z0 : (0 : Int32).toInt = 0 := rfl
  have elen : (Int32.ofInt (cLn h a)).toInt = cLn h a := z_toi (by omega) (by omega)
  have t0 : (zty (0, 11, 7, [(30, 0, 2147483647), (64, 0, 2147483647), (36, 0, 2147483647), (48, 0, 2147483647), (49, 0, 2147483647), (53, 0, 2147483647), (60, 0, 2147483647)]) 0).1 = 28 + 2 := rfl
  refine lv_iload_n hx hb dX11_end_0 rfl (lv_at hl 1 rfl) ?_
  refine lv_if_lt (tgt := 18) hx hb dX11_end_1 (by decide) (fun c_1 => ?_) (fun c_1 => ?_)
  · have h1 := Int32.lt_iff_toInt_lt.mp c_1
    refine lv_iconst (v := -1) hx hb dX11_end_18 (by decide +kernel) ?_
    exact W.iret (v := -1) hx hb hr (fun t ht hW => ⟨⟨-1, h, rfl, ⟨Or.inr ⟨by omega, rfl⟩, fun _ => rfl, fun q => absurd rfl q⟩, by show zH η zkds D vwCl cy L Θ h t.heap; rw [ht]; exact hH⟩, hS0.F ht⟩) hS0.2.2 dX11_end_19
  · have h1 : ¬ x.toInt < 0 := fun h9 => c_1 (Int32.lt_iff_toInt_lt.mpr (by rw [z0]; exact h9))
    refine lv_iload_n hx hb dX11_end_4 rfl (lv_at hl 1 rfl) ?_
    refine lv_aload_n hx hb dX11_end_5 rfl (lv_at hl 0 rfl) ?_
    refine hw_get X (zFok_mono mono zf_RX11_10) ha zkd_63 ⟨rfl, rfl⟩ (by decide) hH dX11_end_6 ?_
    rw [t0, z_dx 28 c0.1]
    refine hw_get X (zFok_mono mono zf_RX11_55) c0.2 zkd_28 ⟨rfl, rfl⟩ (by decide) hH dX11_end_9 ?_
    rw [show (zty (0, 9, 7, [(3, 0, 2147483647), (26, 0, 2147483647), (27, 0, 2147483647), (28, 0, 2147483647), (29, 0, 2147483647), (0, (-2147483648), 2147483647), (0, (-2147483648), 2147483647)]) 0).1 = 1 + 2 from rfl, z_dx 1 c2.1]
    refine hw_get X (zFok_mono mono zf_RX11_59) c2.2 zkd_1 ⟨rfl, rfl⟩ (by decide) hH dX11_end_12 ?_
    show W p l e _ s m _ below meth c s.heap [] 0 0 _ (F0 m 15 ls [.int (Int32.ofInt (cLn h a)), .int x])
    refine lv_icmp_le (tgt := 20) hx hb dX11_end_15 (by decide) (fun c_2 => ?_) (fun c_2 => ?_)
    · have h2 := Int32.le_iff_toInt_le.mp c_2
      rw [elen] at h2
      refine lv_aload_n hx hb dX11_end_20 rfl (lv_at hl 0 rfl) ?_
      refine hw_get X (zFok_mono mono zf_RX11_10) ha zkd_63 ⟨rfl, rfl⟩ (by decide) hH dX11_end_21 ?_
      rw [t0, z_dx 28 c0.1]
      refine hw_get X (zFok_mono mono zf_RX11_55) c0.2 zkd_28 ⟨rfl, rfl⟩ (by decide) hH dX11_end_24 ?_
      rw [show (zty (0, 9, 7, [(3, 0, 2147483647), (26, 0, 2147483647), (27, 0, 2147483647), (28, 0, 2147483647), (29, 0, 2147483647), (0, (-2147483648), 2147483647), (0, (-2147483648), 2147483647)]) 0).1 = 1 + 2 from rfl, z_dx 1 c2.1]
      refine lv_iload_n hx hb dX11_end_27 rfl (lv_at hl 1 rfl) ?_
      have ex : (.int x : Value) = zdec η (zty (0, 8, 2, [(2, 0, 2147483647), (0, 0, 600)]) 1).1 x.toInt := by
        show _ = Value.int (Int32.ofInt x.toInt)
        rw [z_ofi]
      refine tp_v _ ex ?_
      refine hw_put X (zFok_mono mono zf_RX11_59) c2.2 zkd_1 ⟨rfl, rfl⟩ (by decide) rfl ⟨⟨z_lo _, z_hi _⟩, by show 0 ≤ x.toInt; omega, by show x.toInt ≤ 600; omega⟩ hH hS0 dX11_end_28 (fun H1 locs1 hH1 hS1 => ?_)
      refine lv_iload_n hx hb dX11_end_31 rfl (lv_at hl 1 rfl) ?_
      have hne : x ≠ -1 := fun q => by
        have : x.toInt = -1 := by rw [q]; rfl
        omega
      exact W.iret (v := x) hx hb hr (fun t ht hW => ⟨⟨x, _, rfl, ⟨Or.inl ⟨by omega, h2, rfl⟩, fun q => absurd q hne, fun _ => rfl⟩, by show zH η zkds D vwCl cy L Θ _ t.heap; rw [ht]; exact hH1⟩, hS1.F ht⟩) hS1.2.2 dX11_end_32
    · have h2 : ¬ x.toInt ≤ cLn h a := fun h9 => c_2 (Int32.le_iff_toInt_le.mpr (by rw [elen]; exact h9))
      refine lv_iconst (v := -1) hx hb dX11_end_18 (by decide +kernel) ?_
      exact W.iret (v := -1) hx hb hr (fun t ht hW => ⟨⟨-1, h, rfl, ⟨Or.inr ⟨by omega, rfl⟩, fun _ => rfl, fun q => absurd rfl q⟩, by show zH η zkds D vwCl cy L Θ h t.heap; rw [ht]; exact hH⟩, hS0.F ht⟩) hS0.2.2 dX11_end_19
set_option maxHeartbeats 4000000 in
theorem r_end (l : Launch) {D : va_G} {cy : Nat → ClassId} {M : List Nat} {Ξ : Nat → Option Nat} {g : Nat → Nat → Int} {r : Nat} {x : Int32} (hnd : M.Nodup) (hr35 : Ξ r = some 35) :
    Met l yX12_end (Cond.code yX12_end cX12_end 2 (some .int) :: zTW) ({ frames := 1, cells := 0, slots := 0, locals := 22 } : Room) (va_Pc [.ref (η.1 r), .int x] (fun U => zH η zkdm D vwCl cy M Ξ g U.heap ∧ KW D cy U)) (va_Qi (fun v (g' : Nat → Nat → Int) => endP x (rSz g r 0) v ∧ (v = -1 → g' = zup g r 0 0) ∧ (v ≠ -1 → g' = zup (zup g r 0 0) (g r 2).toNat 0 x.toInt)) (fun g' t => zH η zkdm D vwCl cy M Ξ g' t.heap) (fun q => q ∈ M)) 0 0 (fun q => q ∈ M) := by
  refine Met.ofW (cc := cX12_end) (maxL := 2) (ret := (some .int)) (by decide) rfl ?_
  intro p e s m args below meth c s₁ B hml hv
  obtain ⟨rfl, hG, hKW⟩ := hv
  have hx := B.exec
  have hb := B.bytes
  have hr := B.returns
  have hts0 := atoms_spec (ws := Cond.code yX12_end cX12_end 2 (some .int) :: zTW) B.pre
  have hts : ∀ w ∈ zTW, w.before _ s = true := fun w hw => hts0 w (List.mem_cons_of_mem _ hw)
  have hown : s.vm.findClass RX12 = some m.cls := findClass_of_methodNamed B.named
  have X := zcx0 (L := M) hx hb hml hts hown hKW hnd
  have hl := lv_entry ([.ref (η.1 r), .int x]) (n := 2) (Nat.le_of_ble_eq_true rfl)
  rw [lg_entry_eq]
  generalize (lg_sl ([.ref (η.1 r), .int x]) ++ List.replicate (2 - (lg_sl ([.ref (η.1 r), .int x])).length) Slot.unset).toArray = ls at hl ⊢
  have hl : lv_has ls 2 [(0, .ref (η.1 r)), (1, .int x)] := hl
  have hS0 : va_S (fun q => q ∈ M) s.heap s.heap [] := va_S.rf
  have z0 : (0 : Int32).toInt = 0 := rfl
  refine lv_aload_n hx hb dX12_end_0 rfl (lv_at hl 0 rfl) ?_
  refine lv_iconst (v := 0) hx hb dX12_end_1 (by decide +kernel) ?_
  have ez : (.int 0 : Value) = zdec η (zty (zkdm.getD 35 (0, 0, 0, [])) 0).1 0 := rfl
  refine tp_v _ ez ?_
  refine hw_put X zf_RX12_117 hr35 zkm_35 ⟨rfl, rfl⟩ (by decide +kernel) rfl ⟨⟨by decide, by decide⟩, by decide +kernel, by decide +kernel⟩ hG hS0 dX12_end_2 (fun H1 locs1 hG1 hS1 => ?_)
  have p2 := rP2 hG1 hr35
  have e2 : zup g r 0 0 r 2 = g r 2 := zup_ne (fun q => by cases q.2)
  have q2 := rP2 hG hr35
  have hne2 : (g r 2).toNat ≠ r := fun q => by rw [q, hr35] at q2; cases q2.2
  have es : zup g r 0 0 (g r 2).toNat 0 = rSz g r 0 := zup_ne (fun q => hne2 q.1)
  have bs := rBs hG hr35 (k := 0) (by decide)
  rw [e2] at p2
  have elen : (Int32.ofInt (rSz g r 0)).toInt = rSz g r 0 := z_toi (by omega) (by omega)
  refine lv_iload_n hx hb dX12_end_5 rfl (lv_at hl 1 rfl) ?_
  refine lv_iconst (v := 0) hx hb dX12_end_6 (by decide +kernel) ?_
  refine lv_aload_n hx hb dX12_end_7 rfl (lv_at hl 0 rfl) ?_
  refine hw_get X zf_RX12_13 hr35 zkm_35 ⟨rfl, rfl⟩ (by decide +kernel) hG1 dX12_end_8 ?_
  rw [show (zty (zkdm.getD 35 (0, 0, 0, [])) 2).1 = 1 + 2 from rfl, e2, z_dx 1 p2.1]
  refine lv_iconst (v := 0) hx hb dX12_end_11 (by decide +kernel) ?_
  refine hw_iald X p2.2 zkm_1 ⟨rfl, rfl⟩ ⟨by decide, by decide⟩ hG1 dX12_end_12 ?_
  rw [show (0 : Int32).toInt.toNat = 0 from rfl, es]
  refine hw_in X hl.1 (by decide) (by decide) (by decide) zl_RX12_129 dX12_end_13 ?_
  by_cases hc : (0 : Int32) ≤ x ∧ x ≤ Int32.ofInt (rSz g r 0)
  · rw [if_pos hc]
    have h1 := Int32.le_iff_toInt_le.mp hc.1
    have h2 := Int32.le_iff_toInt_le.mp hc.2
    rw [z0] at h1
    rw [elen] at h2
    refine lv_if_ne (tgt := 21) hx hb dX12_end_16 (by decide) (fun _ => ?_) (fun q => absurd q (by decide))
    refine lv_aload_n hx hb dX12_end_21 rfl (lv_at hl 0 rfl) ?_
    refine hw_get X zf_RX12_13 hr35 zkm_35 ⟨rfl, rfl⟩ (by decide +kernel) hG1 dX12_end_22 ?_
    rw [show (zty (zkdm.getD 35 (0, 0, 0, [])) 2).1 = 1 + 2 from rfl, e2, z_dx 1 p2.1]
    refine lv_iconst (v := 0) hx hb dX12_end_25 (by decide +kernel) ?_
    refine lv_iload_n hx hb dX12_end_26 rfl (lv_at hl 1 rfl) ?_
    refine hw_iast X p2.2 zkm_1 ⟨rfl, rfl⟩ ⟨by decide, by decide⟩ ⟨⟨z_lo _, z_hi _⟩, by show 0 ≤ x.toInt; omega, by show x.toInt ≤ 600; omega⟩ hG1 hS1 dX12_end_27 (fun H2 locs2 hG2 hS2 => ?_)
    refine lv_iload_n hx hb dX12_end_28 rfl (lv_at hl 1 rfl) ?_
    have hne : x ≠ -1 := fun q => by
      have : x.toInt = -1 := by rw [q]; rfl
      omega
    exact W.iret (v := x) hx hb hr (fun t ht hW => ⟨⟨x, _, rfl, ⟨Or.inl ⟨by omega, h2, rfl⟩, fun q => absurd q hne, fun _ => rfl⟩, by show zH η zkdm D vwCl cy M Ξ _ t.heap; rw [ht]; exact hG2⟩, hS2.F ht⟩) hS2.2.2 dX12_end_29
  · rw [if_neg hc]
    refine lv_if_ne (tgt := 21) hx hb dX12_end_16 (by decide) (fun q => absurd rfl q) (fun _ => ?_)
    refine lv_iconst (v := -1) hx hb dX12_end_19 (by decide +kernel) ?_
    exact W.iret (v := -1) hx hb hr (fun t ht hW => ⟨⟨-1, _, rfl, ⟨Or.inr ⟨fun q => hc ⟨Int32.le_iff_toInt_le.mpr (by rw [z0]; exact q.1), Int32.le_iff_toInt_le.mpr (by rw [elen]; exact q.2)⟩, rfl⟩, fun _ => rfl, fun q => absurd rfl q⟩, by show zH η zkdm D vwCl cy M Ξ _ t.heap; rw [ht]; exact hG1⟩, hS1.F ht⟩) hS1.2.2 dX12_end_20
