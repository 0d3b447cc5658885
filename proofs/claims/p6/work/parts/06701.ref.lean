variable {η : zRn}
/-! findSoon: the whole -/
theorem zyt_418 : Cond.methodLink RX12 418 yX12_couldFrom ∈ zTW := zTin 1808 (by decide +kernel) rfl
theorem zyt_400 : Cond.methodLink RX12 400 yX12_driftAll ∈ zTW := zTin 1760 (by decide +kernel) rfl
theorem z_len6 {l : List Int} (h : l.length = 6) : ∃ x0 x1 x2 x3 x4 x5, l = [x0, x1, x2, x3, x4, x5] := by
  match l, h with
  | [x0, x1, x2, x3, x4, x5], _ => exact ⟨x0, x1, x2, x3, x4, x5, rfl⟩
theorem z_fr_may {D : va_G} {cy : Nat → ClassId} {L : List Nat} {Θ : Nat → Option Nat} {h : Nat → Nat → Int} {H : Heap} (hH : zH η zkdm D vwCl cy L Θ h H) {a : Nat} (ha : Θ a = some 35) : ∃ b : Nat, h a 52 = (b : Int) ∧ Θ b = some 27 := by
  have h1 := zH_in hH ha zkm (j := 52) (by decide)
  rw [zty_may] at h1
  obtain ⟨k1, k2, -⟩ := h1
  simp only at k2
  have k3 : 0 ≤ h a 52 ∧ Θ (h a 52).toNat = some 27 := by
    rcases k1 with k1 | k1
    · omega
    · exact k1
  exact ⟨(h a 52).toNat, by omega, k3.2⟩
theorem z_fr_well {D : va_G} {cy : Nat → ClassId} {L : List Nat} {Θ : Nat → Option Nat} {h : Nat → Nat → Int} {H : Heap} (hH : zH η zkdm D vwCl cy L Θ h H) {a : Nat} (ha : Θ a = some 35) : ∃ b : Nat, h a 53 = (b : Int) ∧ Θ b = some 28 := by
  have h1 := zH_in hH ha zkm (j := 53) (by decide)
  rw [zty_well] at h1
  obtain ⟨k1, k2, -⟩ := h1
  simp only at k2
  have k3 : 0 ≤ h a 53 ∧ Θ (h a 53).toNat = some 28 := by
    rcases k1 with k1 | k1
    · omega
    · exact k1
  exact ⟨(h a 53).toNat, by omega, k3.2⟩
theorem z_fr_boatAt {D : va_G} {cy : Nat → ClassId} {L : List Nat} {Θ : Nat → Option Nat} {h : Nat → Nat → Int} {H : Heap} (hH : zH η zkdm D vwCl cy L Θ h H) {a : Nat} (ha : Θ a = some 35) : ∃ b : Nat, h a 30 = (b : Int) ∧ Θ b = some 10 := by
  have h1 := zH_in hH ha zkm (j := 30) (by decide)
  rw [zty_boatAt] at h1
  obtain ⟨k1, k2, -⟩ := h1
  simp only at k2
  have k3 : 0 ≤ h a 30 ∧ Θ (h a 30).toNat = some 10 := by
    rcases k1 with k1 | k1
    · omega
    · exact k1
  exact ⟨(h a 30).toNat, by omega, k3.2⟩
theorem z_fr_rows {D : va_G} {cy : Nat → ClassId} {L : List Nat} {Θ : Nat → Option Nat} {h : Nat → Nat → Int} {H : Heap} (hH : zH η zkdm D vwCl cy L Θ h H) {a : Nat} (ha : Θ a = some 35) : ∃ b : Nat, h a 54 = (b : Int) ∧ Θ b = some 26 := by
  have h1 := zH_in hH ha zkm (j := 54) (by decide)
  rw [zty_rows] at h1
  obtain ⟨k1, k2, -⟩ := h1
  simp only at k2
  have k3 : 0 ≤ h a 54 ∧ Θ (h a 54).toNat = some 26 := by
    rcases k1 with k1 | k1
    · omega
    · exact k1
  exact ⟨(h a 54).toNat, by omega, k3.2⟩
set_option maxHeartbeats 16000000 in
set_option maxRecDepth 100000 in
theorem zfs_all (l : Launch) (η : zRn) (D : va_G) (cy : Nat → ClassId) (L : List Nat) (Θ : Nat → Option Nat) (h : Nat → Nat → Int) (a b0 sh : Nat) (x4 x5 : Int) (hnd : L.Nodup) (ha : Θ a = some 35) (haM : (a : Int) ≤ 2147483647) (hb5 : b0 ≤ 5) (hs5 : sh ≤ 5) (h23 : 0 ≤ h a 23 ∧ h a 23 ≤ 1) (h24 : 2 ≤ h a 24 ∧ h a 24 ≤ 8)
    (hE0 : zge [0, (a : Int), (b0 : Int), (sh : Int), x4, x5] [(0, 0), (0, 2147483647), (0, 5), (0, 5), (0, 1), (2, 8)]) :
    Met l yX12_findSoon (Cond.code yX12_findSoon cX12_findSoon 8 (some .int) :: zTW) ({ frames := 6, cells := 0, slots := 0, locals := 139 } : Room) (va_Pc [.ref (η.1 a), .int (Int32.ofInt (b0 : Int)), .int (Int32.ofInt (sh : Int))] (fun U : State => zH η zkdm D vwCl cy L Θ h U.heap ∧ zKPr η D cy L Θ U)) (zQ η zkdm D vwCl cy L Θ h [0, (a : Int), (b0 : Int), (sh : Int), x4, x5] zk_X12_findSoon_0.2.2.2.1 zk_X12_findSoon_0.2.2.2.2) 0 0 (fun q => q ∈ L) := by
  refine Met.ofW (cc := cX12_findSoon) (maxL := 8) (ret := (some .int)) (by decide +kernel) rfl ?_
  intro p e s m args below meth c s₁ B hml hv
  obtain ⟨rfl, hH, hKW⟩ := hv
  have hx := B.exec
  have hb := B.bytes
  have hr := B.returns
  have hts0 := atoms_spec (ws := Cond.code yX12_findSoon cX12_findSoon 8 (some .int) :: zTW) B.pre
  have hts : ∀ w ∈ zTW, w.before _ s = true := fun w hw => hts0 w (List.mem_cons_of_mem _ hw)
  have hown : s.vm.findClass RX12 = some m.cls := findClass_of_methodNamed B.named
  have hlocks := B.notSynchronized
  have hl := lv_entry ([.ref (η.1 a), .int (Int32.ofInt (b0 : Int)), .int (Int32.ofInt (sh : Int))]) (n := 8) (Nat.le_of_ble_eq_true rfl)
  rw [lg_entry_eq]
  generalize (lg_sl ([.ref (η.1 a), .int (Int32.ofInt (b0 : Int)), .int (Int32.ofInt (sh : Int))]) ++ List.replicate (8 - (lg_sl ([.ref (η.1 a), .int (Int32.ofInt (b0 : Int)), .int (Int32.ofInt (sh : Int))])).length) Slot.unset).toArray = ls at hl ⊢
  have hl : lv_has ls 8 [(0, .ref (η.1 a)), (1, .int (Int32.ofInt (b0 : Int))), (2, .int (Int32.ofInt (sh : Int)))] := hl
  have hTT := (zkpr_ok.1 η D cy L Θ s hKW).2
  have X : hCx D vwCl cy L p s m _ c cX12_findSoon 8 (tyW cy) zTW RX12 := ⟨hx, hb, hml, hts, hown, hKW.1, hTT, hnd⟩
  have hf : 6 ≤ (headSpec (Cond.code yX12_findSoon cX12_findSoon 8 (some .int) :: zTW) ({ frames := 6, cells := 0, slots := 0, locals := 139 } : Room)).room.frames := Nat.le_refl 6
  have hlo : 139 ≤ (headSpec (Cond.code yX12_findSoon cX12_findSoon 8 (some .int) :: zTW) ({ frames := 6, cells := 0, slots := 0, locals := 139 } : Room)).room.locals := Nat.le_refl 139
  have hcf := z_runV (e := e) (R := (headSpec (Cond.code yX12_findSoon cX12_findSoon 8 (some .int) :: zTW) ({ frames := 6, cells := 0, slots := 0, locals := 139 } : Room)).room) (below := below) (meth := meth) (pc := 98) zkpr_ok zTW_good rfl (zp_X12_couldFrom_0 l) hnd ⟨hx, hb, hml, hown, hts0⟩ hKW (zcv_2 zw_X12_couldFrom zr_X12_couldFrom_0 418 zu_X12_findSoon_98 zyt_418 (by decide +kernel) (by decide +kernel))
  have hda := z_runV (e := e) (R := (headSpec (Cond.code yX12_findSoon cX12_findSoon 8 (some .int) :: zTW) ({ frames := 6, cells := 0, slots := 0, locals := 139 } : Room)).room) (below := below) (meth := meth) (pc := 182) zkpr_ok zTW_good rfl (zp_X12_driftAll_0 l) hnd ⟨hx, hb, hml, hown, hts0⟩ hKW (zcv_2 zw_X12_driftAll zr_X12_driftAll_0 400 zu_X12_findSoon_182 zyt_400 (by decide +kernel) (by decide +kernel))
  obtain ⟨ma, f52, hma⟩ := z_fr_may hH ha
  obtain ⟨we, f53, hwe⟩ := z_fr_well hH ha
  obtain ⟨bo, f30, hbo⟩ := z_fr_boatAt hH ha
  obtain ⟨ro, f54, hro⟩ := z_fr_rows hH ha
  have h25 : 0 ≤ h a 25 ∧ h a 25 ≤ 8 := by
    have h1 := zH_in hH ha zkm (j := 25) (by decide)
    rw [zty_high] at h1
    exact h1.2
  obtain ⟨w0, ew⟩ : ∃ w0, h a 24 = w0 := ⟨_, rfl⟩
  obtain ⟨hh, eh⟩ : ∃ hh, h a 25 = hh := ⟨_, rfl⟩
  rw [ew] at h24
  rw [eh] at h25
  have hboc := z_boc hH hbo (j := b0) (by omega)
  obtain ⟨c0, ec0⟩ : ∃ c0 : Nat, h bo b0 = (c0 : Int) := ⟨(h bo b0).toNat, by omega⟩
  have hc64 : c0 < 64 := by omega
  have tb : (Int32.ofInt (b0 : Int)).toInt = (b0 : Int) := z_toi (by omega) (by omega)
  have gz : zFB η D cy L Θ h a ma we bo ro w0 hh s.heap h s.heap [] := ⟨⟨fun _ _ _ _ _ => rfl, fun _ _ => rfl⟩, ⟨ha, hma, hwe, hbo, hro, f52, f53, f30, f54, ew, eh, h24, h25, h23⟩, hH, ⟨Nat.le_refl _, fun _ _ _ => rfl, fun _ q => absurd q List.not_mem_nil⟩⟩
  -- its end
  have fin : ∀ (hr : Int) (h2 : Nat → Nat → Int) (H : Heap) (locs : List Loc) (ls : Array Slot), -1 ≤ hr → hr ≤ 30 → zFB η D cy L Θ h a ma we bo ro w0 hh s.heap h2 H locs → lv_has ls 8 [(3, .int (Int32.ofInt hr)), (2, .int (Int32.ofInt (sh : Int))), (1, .int (Int32.ofInt (b0 : Int))), (0, .ref (η.1 a))] → W p l e (headSpec (Cond.code yX12_findSoon cX12_findSoon 8 (some .int) :: zTW) ({ frames := 6, cells := 0, slots := 0, locals := 139 } : Room)).room s m ([.ref (η.1 a), .int (Int32.ofInt (b0 : Int)), .int (Int32.ofInt (sh : Int))] : List Value).toArray below meth c H locs 0 0 (MQ below (zQ η zkdm D vwCl cy L Θ h [0, (a : Int), (b0 : Int), (sh : Int), x4, x5] zk_X12_findSoon_0.2.2.2.1 zk_X12_findSoon_0.2.2.2.2) ([.ref (η.1 a), .int (Int32.ofInt (b0 : Int)), .int (Int32.ofInt (sh : Int))] : List Value).toArray s 0 0 (fun q => q ∈ L)) (F0 m 400 ls []) := by
    intro hr0 h2 H locs ls hr1 hr2 g hl
    refine lv_iload_n hx hb zu_X12_findSoon_400 rfl (lv_at hl 0 rfl) ?_
    refine W.iret hx hb hr (fun t ht _ => ⟨some (.int (Int32.ofInt hr0)), _, [hr0], h2, rfl, List.mem_cons_self, ?_, ?_, ?_, fun _ q => absurd q List.not_mem_nil, fun _ q => absurd q List.not_mem_nil, by rw [ht]; exact g.2.2.1, g.1.1, ?_⟩) (fun q hq => g.2.2.2.2.2 q hq) zu_X12_findSoon_401 hlocks
    · exact ⟨rfl, fun i q hi => by
        rcases Nat.lt_or_ge i 6 with h6 | h6
        · have : (([(0, 0), (0, 2147483647), (0, 5), (0, 5), (0, 1), (2, 8), ((-1), 30)] : List zIV))[i]? = ([(0, 0), (0, 2147483647), (0, 5), (0, 5), (0, 1), (2, 8)] : List zIV)[i]? := by
            rcases (show i = 0 ∨ i = 1 ∨ i = 2 ∨ i = 3 ∨ i = 4 ∨ i = 5 by omega) with rfl | rfl | rfl | rfl | rfl | rfl <;> rfl
          rw [z_gd (by exact h6)]
          exact hE0.2 i q (this.symm.trans hi)
        · rcases Nat.lt_or_ge i 7 with h7 | h7
          · have : i = 6 := by omega
            subst this
            cases hi
            exact ⟨hr1, hr2⟩
          · have e7 : ([(0, 0), (0, 2147483647), (0, 5), (0, 5), (0, 1), (2, 8), ((-1), 30)] : List zIV)[i]? = none := List.getElem?_eq_none (by simpa using h7)
            cases e7.symm.trans hi⟩
    · refine List.forall_mem_cons.mpr ⟨⟨by show (6 : Nat) < 7; decide, ?_⟩, List.forall_mem_nil _⟩
      show zok Θ 0 (hr0 + 0)
      rw [Int.add_zero]
      exact zoki (by omega)
    · show [Value.int (Int32.ofInt hr0)] = [.int (Int32.ofInt (hr0 + 0))]
      rw [Int.add_zero]
    · exact ⟨by rw [ht]; exact g.2.2.2.1, fun q h1 h2 => by rw [ht]; exact g.2.2.2.2.1 q h1 h2⟩
  have hl := lv_sub hl [2, 1, 0] rfl
  have hl : lv_has ls 8 [(2, .int (Int32.ofInt (sh : Int))), (1, .int (Int32.ofInt (b0 : Int))), (0, .ref (η.1 a))] := hl
  refine lv_iconst (v := Int32.ofInt 0) hx hb zu_X12_findSoon_0 (by decide) ?_
  refine lv_istore_n (lv' := [(3, .int (Int32.ofInt ((0 : Nat) : Int))), (2, .int (Int32.ofInt (sh : Int))), (1, .int (Int32.ofInt (b0 : Int))), (0, .ref (η.1 a))]) hx hb zu_X12_findSoon_1 rfl hl (by decide) rfl (fun ls hl => ?_)
  refine zfs_z X hKW hf hlo (fun h2 H locs ls g hz hl => ?_) 1984 0 h s.heap [] ls (by omega) (by omega) (fun j hj => by omega) gz hl
  refine lv_aload_n hx hb zu_X12_findSoon_31 rfl (lv_at hl 2 rfl) ?_
  refine hw_fmay X g zu_X12_findSoon_32 ?_
  refine lv_aload_n hx hb zu_X12_findSoon_35 rfl (lv_at hl 2 rfl) ?_
  refine hw_fboatAt X g zu_X12_findSoon_36 ?_
  refine lv_iload_n hx hb zu_X12_findSoon_39 rfl (lv_at hl 1 rfl) ?_
  have eb : h2 bo b0 = (c0 : Int) := by rw [g.1.2 b0 (by omega)]; exact ec0
  refine hw_iald X hbo zkk_boatAt ⟨rfl, rfl⟩ (by show _ ∧ _ < (6 : Int); rw [tb]; omega) g.2.2.1 zu_X12_findSoon_40 ?_
  rw [tb, Int.toNat_natCast, eb]
  refine lv_iconst (v := Int32.ofInt 1) hx hb zu_X12_findSoon_41 (by decide) ?_
  refine hw_st_may X g (by omega) (Or.inr rfl) zu_X12_findSoon_42 (fun H1 locs1 g1 => ?_)
  refine lv_iconst (v := Int32.ofInt (-1)) hx hb zu_X12_findSoon_43 (by decide) ?_
  refine lv_istore_n (lv' := [(3, .int (Int32.ofInt (-1))), (2, .int (Int32.ofInt (sh : Int))), (1, .int (Int32.ofInt (b0 : Int))), (0, .ref (η.1 a))]) hx hb zu_X12_findSoon_44 rfl hl (by decide) rfl (fun ls hl => ?_)
  refine lv_iconst (v := Int32.ofInt 0) hx hb zu_X12_findSoon_45 (by decide) ?_
  refine lv_istore (lv' := [(4, .int (Int32.ofInt ((0 : Nat) : Int))), (3, .int (Int32.ofInt (-1))), (2, .int (Int32.ofInt (sh : Int))), (1, .int (Int32.ofInt (b0 : Int))), (0, .ref (η.1 a))]) hx hb zu_X12_findSoon_46 hl (by decide) rfl (fun ls hl => ?_)
  refine zfs_f (c0 := (c0 : Int)) X hKW hf hlo hcf haM hb5 hs5 hda (fun hr2 h3 H3 locs3 ls3 g3 hW3 hl3 => ?_) 31 0 (-1) _ H1 locs1 ls (by omega) (by omega) ?_ ?_ g1 hl
  rotate_left
  · rw [zup_slf]
    intro t2 c2 ht2 hc2 e2
    by_cases q : 64 * t2 + c2 = c0
    · have q1 : t2 = 0 := by omega
      subst q1
      show (c2 : Int) = (c0 : Int)
      omega
    · simp only [if_neg q] at e2
      have := (hz (64 * t2 + c2) (by omega)).1
      omega
  · rw [zup_row (z_mawe g).symm]
    exact Or.inl ⟨rfl, fun t2 c2 h1 h2 => (hz (64 * t2 + c2) (by omega)).2⟩
  have hl := hl3
  refine lv_iload_n hx hb zu_X12_findSoon_191 rfl (lv_at hl 0 rfl) ?_
  refine lv_iconst (v := Int32.ofInt 1) hx hb zu_X12_findSoon_192 (by decide) ?_
  refine lv_isub hx hb zu_X12_findSoon_193 ?_
  rcases hW3 with ⟨rfl, -⟩ | ⟨T, hT, rfl, hZr, hFd⟩
  · rw [z_sbi (by omega) (by omega) (by omega)]
    refine lv_istore (lv' := [(4, .int (Int32.ofInt (-1 - 1))), (3, .int (Int32.ofInt (-1))), (2, .int (Int32.ofInt (sh : Int))), (1, .int (Int32.ofInt (b0 : Int))), (0, .ref (η.1 a))]) hx hb zu_X12_findSoon_194 hl (by decide) rfl (fun ls hl => ?_)
    refine lv_iload hx hb zu_X12_findSoon_196 (lv_at hl 0 rfl) ?_
    refine lv_if_lt (tgt := 313) hx hb zu_X12_findSoon_198 (by decide) (fun _ => ?_) (fun hc => absurd (by decide) hc)
    refine lv_aload_n hx hb zu_X12_findSoon_313 rfl (lv_at hl 4 rfl) ?_
    refine hw_fboatAt X g3 zu_X12_findSoon_314 ?_
    refine lv_iload_n hx hb zu_X12_findSoon_317 rfl (lv_at hl 3 rfl) ?_
    have eb3 : (h3) bo b0 = (c0 : Int) := by rw [g3.1.2 b0 (by omega)]; exact ec0
    refine hw_iald X hbo zkk_boatAt ⟨rfl, rfl⟩ (by show _ ∧ _ < (6 : Int); rw [tb]; omega) g3.2.2.1 zu_X12_findSoon_318 ?_
    rw [tb, Int.toNat_natCast, eb3]
    refine lv_istore (lv' := [(4, .int (Int32.ofInt (c0 : Int))), (3, .int (Int32.ofInt (-1))), (2, .int (Int32.ofInt (sh : Int))), (1, .int (Int32.ofInt (b0 : Int))), (0, .ref (η.1 a))]) hx hb zu_X12_findSoon_319 hl (by decide) rfl (fun ls hl => ?_)
    refine lv_iconst (v := Int32.ofInt 0) hx hb zu_X12_findSoon_321 (by decide) ?_
    refine lv_istore (lv' := [(5, .int (Int32.ofInt ((0 : Nat) : Int))), (4, .int (Int32.ofInt (c0 : Int))), (3, .int (Int32.ofInt (-1))), (2, .int (Int32.ofInt (sh : Int))), (1, .int (Int32.ofInt (b0 : Int))), (0, .ref (η.1 a))]) hx hb zu_X12_findSoon_322 hl (by decide) rfl (fun ls hl => ?_)
    refine lv_iload hx hb zu_X12_findSoon_324 (lv_at hl 0 rfl) ?_
    refine lv_iload_n hx hb zu_X12_findSoon_326 rfl (lv_at hl 2 rfl) ?_
    refine lv_icmp_ge (tgt := 400) hx hb zu_X12_findSoon_327 (by decide) (fun _ => ?_) (fun hc => absurd (by decide) hc)
    exact fin (-1) h3 H3 locs3 ls (by omega) (by omega) g3 (lv_sub hl [2, 3, 4, 5] rfl)
  · rw [z_sbi (by omega) (by omega) (by omega)]
    refine lv_istore (lv' := [(4, .int (Int32.ofInt ((T : Int) - 1))), (3, .int (Int32.ofInt (T : Int))), (2, .int (Int32.ofInt (sh : Int))), (1, .int (Int32.ofInt (b0 : Int))), (0, .ref (η.1 a))]) hx hb zu_X12_findSoon_194 hl (by decide) rfl (fun ls hl => ?_)
    refine zfs_h X hKW hf hlo T hT (fun h4 H4 locs4 ls4 g4 hSd4 hFd4 hl4 => ?_) T h3 H3 locs3 ls (Nat.le_refl _) hZr (fun t2 c2 q1 q2 => by omega) hFd g3 hl
    have hl := hl4
    have hw1 : h4 we (64 * 0 + c0) = 1 := by
      obtain ⟨c2, q1, q2, q3⟩ := hFd4
      have q3 : (c2 : Int) = (c0 : Int) := q3
      have : c2 = c0 := by omega
      subst this
      exact q2
    refine lv_aload_n hx hb zu_X12_findSoon_313 rfl (lv_at hl 3 rfl) ?_
    refine hw_fboatAt X g4 zu_X12_findSoon_314 ?_
    refine lv_iload_n hx hb zu_X12_findSoon_317 rfl (lv_at hl 2 rfl) ?_
    have eb3 : (h4) bo b0 = (c0 : Int) := by rw [g4.1.2 b0 (by omega)]; exact ec0
    refine hw_iald X hbo zkk_boatAt ⟨rfl, rfl⟩ (by show _ ∧ _ < (6 : Int); rw [tb]; omega) g4.2.2.1 zu_X12_findSoon_318 ?_
    rw [tb, Int.toNat_natCast, eb3]
    refine lv_istore (lv' := [(4, .int (Int32.ofInt (c0 : Int))), (3, .int (Int32.ofInt (T : Int))), (2, .int (Int32.ofInt (sh : Int))), (1, .int (Int32.ofInt (b0 : Int))), (0, .ref (η.1 a))]) hx hb zu_X12_findSoon_319 hl (by decide) rfl (fun ls hl => ?_)
    refine lv_iconst (v := Int32.ofInt 0) hx hb zu_X12_findSoon_321 (by decide) ?_
    refine lv_istore (lv' := [(5, .int (Int32.ofInt ((0 : Nat) : Int))), (4, .int (Int32.ofInt (c0 : Int))), (3, .int (Int32.ofInt (T : Int))), (2, .int (Int32.ofInt (sh : Int))), (1, .int (Int32.ofInt (b0 : Int))), (0, .ref (η.1 a))]) hx hb zu_X12_findSoon_322 hl (by decide) rfl (fun ls hl => ?_)
    refine zfs_j X hKW hf hlo T hT (fun h5 H5 locs5 ls5 g5 hl5 => fin (T : Int) h5 H5 locs5 ls5 (by omega) (by omega) g5 hl5) T 0 c0 h4 H4 locs4 ls (by omega) (by omega) hc64 hSd4 hw1 g4 (lv_sub hl [0, 1, 2, 3, 4, 5] rfl)
theorem zp_X12_findSoon_0 (l : Launch) : zMet zkdm vwCl zTW zKPr l zk_X12_findSoon_0 := by
  intro η D cy L Θ h σ hnd hE hA hV hR
  obtain ⟨x0, x1, x2, x3, x4, x5, rfl⟩ := z_len6 (l := σ) hE.1
  have B0 := hE.2 0 _ rfl
  have B1 := hE.2 1 _ rfl
  have B2 := hE.2 2 _ rfl
  have B3 := hE.2 3 _ rfl
  have B4 := hE.2 4 _ rfl
  have B5 := hE.2 5 _ rfl
  simp only [List.getD_cons_zero, List.getD_cons_succ] at B0 B1 B2 B3 B4 B5
  have ga : zga Θ [x0, x1, x2, x3, x4, x5] (37, 1, 0) := hA (37, 1, 0) List.mem_cons_self
  obtain ⟨ea, na, Θa⟩ := z_nnr (η := η) (kk := 35) (a := (37, 1, 0)) (by decide) hE ga rfl
  simp only [List.getD_cons_zero, List.getD_cons_succ] at ea na Θa
  obtain ⟨a, rfl⟩ : ∃ a : Nat, x1 = (a : Int) := ⟨x1.toNat, by omega⟩
  obtain ⟨b0, rfl⟩ : ∃ a : Nat, x2 = (a : Int) := ⟨x2.toNat, by omega⟩
  obtain ⟨sh, rfl⟩ : ∃ a : Nat, x3 = (a : Int) := ⟨x3.toNat, by omega⟩
  obtain rfl : x0 = 0 := by omega
  simp only [Int.toNat_natCast] at ea Θa
  have V23 := (hV ((35, 1), 23, (0, 4, 0)) List.mem_cons_self).2.2.2.2
  have V24 := (hV ((35, 1), 24, (0, 5, 0)) (List.mem_cons_of_mem _ List.mem_cons_self)).2.2.2.2
  simp only [zev, List.getD_cons_zero, List.getD_cons_succ, Int.toNat_natCast, Int.add_zero] at V23 V24
  have key := zfs_all l η D cy L Θ h a b0 sh x4 x5 hnd Θa B1.2 (by omega) (by omega) (by rw [V23]; exact B4) (by rw [V24]; exact B5) hE
  have e2 : zvo η [0, (a : Int), (b0 : Int), (sh : Int), x4, x5] (0, 2, 0) = .int (Int32.ofInt (b0 : Int)) := by
    show zdec η 0 ((b0 : Int) + 0) = _
    rw [Int.add_zero]
    rfl
  have e3 : zvo η [0, (a : Int), (b0 : Int), (sh : Int), x4, x5] (0, 3, 0) = .int (Int32.ofInt (sh : Int)) := by
    show zdec η 0 ((sh : Int) + 0) = _
    rw [Int.add_zero]
    rfl
  have hmap : zk_X12_findSoon_0.2.2.1.1.map (zvo η [0, (a : Int), (b0 : Int), (sh : Int), x4, x5]) = [.ref (η.1 a), .int (Int32.ofInt (b0 : Int)), .int (Int32.ofInt (sh : Int))] := by
    show List.map (zvo η [0, (a : Int), (b0 : Int), (sh : Int), x4, x5]) [(37, 1, 0), (0, 2, 0), (0, 3, 0)] = _
    simp only [List.map_cons, List.map_nil, ea, e2, e3]
  rw [hmap]
  exact key
