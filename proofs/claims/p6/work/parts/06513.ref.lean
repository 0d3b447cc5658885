variable {η : zRn}
/-! token: the mark at 39 -/
theorem z_len4 {l : List Int} (h : l.length = 4) : ∃ x0 x1 x2 x3, l = [x0, x1, x2, x3] := by
  match l, h with
  | [x0, x1, x2, x3], _ => exact ⟨x0, x1, x2, x3, rfl⟩
theorem z_len1 {l : List Int} (h : l.length = 1) : ∃ x0, l = [x0] := by
  match l, h with
  | [x0], _ => exact ⟨x0, rfl⟩
set_option maxHeartbeats 8000000 in
set_option maxRecDepth 100000 in
theorem zg_X12_token_0 (l : Launch) : ∀ t ∈ zm_X12_token_0.2.2.2.2.2.1, [39].contains t.1 = true → zHn zkdm vwCl zTW zKPr tyW l RX12 cX12_token 3 1 22 [(35, 9, 9), (35, 11, 14)] zm_X12_token_0.2.2.2.2.2.1 4 t := by
  intro t ht hc
  have et : t = zma_X12_token_0_1 := by
    unfold zm_X12_token_0 at ht
    simp only [List.mem_cons, List.not_mem_nil, or_false] at ht
    rcases ht with rfl | rfl | rfl | rfl | rfl | rfl
    · exact absurd hc (by decide)
    · rfl
    · exact absurd hc (by decide)
    · exact absurd hc (by decide)
    · exact absurd hc (by decide)
    · exact absurd hc (by decide)
  subst et
  intro η D cy L Θ h0 p e R s m args below meth c Q σ0 hexec hb hml hown hts hK hKa hT hnd hfr hlo hn0 σ' h H locs ls hp g IH
  obtain ⟨κ, rfl⟩ := hp
  obtain ⟨x0, x1, x2, x3, rfl⟩ := z_len4 hn0
  obtain ⟨gE, gL, hl, gS, gV, gR, gH, gF, gX⟩ := g
  obtain ⟨x4, rfl⟩ : ∃ x4, κ = [x4] := z_len1 (by
    have := gE.1
    simp only [List.length_append, List.length_cons, List.length_nil, zma_X12_token_0_1] at this
    omega)
  simp only [zma_X12_token_0_1, List.cons_append, List.nil_append] at gE gL hl gS gV gR gH gF gX IH ⊢
  have B0 := gE.2 0 _ rfl
  have B1 := gE.2 1 _ rfl
  have B2 := gE.2 2 _ rfl
  have B3 := gE.2 3 _ rfl
  have B4 := gE.2 4 _ rfl
  simp only [List.getD_cons_zero, List.getD_cons_succ] at B0 B1 B2 B3 B4
  have ga : zga Θ [x0, x1, x2, x3, x4] (37, 1, 0) := gL (0, (37, 1, 0)) (by simp)
  obtain ⟨ea, na, Θa⟩ := z_nnr (η := η) (kk := 35) (a := (37, 1, 0)) (by decide) gE ga rfl
  simp only [List.getD_cons_zero, List.getD_cons_succ] at ea na Θa
  obtain ⟨a, rfl⟩ : ∃ a : Nat, x1 = (a : Int) := ⟨x1.toNat, by omega⟩
  simp only [Int.toNat_natCast] at ea Θa
  have V11 := (gV ((35, 1), 11, (0, 4, 0)) (by simp)).2.2.2.2
  have V9 := (gV ((35, 1), 9, (0, 4, 0)) (by simp)).2.2.2.2
  have V10 := (gV ((35, 1), 10, (0, 3, 0)) (by simp)).2.2.2.2
  have R0 := (gR (4, 2, 0) (by simp)).2.2
  simp only [zev, List.getD_cons_zero, List.getD_cons_succ, Int.toNat_natCast, Int.add_zero] at V11 V9 V10 R0
  have X : hCx D vwCl cy L p s m args c cX12_token 3 (tyW cy) zTW RX12 := ⟨hexec, hb, hml, hts, hown, hKa, hT, hnd⟩
  have hf : 1 ≤ R.frames := by omega
  have hlo2 : 22 ≤ R.locals := by omega
  have hl : lv_has ls 3 [(0, .ref (η.1 a))] := by
    simp only [List.map_cons, List.map_nil, ea] at hl
    exact hl
  have hna := z_apart gH Θa
  obtain ⟨s1, s2, s3⟩ := z_seeb gH Θa
  -- what a later state keeps
  have keep : ∀ {h2 : Nat → Nat → Int}, zdf h h2 a → ∀ b k j, Θ b = some k → zinE [(35, 9, 9), (35, 11, 14)] k j j = false → h2 b j = h0 b j := by
    intro h2 g2 b k j hb2 hj
    rw [g2 b j, gX b k j hb2 hj]
    rintro ⟨rfl, hj2⟩
    cases Θa.symm.trans hb2
    rcases hj2 with rfl | rfl | rfl <;> exact absurd hj (by decide)
  have rk : ∀ (σ2 : List Int) (x y : Int), x < y → zrk σ2 (x, []) < zrk [x0, (a : Int), x2, x3, x4] (y, []) := by
    intro σ2 x y hxy
    simp only [zrk, zsum]
    omega
  have gaE : ∀ {τ : List Int} , zga Θ ([x0, (a : Int), x2, x3] ++ τ) (37, 1, 0) := by
    intro τ
    exact ⟨by simp, Or.inr ⟨by simp [zev], by simpa [zev] using Θa⟩⟩
  have vaE : ∀ {τ : List Int} , zvo η ([x0, (a : Int), x2, x3] ++ τ) (37, 1, 0) = .ref (η.1 a) := by
    intro τ
    show zdec η 37 _ = _
    have : zev ([x0, (a : Int), x2, x3] ++ τ) (37, 1, 0) = (a : Int) := by simp [zev]
    rw [this]
    exact z_dr 35 a
  show W p l e R s m args below meth c H locs 0 0 Q (F0 m 39 ls [])
  refine lv_aload_n hexec hb zu_X12_token_39 rfl (lv_at hl 0 rfl) ?_
  refine hw_see X hK Θa hl.1 hf (by omega) (Nat.le_of_ble_eq_true rfl) gH zyt_143 zu_X12_token_40 ?_
  obtain ⟨cv, hcv⟩ : ∃ cv : Int32, cv = Int32.ofInt (zsee h a) := ⟨_, rfl⟩
  rw [← hcv]
  refine lv_istore_n (lv' := [(1, .int cv), (0, .ref (η.1 a))]) hexec hb zu_X12_token_43 rfl hl (by decide) rfl (fun ls hl => ?_)
  refine lv_aload_n hexec hb zu_X12_token_44 rfl (lv_at hl 1 rfl) ?_
  refine lv_lconst (v := 0) hexec hb zu_X12_token_45 (by decide) ?_
  have e0 : (.long 0 : Value) = zdec η (zty zKM 14).1 0 := by rw [zty_word, z_d1]; rfl
  rw [e0]
  refine hw_put X (x := 0) zfh_150 Θa zkm ⟨rfl, rfl⟩ (by decide) (by decide) (by rw [zty_word]; exact ⟨⟨by decide, by decide⟩, by decide, by decide⟩) gH gF zu_X12_token_46 (fun H1 locs1 gH1 gF1 => ?_)
  have g1 : zdf h (zup h a 14 0) a := zdf.up (fun _ _ _ => rfl) (Or.inr (Or.inr rfl))
  have w14 : zup h a 14 0 a 14 = 0 := zup_at _ _ _ _
  have w9 : zup h a 14 0 a 9 = x4 := by rw [zup_ne (by omega)]; exact V9
  have sw : zsee (zup h a 14 0) a = zsee h a := zsee_df g1 hna (by rw [zup_ne (by omega)])
  have hna1 : (zup h a 14 0 a 1).toNat ≠ a := by rw [zup_ne (by omega)]; exact hna
  refine lv_iconst (v := 0) hexec hb zu_X12_token_49 (by decide) ?_
  refine lv_istore_n (lv' := [(2, .int 0), (1, .int cv), (0, .ref (η.1 a))]) hexec hb zu_X12_token_50 rfl hl (by decide) rfl (fun ls hl => ?_)
  refine lv_iload_n hexec hb zu_X12_token_51 rfl (lv_at hl 1 rfl) ?_
  refine lv_if_ge (tgt := 63) hexec hb zu_X12_token_52 (by decide) (fun hc => ?_) (fun hc => ?_)
  · -- a byte
    have hc2 : 0 ≤ zsee h a := by
      rw [hcv, show (0 : Int32) = Int32.ofInt 0 from rfl] at hc
      exact (z_le32 (by omega) (by omega)).mp hc
    have hlt : h a 9 < h a 10 := by
      apply Decidable.byContradiction
      intro q
      have := s2 q
      omega
    have hn0' : Int32.ofInt (zup h a 14 0 a 9 - x4) = 0 := by rw [w9, Int.sub_self]; rfl
    refine lv_iload_n hexec hb zu_X12_token_63 rfl (lv_at hl 1 rfl) ?_
    refine lv_bipush (v := Int32.ofInt 97) hexec hb zu_X12_token_64 (by decide +kernel) ?_
    refine lv_bipush (v := Int32.ofInt 122) hexec hb zu_X12_token_66 (by decide +kernel) ?_
    refine hw_in X hl.1 hf hlo2 (Nat.le_of_ble_eq_true rfl) zyt_129 zu_X12_token_68 ?_
    by_cases hin : 97 ≤ zsee h a ∧ zsee h a ≤ 122
    · rw [hcv, if_pos ((z_in32 (by omega) (by omega) (by omega)).mpr hin)]
      refine lv_if_eq (tgt := 147) hexec hb zu_X12_token_71 (by decide) (fun q => absurd q (by decide)) (fun _ => ?_)
      refine ztk_let X hK hf hlo2 Θa (zup h a 14 0) hna1 x4 cv (H0 := s.heap) (fun h2 H2 locs2 ls2 g2 gH2 gF2 hl2 hr2 => ?_) B4.1 600 (zup h a 14 0) H1 locs1 ls (by rw [w9]; omega) (fun _ _ _ => rfl) gH1 gF1 (by rw [hn0']; exact hl) (by rw [w9]; exact Int.le_refl _) (fun _ => by rw [sw]; exact hin)
      obtain ⟨c1, c2⟩ := z_rl9 gH2 Θa
      have k14 := zH_in gH2 Θa zkm (j := 14) (by decide)
      rw [zty_word] at k14
      have g12 : zdf h h2 a := fun b j hj => by rw [g2 b j hj, g1 b j hj]
      have e11 : h2 a 11 = x4 := by rw [g12 a 11 (by omega)]; exact V11
      have e10 : h2 a 10 = x3 := by rw [g12 a 10 (by omega)]; exact V10
      have h99 : x4 ≤ 599 := by omega
      have zz : zga Θ ([x0, (a : Int), x2, x3] ++ [h2 a 9 - x4, h2 a 9, h2 a 14, x4]) (0, 4, 0) := ⟨by simp, by simp [zev, zok]; omega⟩
      refine IH zma_X12_token_0_3 zmm_X12_token_0_3 ([x0, (a : Int), x2, x3] ++ [h2 a 9 - x4, h2 a 9, h2 a 14, x4]) h2 H2 locs2 ls2 ⟨_, rfl⟩ ⟨⟨rfl, ?_⟩, ?_, ?_, fun _ q => (by cases q), ?_, ?_, gH2, gF2, keep g12⟩ (rk _ _ _ (by decide))
      · intro i q hq
        match i, hq with
        | 0, hq => cases hq; simp; omega
        | 1, hq => cases hq; simp; omega
        | 2, hq => cases hq; simp; omega
        | 3, hq => cases hq; simp; omega
        | 4, hq => cases hq; simp; omega
        | 5, hq => cases hq; simp; omega
        | 6, hq => cases hq; simp; exact k14.2
        | 7, hq => cases hq; simp; omega
        | i + 8, hq => cases hq
      · intro q hq
        simp only [zma_X12_token_0_3, List.mem_cons, List.not_mem_nil, or_false] at hq
        rcases hq with rfl | rfl
        · exact gaE
        · exact zz
      · simp only [zma_X12_token_0_3, List.map_cons, List.map_nil]
        rw [vaE]
        have : zvo η ([x0, (a : Int), x2, x3] ++ [h2 a 9 - x4, h2 a 9, h2 a 14, x4]) (0, 4, 0) = .int (Int32.ofInt (h2 a 9 - x4)) := by
          simp [zvo, zev, z_d0]
        rw [this]
        exact lv_sub hl2 [2, 0] rfl
      · intro o ho
        simp only [zma_X12_token_0_3, List.mem_cons, List.not_mem_nil, or_false] at ho
        rcases ho with rfl | rfl | rfl | rfl
        · exact ⟨by simp, ⟨by simp, by simp [zev, zok]; omega⟩, by simp, by simpa using Θa, by simp [zev]⟩
        · exact ⟨by simp, ⟨by simp, by simp [zev]; exact k14.1⟩, by simp, by simpa using Θa, by simp [zev]⟩
        · exact ⟨by simp, ⟨by simp, by simp [zev, zok]; omega⟩, by simp, by simpa using Θa, by simp [zev]; exact e11⟩
        · exact ⟨by simp, ⟨by simp, by simp [zev, zok]; omega⟩, by simp, by simpa using Θa, by simp [zev]; exact e10⟩
      · intro r hr
        simp only [zma_X12_token_0_3, List.mem_cons, List.not_mem_nil, or_false] at hr
        rcases hr with rfl | rfl
        · exact ⟨by simp, by simp, by simp; omega⟩
        · exact ⟨by simp, by simp, by simp; omega⟩
    · rw [hcv, if_neg (fun q => hin ((z_in32 (by omega) (by omega) (by omega)).mp q))]
      refine lv_if_eq (tgt := 147) hexec hb zu_X12_token_71 (by decide) (fun _ => ?_) (fun q => absurd rfl q)
      refine lv_iload_n hexec hb zu_X12_token_147 rfl (lv_at hl 1 rfl) ?_
      refine lv_bipush (v := Int32.ofInt 48) hexec hb zu_X12_token_148 (by decide +kernel) ?_
      refine lv_bipush (v := Int32.ofInt 57) hexec hb zu_X12_token_150 (by decide +kernel) ?_
      refine hw_in X hl.1 hf hlo2 (Nat.le_of_ble_eq_true rfl) zyt_129 zu_X12_token_152 ?_
      by_cases hid : 48 ≤ zsee h a ∧ zsee h a ≤ 57
      · rw [hcv, if_pos ((z_in32 (by omega) (by omega) (by omega)).mpr hid)]
        refine lv_if_eq (tgt := 241) hexec hb zu_X12_token_155 (by decide) (fun q => absurd q (by decide)) (fun _ => ?_)
        refine lv_aload_n hexec hb zu_X12_token_158 rfl (lv_at hl 2 rfl) ?_
        refine lv_iconst (v := 0) hexec hb zu_X12_token_159 (by decide) ?_
        have e13 : (.int 0 : Value) = zdec η (zty zKM 13).1 0 := by rw [zty_value, z_d0]; rfl
        rw [e13]
        refine hw_put X (x := 0) zfh_157 Θa zkm ⟨rfl, rfl⟩ (by decide) (by decide) (by rw [zty_value]; exact ⟨⟨by decide, by decide⟩, by decide, by decide⟩) gH1 gF1 zu_X12_token_160 (fun H2 locs2 gH2 gF2 => ?_)
        have v9 : zup (zup h a 14 0) a 13 0 a 9 = x4 := by rw [zup_ne (by omega)]; exact w9
        have v13 : zup (zup h a 14 0) a 13 0 a 13 = 0 := zup_at _ _ _ _
        have v14 : zup (zup h a 14 0) a 13 0 a 14 = 0 := by rw [zup_ne (by omega)]; exact w14
        have g2' : zdf h (zup (zup h a 14 0) a 13 0) a := g1.up (Or.inr (Or.inl rfl))
        have sv : zsee (zup (zup h a 14 0) a 13 0) a = zsee h a := zsee_df g2' hna (by rw [v9, V9])
        have hna2 : (zup (zup h a 14 0) a 13 0 a 1).toNat ≠ a := by rw [zup_ne (by omega)]; exact hna1
        refine ztk_dig X hK hf hlo2 Θa (zup (zup h a 14 0) a 13 0) hna2 x4 cv (H0 := s.heap) (fun h2 H3 locs3 ls2 g2 gH3 gF3 hl2 hr2 hw2 => ?_) B4.1 600 (zup (zup h a 14 0) a 13 0) H2 locs2 ls (by rw [v9]; omega) (fun _ _ _ => rfl) gH2 gF2 (by rw [v9, Int.sub_self]; exact hl) (by rw [v9]; exact Int.le_refl _) (fun _ => by rw [sv]; exact hid) ⟨by rw [v13]; decide, fun _ => v13, fun _ => by rw [v13]; decide, by rw [v13]; decide⟩ rfl
        obtain ⟨c1, c2⟩ := z_rl9 gH3 Θa
        have k13 := zH_in gH3 Θa zkm (j := 13) (by decide)
        rw [zty_value] at k13
        have k13b := k13.2
        simp only at k13b
        have g12 : zdf h h2 a := fun b j hj => by rw [g2 b j hj, g2' b j hj]
        have e11 : h2 a 11 = x4 := by rw [g12 a 11 (by omega)]; exact V11
        have e10 : h2 a 10 = x3 := by rw [g12 a 10 (by omega)]; exact V10
        have e14 : h2 a 14 = 0 := by rw [hw2]; exact v14
        have zz : zga Θ ([x0, (a : Int), x2, x3] ++ [h2 a 9 - x4, h2 a 9, h2 a 13, x4]) (0, 4, 0) := ⟨by simp, by simp [zev, zok]; omega⟩
        refine IH zma_X12_token_0_4 zmm_X12_token_0_4 ([x0, (a : Int), x2, x3] ++ [h2 a 9 - x4, h2 a 9, h2 a 13, x4]) h2 H3 locs3 ls2 ⟨_, rfl⟩ ⟨⟨rfl, ?_⟩, ?_, ?_, fun _ q => (by cases q), ?_, ?_, gH3, gF3, keep g12⟩ (rk _ _ _ (by decide))
        · intro i q hq
          match i, hq with
          | 0, hq => cases hq; simp; omega
          | 1, hq => cases hq; simp; omega
          | 2, hq => cases hq; simp; omega
          | 3, hq => cases hq; simp; omega
          | 4, hq => cases hq; simp; omega
          | 5, hq => cases hq; simp; omega
          | 6, hq => cases hq; simp; omega
          | 7, hq => cases hq; simp; omega
          | i + 8, hq => cases hq
        · intro q hq
          simp only [zma_X12_token_0_4, List.mem_cons, List.not_mem_nil, or_false] at hq
          rcases hq with rfl | rfl
          · exact gaE
          · exact zz
        · simp only [zma_X12_token_0_4, List.map_cons, List.map_nil]
          rw [vaE]
          have : zvo η ([x0, (a : Int), x2, x3] ++ [h2 a 9 - x4, h2 a 9, h2 a 13, x4]) (0, 4, 0) = .int (Int32.ofInt (h2 a 9 - x4)) := by
            simp [zvo, zev, z_d0]
          rw [this]
          exact lv_sub hl2 [2, 0] rfl
        · intro o ho
          simp only [zma_X12_token_0_4, List.mem_cons, List.not_mem_nil, or_false] at ho
          rcases ho with rfl | rfl | rfl | rfl | rfl
          · exact ⟨by simp, ⟨by simp, by simp [zev, zok]; omega⟩, by simp, by simpa using Θa, by simp [zev]⟩
          · exact ⟨by simp, ⟨by simp, by simp [zev, zok]; omega⟩, by simp, by simpa using Θa, by simp [zev]⟩
          · exact ⟨by simp, ⟨by simp, by simp [zev, zok]; omega⟩, by simp, by simpa using Θa, by simp [zev]; omega⟩
          · exact ⟨by simp, ⟨by simp, by simp [zev, zok]; omega⟩, by simp, by simpa using Θa, by simp [zev]; exact e11⟩
          · exact ⟨by simp, ⟨by simp, by simp [zev, zok]; omega⟩, by simp, by simpa using Θa, by simp [zev]; exact e10⟩
        · intro r hr
          simp only [zma_X12_token_0_4, List.mem_cons, List.not_mem_nil, or_false] at hr
          rcases hr with rfl | rfl
          · exact ⟨by simp, by simp, by simp; omega⟩
          · exact ⟨by simp, by simp, by simp; omega⟩
      · rw [hcv, if_neg (fun q => hid ((z_in32 (by omega) (by omega) (by omega)).mp q))]
        refine lv_if_eq (tgt := 241) hexec hb zu_X12_token_155 (by decide) (fun _ => ?_) (fun q => absurd rfl q)
        refine IH zma_X12_token_0_5 zmm_X12_token_0_5 ([x0, (a : Int), x2, x3] ++ [zsee h a, x4]) (zup h a 14 0) H1 locs1 ls ⟨_, rfl⟩ ⟨⟨rfl, ?_⟩, ?_, ?_, fun _ q => (by cases q), ?_, ?_, gH1, gF1, keep g1⟩ (rk _ _ _ (by decide))
        · intro i q hq
          match i, hq with
          | 0, hq => cases hq; simp; omega
          | 1, hq => cases hq; simp; omega
          | 2, hq => cases hq; simp; omega
          | 3, hq => cases hq; simp; omega
          | 4, hq => cases hq; simp; omega
          | 5, hq => cases hq; simp; omega
          | i + 6, hq => cases hq
        · intro q hq
          simp only [zma_X12_token_0_5, List.mem_cons, List.not_mem_nil, or_false] at hq
          rcases hq with rfl | rfl
          · exact gaE
          · exact ⟨by simp, by simp [zev, zok]; omega⟩
        · simp only [zma_X12_token_0_5, List.map_cons, List.map_nil]
          rw [vaE]
          have : zvo η ([x0, (a : Int), x2, x3] ++ [zsee h a, x4]) (0, 4, 0) = .int cv := by
            simp [zvo, zev, z_d0, hcv]
          rw [this]
          exact lv_sub hl [2, 1] rfl
        · intro o ho
          simp only [zma_X12_token_0_5, List.mem_cons, List.not_mem_nil, or_false] at ho
          rcases ho with rfl | rfl | rfl | rfl
          · exact ⟨by simp, ⟨by simp, by simp [zev, zok]; omega⟩, by simp, by simpa using Θa, by simp [zev, w14]; omega⟩
          · exact ⟨by simp, ⟨by simp, by simp [zev, zok]; omega⟩, by simp, by simpa using Θa, by simp [zev]; rw [zup_ne (by omega)]; exact V11⟩
          · exact ⟨by simp, ⟨by simp, by simp [zev, zok]; omega⟩, by simp, by simpa using Θa, by simp [zev]; exact w9⟩
          · exact ⟨by simp, ⟨by simp, by simp [zev, zok]; omega⟩, by simp, by simpa using Θa, by simp [zev]; rw [zup_ne (by omega)]; exact V10⟩
        · intro r hr
          simp only [zma_X12_token_0_5, List.mem_cons, List.not_mem_nil, or_false] at hr
          subst hr
          exact ⟨by simp, by simp, by simp; omega⟩
  · -- the end
    refine IH zma_X12_token_0_2 zmm_X12_token_0_2 ([x0, (a : Int), x2, x3] ++ [x4]) (zup h a 14 0) H1 locs1 ls ⟨_, rfl⟩ ⟨gE, fun q hq => ?_, ?_, fun _ q => (by cases q), ?_, ?_, gH1, gF1, keep g1⟩ (rk _ _ _ (by decide))
    · simp only [zma_X12_token_0_2, List.mem_cons, List.not_mem_nil, or_false] at hq
      subst hq
      exact gaE
    · simp only [zma_X12_token_0_2, List.map_cons, List.map_nil]
      rw [vaE]
      exact lv_sub hl [2] rfl
    · intro o ho
      simp only [zma_X12_token_0_2, List.mem_cons, List.not_mem_nil, or_false] at ho
      rcases ho with rfl | rfl | rfl | rfl
      · exact ⟨by simp, ⟨by simp, by simp [zev, zok]; omega⟩, by simp, by simpa using Θa, by simp [zev, w14]; omega⟩
      · exact ⟨by simp, ⟨by simp, by simp [zev, zok]; omega⟩, by simp, by simpa using Θa, by simp [zev]; rw [zup_ne (by omega)]; exact V11⟩
      · exact ⟨by simp, ⟨by simp, by simp [zev, zok]; omega⟩, by simp, by simpa using Θa, by simp [zev]; exact w9⟩
      · exact ⟨by simp, ⟨by simp, by simp [zev, zok]; omega⟩, by simp, by simpa using Θa, by simp [zev]; rw [zup_ne (by omega)]; exact V10⟩
    · intro r hr
      simp only [zma_X12_token_0_2, List.mem_cons, List.not_mem_nil, or_false] at hr
      subst hr
      exact ⟨by simp, by simp, by simp; omega⟩
theorem zp_X12_token_0 (l : Launch) : zMet zkdm vwCl zTW zKPr l zk_X12_token_0 := z_met3 zkpr_ok zTW_good zk_X12_token_0 zm_X12_token_0 200000 10995116277761202 [39] (by decide +kernel) (by decide +kernel) (by decide +kernel) zv_X12_token_0 zd_X12_token (List.forall_mem_cons.mpr ⟨zf_RX12_137, (List.forall_mem_cons.mpr ⟨zf_RX12_147, (List.forall_mem_cons.mpr ⟨zf_RX12_150, (List.forall_mem_cons.mpr ⟨zf_RX12_154, (List.forall_mem_nil _)⟩)⟩)⟩)⟩) ⟨(List.forall_mem_nil _), (List.forall_mem_nil _)⟩ (List.forall_mem_cons.mpr ⟨ze_X12_token_0_1 l, (List.forall_mem_cons.mpr ⟨ze_X12_token_0_10 l, (List.forall_mem_nil _)⟩)⟩) (List.forall_mem_nil _) (zg_X12_token_0 l)
