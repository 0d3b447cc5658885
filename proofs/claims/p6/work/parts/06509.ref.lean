variable {η : zRn}
/-! sureCouples: the mark at 2 -/
theorem z_len5 {l : List Int} (h : l.length = 5) : ∃ x0 x1 x2 x3 x4, l = [x0, x1, x2, x3, x4] := by
  match l, h with
  | [x0, x1, x2, x3, x4], _ => exact ⟨x0, x1, x2, x3, x4, rfl⟩
set_option maxHeartbeats 8000000 in
set_option maxRecDepth 100000 in
theorem zg_X12_sureCouples_0 (l : Launch) : ∀ t ∈ zm_X12_sureCouples_0.2.2.2.2.2.1, [2].contains t.1 = true → zHn zkdm vwCl zTW zKPr tyW l RX12 cX12_sureCouples 5 2 43 [(29, 0, 8)] zm_X12_sureCouples_0.2.2.2.2.2.1 5 t := by
  intro t ht hc
  have et : t = zma_X12_sureCouples_0_0 := by
    unfold zm_X12_sureCouples_0 at ht
    simp only [List.mem_cons, List.not_mem_nil, or_false] at ht
    rcases ht with rfl | rfl | rfl
    · rfl
    · exact absurd hc (by decide)
    · exact absurd hc (by decide)
  subst et
  intro η D cy L Θ h0 p e R s m args below meth c Q σ0 hexec hb hml hown hts hK hKa hT hnd hfr hlo hn0 σ' h H locs ls hp g IH
  obtain ⟨κ, rfl⟩ := hp
  obtain ⟨x0, x1, x2, x3, x4, rfl⟩ := z_len5 hn0
  obtain ⟨gE, gL, hl, gS, gV, gR, gH, gF, gX⟩ := g
  have ek : κ = [] := by
    have := gE.1
    simp only [List.length_append, List.length_cons, List.length_nil, zma_X12_sureCouples_0_0] at this
    exact List.length_eq_zero_iff.mp (by omega)
  subst ek
  rw [List.append_nil] at gE gL hl gS gV gR ⊢
  simp only [List.append_nil] at IH
  simp only [zma_X12_sureCouples_0_0] at gE gL hl gS gV gR gH gF gX IH ⊢
  have B0 := gE.2 0 _ rfl
  have B1 := gE.2 1 _ rfl
  have B3 := gE.2 3 _ rfl
  simp only [List.getD_cons_zero, List.getD_cons_succ] at B0 B1 B3
  have ga : zga Θ [x0, x1, x2, x3, x4] (37, 1, 0) := gL (0, (37, 1, 0)) (by simp)
  obtain ⟨ea, na, Θa⟩ := z_nnr (η := η) (kk := 35) (a := (37, 1, 0)) (by decide) gE ga rfl
  simp only [List.getD_cons_zero, List.getD_cons_succ] at ea na Θa
  obtain ⟨a, rfl⟩ : ∃ a : Nat, x1 = (a : Int) := ⟨x1.toNat, by omega⟩
  simp only [Int.toNat_natCast] at ea Θa
  have V56 := (gV ((35, 1), 56, (0, 3, 0)) (by simp)).2.2.2.2
  simp only [zev, List.getD_cons_zero, List.getD_cons_succ, Int.toNat_natCast, Int.add_zero] at V56
  have X : hCx D vwCl cy L p s m args c cX12_sureCouples 5 (tyW cy) zTW RX12 := ⟨hexec, hb, hml, hts, hown, hKa, hT, hnd⟩
  have hf : 1 ≤ R.frames := by omega
  have hlo2 : 21 ≤ R.locals := by omega
  have h58 := zH_in gH Θa zkm (j := 58) (by decide)
  rw [zty_behind] at h58
  obtain ⟨k1, k2, -⟩ := h58
  simp only at k2
  have k3 : 0 ≤ h a 58 ∧ Θ (h a 58).toNat = some 29 := by
    rcases k1 with k1 | k1
    · omega
    · exact k1
  obtain ⟨bh, ebh⟩ : ∃ bh : Nat, h a 58 = (bh : Int) := ⟨(h a 58).toNat, by omega⟩
  have hb9 : Θ bh = some 29 := by
    have := k3.2
    rw [ebh, Int.toNat_natCast] at this
    exact this
  have hna : bh ≠ a := by
    intro q
    rw [q, Θa] at hb9
    cases hb9
  have ev1 : zvo η [x0, (a : Int), x2, x3, x4] (0, 0, 1) = .int (Int32.ofInt 1) := by
    have : x0 = 0 := by omega
    subst this
    rfl
  have hl2 : lv_has ls 5 [(1, .int (Int32.ofInt 1)), (0, .ref (η.1 a))] := by
    simp only [List.map_cons, List.map_nil, ea, ev1] at hl
    exact lv_sub hl [1, 0] rfl
  show W p l e R s m args below meth c H locs 0 0 Q (F0 m 2 ls [])
  refine zsc_w X hf hlo2 Θa hb9 hna h ebh (by rw [V56]; exact B3) (H0 := s.heap) (fun h2 H2 locs2 ls2 g2 gH2 gF2 hl3 => ?_) 20000 1 h H locs ls (by
    have := z_s9b gH hb9
    omega) (Or.inr rfl) (fun _ _ _ => rfl) gH gF hl2
  have hsame : ∀ j, h2 a j = h a j := fun j => g2 a j (fun q => hna q.1.symm)
  refine IH zma_X12_sureCouples_0_1 zmm_X12_sureCouples_0_1 [x0, (a : Int), x2, x3, x4] h2 H2 locs2 ls2 ⟨[], (List.append_nil _).symm⟩ ⟨gE, fun q hq => ?_, ?_, fun _ q => (by cases q), ?_, fun _ q => (by cases q), gH2, gF2, ?_⟩ ?_
  · simp only [zma_X12_sureCouples_0_1, List.mem_cons, List.not_mem_nil, or_false] at hq
    subst hq
    exact ga
  · simp only [zma_X12_sureCouples_0_1, List.map_cons, List.map_nil, ea]
    exact hl3
  · intro o ho
    have ho2 : o ∈ ([((35, 1), 55, (0, 2, 0)), ((35, 1), 56, (0, 3, 0)), ((35, 1), 57, (0, 4, 0))] : List zOV) := ho
    obtain ⟨q1, q2, q3, q4, q5⟩ := gV o ho2
    refine ⟨q1, q2, q3, q4, ?_⟩
    rw [← q5]
    simp only [List.mem_cons, List.not_mem_nil, or_false] at ho2
    rcases ho2 with rfl | rfl | rfl <;> (simp only [List.getD_cons_zero, List.getD_cons_succ, Int.toNat_natCast]; exact hsame _)
  · intro b k j hb2 hj
    by_cases eb : b = bh ∧ j < 9
    · obtain ⟨rfl, hj9⟩ := eb
      cases hb9.symm.trans hb2
      exact absurd hj (by
        have : zinE [(29, 0, 8)] 29 j j = true := by
          simp [zinE]
          omega
        rw [this]
        decide)
    · rw [g2 b j eb]
      exact gX b k j hb2 hj
  · simp only [zma_X12_sureCouples_0_1, zrk, zsum, List.getD_cons_zero]
    omega
theorem zp_X12_sureCouples_0 (l : Launch) : zMet zkdm vwCl zTW zKPr l zk_X12_sureCouples_0 := z_met3 zkpr_ok zTW_good zk_X12_sureCouples_0 zm_X12_sureCouples_0 200000 10992917254504449 [2] (by decide +kernel) (by decide +kernel) (by decide +kernel) zv_X12_sureCouples_0 zd_X12_sureCouples (List.forall_mem_cons.mpr ⟨zf_RX12_99, (List.forall_mem_cons.mpr ⟨zf_RX12_439, (List.forall_mem_nil _)⟩)⟩) ⟨(List.forall_mem_nil _), (List.forall_mem_nil _)⟩ (List.forall_mem_cons.mpr ⟨ze_X12_sureCouples_0_121 l, (List.forall_mem_nil _)⟩) (List.forall_mem_nil _) (zg_X12_sureCouples_0 l)
