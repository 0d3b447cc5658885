section
/-! dispute: both sides -/
theorem r10F : ∀ x : Fin 40, yari 4 (x.val : Int) 10 = (x.val : Int) % 10 := by decide +kernel
theorem r20F : ∀ x : Fin 80, yari 4 (x.val : Int) 20 = (x.val : Int) % 20 := by decide +kernel
theorem r10 {x : Int} (h : 0 ≤ x ∧ x < 40) : yari 4 x 10 = x % 10 := by
  have := r10F ⟨x.toNat, by omega⟩
  simp only at this
  rw [Int.toNat_of_nonneg h.1] at this
  exact this
theorem r20 {x : Int} (h : 0 ≤ x ∧ x < 80) : yari 4 x 20 = x % 20 := by
  have := r20F ⟨x.toNat, by omega⟩
  simp only at this
  rw [Int.toNat_of_nonneg h.1] at this
  exact this
/-- a number of a dispute's lines -/
def nuV (t : Nat → Int) (w : Int) : Int := if 20 ≤ w ∧ w < 20 + t 0 then t (2 + 2 * (w - 20).toNat) else if 30 ≤ w ∧ w < 30 + t 0 then t (3 + 2 * (w - 30).toNat) else if 40 ≤ w ∧ w < 40 + t 1 then t (20 + 2 * (w - 40).toNat) else if 60 ≤ w ∧ w < 60 + t 1 then t (21 + 2 * (w - 60).toNat) else -2
theorem nuC_e {n b : Nat} {w : Int} {t : Nat → Int} {h : yH} (hW : tW2 t) (H : oC b t h) (hw : 20 ≤ w) : f_X2_numberOf n [(b : Int), w] h = some (nuV t w, h) := by
  have w0 := hW.1
  have w1 := hW.2.1
  obtain ⟨hb, ⟨q0, q1, q2, q3⟩, ⟨p1, p2, p3, p4⟩, -⟩ := H
  have e1 : ((b : Int) + 1).toNat = b + 1 := by omega
  have e2 : ((b : Int) + 2).toNat = b + 2 := by omega
  have e3 : ((b : Int) + 3).toNat = b + 3 := by omega
  have e4 : ((b : Int) + 4).toNat = b + 4 := by omega
  unfold nuV
  rw [e_X2_numberOf, if_neg (by omega), Int.toNat_natCast, q0, xg_pos (by omega)]
  by_cases a1 : w < 20 + t 0
  · rw [if_pos a1, xg_pos p1, xg_pos (by omega), xg_pos (by omega), e1, (q2 (w - 20).toNat (by omega)).1, if_pos (by exact ⟨hw, a1⟩)]
  · rw [if_neg a1, if_neg (by exact fun v => a1 v.2), e_X2_numberOf_27, Int.toNat_natCast, q0]
    have r81 : xq_X2_numberOf_81 n [(b : Int), w] h = some (if 60 ≤ w ∧ w < 60 + t 1 then t (21 + 2 * (w - 60).toNat) else -2, h) := by
      rw [e_X2_numberOf_81, Int.toNat_natCast, q1]
      by_cases a4 : w < 60
      · rw [if_pos a4, if_neg (by omega)]
      · rw [if_neg a4, xg_pos (by omega)]
        by_cases a5 : w < 60 + t 1
        · rw [if_pos a5, xg_pos p4, xg_pos (by omega), xg_pos (by omega), e4, (q3 (w - 60).toNat (by omega)).2, if_pos (by omega)]
        · rw [if_neg a5, if_neg (by omega)]
    have r54 : xq_X2_numberOf_54 n [(b : Int), w] h = some (if 40 ≤ w ∧ w < 40 + t 1 then t (20 + 2 * (w - 40).toNat) else if 60 ≤ w ∧ w < 60 + t 1 then t (21 + 2 * (w - 60).toNat) else -2, h) := by
      rw [e_X2_numberOf_54, Int.toNat_natCast, q1]
      by_cases a4 : w < 40
      · rw [if_pos a4, r81, if_neg (show ¬ (40 ≤ w ∧ w < 40 + t 1) by omega)]
      · rw [if_neg a4, xg_pos (by omega)]
        by_cases a5 : w < 40 + t 1
        · rw [if_pos a5, xg_pos p3, xg_pos (by omega), xg_pos (by omega), e3, (q3 (w - 40).toNat (by omega)).1, if_pos (by omega)]
        · rw [if_neg a5, r81, if_neg (show ¬ (40 ≤ w ∧ w < 40 + t 1) by omega)]
    by_cases a4 : w < 30
    · rw [if_pos a4, r54, if_neg (show ¬ (30 ≤ w ∧ w < 30 + t 0) by omega)]
    · rw [if_neg a4, xg_pos (by omega)]
      by_cases a5 : w < 30 + t 0
      · rw [if_pos a5, xg_pos p2, xg_pos (by omega), xg_pos (by omega), e2, (q2 (w - 30).toNat (by omega)).2, if_pos (by omega)]
      · rw [if_neg a5, r54, if_neg (show ¬ (30 ≤ w ∧ w < 30 + t 0) by omega)]
theorem nuR_e {n s : Nat} {x w : Int} {t : Nat → Int} {g g1 : yH} (hW : tW2 t) (hw : 20 ≤ w) (e1 : f_X12_handDispute n [35, x] (zup g 35 0 0) = some (1, g1)) (R : oR s t g1) : f_X12_dispute n [35, x, w] g = some (nuV t w, g1) := by
  have w0 := hW.1
  have w1 := hW.2.1
  have h56 := R.2.2.2.1
  have h57 := R.2.2.2.2.1
  unfold nuV
  rw [e_X12_dispute, e1, xb_some, if_neg (by decide), h56, xg_pos (by omega), in_f (by omega), xb_some, if_pos rfl, xg_pos (by omega)]
  by_cases a1 : 20 ≤ w ∧ w < 20 + t 0
  · have o := R.of (n := n) (j := 2 + 2 * (w - 20).toNat) (by omega)
    rw [in_t (by omega), xb_some, if_neg (by decide), e_X12_dispute_85, r10 (by omega), xg_pos (by omega), xg_pos (by omega), if_pos (by omega), xg_pos (by omega), show 2 + 2 * (w % 10) + 0 = ((2 + 2 * (w - 20).toNat : Nat) : Int) by omega, o, xb_some, if_pos a1]
  · rw [in_f (by omega), xb_some, if_pos rfl, h56, xg_pos (by omega), if_neg a1]
    by_cases a2 : 30 ≤ w ∧ w < 30 + t 0
    · have o := R.of (n := n) (j := 3 + 2 * (w - 30).toNat) (by omega)
      rw [in_t (by omega), xb_some, if_neg (by decide), e_X12_dispute_85, r10 (by omega), xg_pos (by omega), xg_pos (by omega), if_neg (by omega), xg_pos (by omega), show 2 + 2 * (w % 10) + 1 = ((3 + 2 * (w - 30).toNat : Nat) : Int) by omega, o, xb_some, if_pos a2]
    · rw [in_f (by omega), xb_some, if_pos rfl, h57, xg_pos (by omega), if_neg a2]
      by_cases a3 : 40 ≤ w ∧ w < 40 + t 1
      · have o := R.of (n := n) (j := 20 + 2 * (w - 40).toNat) (by omega)
        rw [in_t (by omega), xb_some, if_neg (by decide), e_X12_dispute_142, r20 (by omega), xg_pos (by omega), xg_pos (by omega), if_pos (by omega), xg_pos (by omega), show 20 + 2 * (w % 20) + 0 = ((20 + 2 * (w - 40).toNat : Nat) : Int) by omega, o, xb_some, if_pos a3]
      · rw [in_f (by omega), xb_some, if_pos rfl, h57, xg_pos (by omega), if_neg a3]
        by_cases a4 : 60 ≤ w ∧ w < 60 + t 1
        · have o := R.of (n := n) (j := 21 + 2 * (w - 60).toNat) (by omega)
          rw [in_t (by omega), xb_some, if_neg (by decide), e_X12_dispute_142, r20 (by omega), xg_pos (by omega), xg_pos (by omega), if_neg (by omega), xg_pos (by omega), show 20 + 2 * (w % 20) + 1 = ((21 + 2 * (w - 60).toNat : Nat) : Int) by omega, o, xb_some, if_pos a4]
        · rw [in_f (by omega), xb_some, if_pos rfl, if_neg (by omega), if_neg (by omega), if_neg (by omega), if_neg (by omega), if_neg (by omega), if_neg (by omega), if_neg (by omega), if_neg a4]
theorem RR_dispute {m n : Nat} {x w : Int} {h g : yH} (hn : 7000 ≤ n) (hm2 : 1200000 ≤ m) (R : RR True h g) (wh : WH g) (h16 : h 1 6 = 180) (ho : cPo h) (hL : lnI h) (hm : h 4 1 ≤ 600) (hq : rQ g) (h4 : ∀ j, j < 12 → 0 ≤ g 4 j ∧ g 4 j ≤ 2) : ∃ v h2 g2, f_X11_dispute n [1, x, w] h = some (v, h2) ∧ f_X12_dispute m [35, x, w] g = some (v, g2) ∧ oyK h g h2 g2 := by
  have hP := R.1
  have n2 := R.n6 (j := 2) (by decide)
  have b2 := h4 2 (by decide)
  have p3 : h 1 0 = 3 := hP.p (by decide)
  by_cases c : 0 ≤ x ∧ x < g 4 2
  · obtain ⟨s, rfl⟩ : ∃ s : Nat, x = (s : Int) := ⟨x.toNat, by omega⟩
    obtain ⟨t, hS, ht, hW⟩ := R.dis (s := s) (by omega) c.2
    have hh : wh2 t := wh.dis (by omega) c.2 ht
    have w0 := hW.1
    have w1 := hW.2.1
    obtain ⟨g1, e1, H⟩ := handD_e (n := m) (d := s) (g := zup g 35 0 0) (by omega) (by omega) (c0_q hq) (c0_4 h4) (by rw [zup_ne (by omega)]; exact c.2) (fun j hj => by rw [zup_ne (by omega)]; exact ht j hj) hW hh
    have cx : (0 ≤ (s : Int) ∧ (s : Int) < h 6 2) := by omega
    have ex : 60 + 10 * (s : Int) = ((60 + 10 * s : Nat) : Int) := by omega
    have h56 : g1 35 56 = t 0 := H.1.2.2.2.1
    have h57 : g1 35 57 = t 1 := H.1.2.2.2.2.1
    have HC : oC (60 + 10 * s) t h := ⟨by omega, hS, hP.q (by omega), ho⟩
    -- where nothing is asked but what is told
    have K0 : oyK h g h g1 := oyK.l R hL hm (H.g (fun _ _ _ => rfl)).1 (H.g (fun _ _ _ => rfl)).2 ho (fun _ _ _ => rfl)
    have K : ∀ h2 g2 : yH, (∀ a j, ¬ (181 ≤ a ∧ a ≤ 186) → h2 a j = h a j) → (∀ a j, ¬ (29 ≤ a ∧ a ≤ 33) → g2 a j = g1 a j) → oyK h g h2 g2 := fun h2 g2 fh fg => by
      obtain ⟨q2, fr⟩ := H.g fg
      exact oyK.l R hL hm q2 fr (ho.fr (fun j hj => fh _ _ (by omega))) (fun a j w => fh a j (by omega))
    by_cases a20 : 20 ≤ w
    · refine ⟨nuV t w, h, g1, ?_, nuR_e hW a20 e1 H.1, K0⟩
      rw [e_X11_dispute, xg_pos p3, findDispute_e hP (by omega), xb_some, if_pos cx, if_neg (by omega), ex, if_neg (by omega), xg_pos (by omega), nuC_e hW HC a20, xb_some]
    · by_cases a10 : 10 ≤ w
      · by_cases an : w < 10 + t 0
        · obtain ⟨v1, h2, A1, A2, A3⟩ := ffo_e (n := n) (by omega) hW HC
          obtain ⟨v2, g2, B1, B2, B3⟩ := lfR_o (n := m) (by omega) hW H.1 H.2.1
          have K2 := K h2 g2 (fun a j w => A2 a j (by omega) (by omega)) (fun a j w => B2 a j (by omega))
          have o2 : cPo h2 := K2.2.1
          have q2 : rQ g2 := H.1.2.1.fr (fun j _ => B2 _ _ (by decide))
          have ej : (((w - 10).toNat : Nat) : Int) = w - 10 := by omega
          rcases A3 with ⟨v1e, ord, A4⟩ | ⟨v1e, no⟩
          · rcases B3 with ⟨v2e, -, B4⟩ | ⟨-, no⟩
            · refine ⟨odV t (w - 10).toNat, h2, g2, ?_, ?_, K2⟩
              · rw [e_X11_dispute, xg_pos p3, findDispute_e hP (by omega), xb_some, if_pos cx, if_neg (by omega), ex, if_pos (by omega), if_neg (by omega), xg_pos (by omega), xg_pos (by omega), Int.toNat_natCast, hS.1, if_pos (by omega), xg_pos h16, xg_pos (by omega), xg_pos (by omega), e_X3_inFirstOrder, A1, xb_some, if_neg (by omega), xg_pos o2.2.2.2.1, xg_pos (by omega), xb_some, A4.2 (w - 10).toNat (by omega)]
              · rw [e_X12_dispute, e1, xb_some, if_neg (by decide), h56, xg_pos (by omega), in_t (by omega), xb_some, if_neg (by decide), B1, xb_some, if_neg (by omega), xg_pos (q2.p (j := 62) (k := 33) (by decide)), xg_pos (by omega), xg_pos (by omega), B4 (w - 10).toNat (by omega)]
            · exact absurd ord no
          · rcases B3 with ⟨-, ord, -⟩ | ⟨v2e, -⟩
            · exact absurd ord no
            · refine ⟨-1, h2, g2, ?_, ?_, K2⟩
              · rw [e_X11_dispute, xg_pos p3, findDispute_e hP (by omega), xb_some, if_pos cx, if_neg (by omega), ex, if_pos (by omega), if_neg (by omega), xg_pos (by omega), xg_pos (by omega), Int.toNat_natCast, hS.1, if_pos (by omega), xg_pos h16, xg_pos (by omega), xg_pos (by omega), e_X3_inFirstOrder, A1, xb_some, if_pos v1e, xb_some]
              · rw [e_X12_dispute, e1, xb_some, if_neg (by decide), h56, xg_pos (by omega), in_t (by omega), xb_some, if_neg (by decide), B1, xb_some, if_pos v2e]
        · refine ⟨-2, h, g1, ?_, ?_, K0⟩
          · rw [e_X11_dispute, xg_pos p3, findDispute_e hP (by omega), xb_some, if_pos cx, if_neg (by omega), ex, if_pos (by omega), if_neg (by omega), xg_pos (by omega), xg_pos (by omega), Int.toNat_natCast, hS.1, if_neg (by omega)]
          · rw [e_X12_dispute, e1, xb_some, if_neg (by decide), h56, xg_pos (by omega), in_f (by omega), xb_some, if_pos rfl, xg_pos (by omega), in_f (by omega), xb_some, if_pos rfl, h56, xg_pos (by omega), in_f (by omega), xb_some, if_pos rfl, h57, xg_pos (by omega), in_f (by omega), xb_some, if_pos rfl, h57, xg_pos (by omega), in_f (by omega), xb_some, if_pos rfl, if_neg (by omega), if_neg (by omega), if_neg (by omega), if_neg (by omega), if_neg (by omega), if_neg (by omega), if_neg (by omega)]
      · by_cases a0 : w = 0
        · refine ⟨t 0, h, g1, ?_, ?_, K0⟩
          · rw [e_X11_dispute, xg_pos p3, findDispute_e hP (by omega), xb_some, if_pos cx, if_neg (by omega), ex, if_pos (by omega), if_pos (by omega), if_pos a0, xg_pos (by omega), Int.toNat_natCast, hS.1]
          · rw [e_X12_dispute, e1, xb_some, if_neg (by decide), h56, xg_pos (by omega), in_f (by omega), xb_some, if_pos rfl, xg_pos (by omega), in_f (by omega), xb_some, if_pos rfl, h56, xg_pos (by omega), in_f (by omega), xb_some, if_pos rfl, h57, xg_pos (by omega), in_f (by omega), xb_some, if_pos rfl, h57, xg_pos (by omega), in_f (by omega), xb_some, if_pos rfl, if_pos a0, h56]
        · by_cases a1 : w = 1
          · refine ⟨t 1, h, g1, ?_, ?_, K0⟩
            · rw [e_X11_dispute, xg_pos p3, findDispute_e hP (by omega), xb_some, if_pos cx, if_neg (by omega), ex, if_pos (by omega), if_pos (by omega), if_neg a0, if_pos a1, xg_pos (by omega), Int.toNat_natCast, hS.2.1]
            · rw [e_X12_dispute, e1, xb_some, if_neg (by decide), h56, xg_pos (by omega), in_f (by omega), xb_some, if_pos rfl, xg_pos (by omega), in_f (by omega), xb_some, if_pos rfl, h56, xg_pos (by omega), in_f (by omega), xb_some, if_pos rfl, h57, xg_pos (by omega), in_f (by omega), xb_some, if_pos rfl, h57, xg_pos (by omega), in_f (by omega), xb_some, if_pos rfl, if_neg a0, if_pos a1, h57]
          · by_cases a2 : w = 2
            · obtain ⟨v, h2, g2, f1, f2, f3, f4⟩ := hmy_e (n := n) (m := m) (by omega) (by omega) hW hh HC H.1 H.2.1
              refine ⟨v, h2, g2, ?_, ?_, K h2 g2 (fun a j w => f3 a j (by omega) (by omega)) (fun a j w => f4 a j (by omega))⟩
              · rw [e_X11_dispute, xg_pos p3, findDispute_e hP (by omega), xb_some, if_pos cx, if_neg (by omega), ex, if_pos (by omega), if_pos (by omega), if_neg a0, if_neg a1, if_pos a2, xg_pos h16, xg_pos (by omega), f1, xb_some]
              · rw [e_X12_dispute, e1, xb_some, if_neg (by decide), h56, xg_pos (by omega), in_f (by omega), xb_some, if_pos rfl, xg_pos (by omega), in_f (by omega), xb_some, if_pos rfl, h56, xg_pos (by omega), in_f (by omega), xb_some, if_pos rfl, h57, xg_pos (by omega), in_f (by omega), xb_some, if_pos rfl, h57, xg_pos (by omega), in_f (by omega), xb_some, if_pos rfl, if_neg a0, if_neg a1, if_pos a2, f2, xb_some]
            · by_cases a3 : w = 3
              · obtain ⟨v1, hA, A1, A2, A3⟩ := ffo_e (n := n) (by omega) hW HC
                obtain ⟨v2, gA, B1, B2, B3⟩ := lfR_o (n := m) (by omega) hW H.1 H.2.1
                rcases A3 with ⟨v1e, ord, A4⟩ | ⟨v1e, no⟩
                · rcases B3 with ⟨v2e, -, B4⟩ | ⟨-, no⟩
                  · obtain ⟨v, h2, g2, f1, f2, f3, f4⟩ := sur_e (n := n) (m := m) (by omega) (by omega) hW (HC.fr (fun a j w => A2 a j (by omega) (by omega))) (H.1.fr (fun a j w => B2 a j (by omega))) (fun j hj => (B2 _ _ (by decide)).trans (H.2.1 j hj)) ord A4
                    refine ⟨v, h2, g2, ?_, ?_, K h2 g2 (fun a j w => by rw [f3 a j (by omega), A2 a j (by omega) (by omega)]) (fun a j w => by rw [f4 a j (by omega), B2 a j (by omega)])⟩
                    · rw [e_X11_dispute, xg_pos p3, findDispute_e hP (by omega), xb_some, if_pos cx, if_neg (by omega), ex, if_pos (by omega), if_pos (by omega), if_neg a0, if_neg a1, if_neg a2, if_pos a3, xg_pos h16, xg_pos (by omega), e_X3_sureCouples, A1, xb_some, if_neg (by omega), f1, xb_some]
                    · rw [e_X12_dispute, e1, xb_some, if_neg (by decide), h56, xg_pos (by omega), in_f (by omega), xb_some, if_pos rfl, xg_pos (by omega), in_f (by omega), xb_some, if_pos rfl, h56, xg_pos (by omega), in_f (by omega), xb_some, if_pos rfl, h57, xg_pos (by omega), in_f (by omega), xb_some, if_pos rfl, h57, xg_pos (by omega), in_f (by omega), xb_some, if_pos rfl, if_neg a0, if_neg a1, if_neg a2, if_pos a3, B1, xb_some, if_neg (by omega), f2, xb_some]
                  · exact absurd ord no
                · rcases B3 with ⟨-, ord, -⟩ | ⟨v2e, -⟩
                  · exact absurd ord no
                  · refine ⟨-1, hA, gA, ?_, ?_, K hA gA (fun a j w => A2 a j (by omega) (by omega)) (fun a j w => B2 a j (by omega))⟩
                    · rw [e_X11_dispute, xg_pos p3, findDispute_e hP (by omega), xb_some, if_pos cx, if_neg (by omega), ex, if_pos (by omega), if_pos (by omega), if_neg a0, if_neg a1, if_neg a2, if_pos a3, xg_pos h16, xg_pos (by omega), e_X3_sureCouples, A1, xb_some, if_pos v1e, xb_some]
                    · rw [e_X12_dispute, e1, xb_some, if_neg (by decide), h56, xg_pos (by omega), in_f (by omega), xb_some, if_pos rfl, xg_pos (by omega), in_f (by omega), xb_some, if_pos rfl, h56, xg_pos (by omega), in_f (by omega), xb_some, if_pos rfl, h57, xg_pos (by omega), in_f (by omega), xb_some, if_pos rfl, h57, xg_pos (by omega), in_f (by omega), xb_some, if_pos rfl, if_neg a0, if_neg a1, if_neg a2, if_pos a3, B1, xb_some, if_pos v2e]
              · by_cases a4 : w = 4
                · obtain ⟨v, h2, g2, f1, f2, f3, f4, f5, -⟩ := fhs_e (n := n) (m := m) (by omega) (by omega) hW hh HC H.1 H.2.1
                  refine ⟨v, h2, g2, ?_, ?_, K h2 g2 (fun a j w => f3 a j (by omega)) (fun a j w => f4 a j (by omega))⟩
                  · rw [e_X11_dispute, xg_pos p3, findDispute_e hP (by omega), xb_some, if_pos cx, if_neg (by omega), ex, if_pos (by omega), if_pos (by omega), if_neg a0, if_neg a1, if_neg a2, if_neg a3, if_pos a4, xg_pos h16, xg_pos (by omega), f1, xb_some]
                    by_cases v0 : v = 0
                    · rw [if_pos v0, v0]
                    · rw [if_neg v0, show v = 1 by omega]
                  · rw [e_X12_dispute, e1, xb_some, if_neg (by decide), h56, xg_pos (by omega), in_f (by omega), xb_some, if_pos rfl, xg_pos (by omega), in_f (by omega), xb_some, if_pos rfl, h56, xg_pos (by omega), in_f (by omega), xb_some, if_pos rfl, h57, xg_pos (by omega), in_f (by omega), xb_some, if_pos rfl, h57, xg_pos (by omega), in_f (by omega), xb_some, if_pos rfl, if_neg a0, if_neg a1, if_neg a2, if_neg a3, if_pos a4, f2, xb_some]
                    by_cases v0 : v = 0
                    · rw [if_pos v0, v0]
                    · rw [if_neg v0, show v = 1 by omega]
                · by_cases a5 : w = 5
                  · obtain ⟨v, h2, g2, f1, f2, f3, f4⟩ := fon_e (n := n) (m := m) (by omega) (by omega) hW hh HC H.1 H.2.1
                    refine ⟨v, h2, g2, ?_, ?_, K h2 g2 (fun a j w => f3 a j (by omega)) (fun a j w => f4 a j (by omega))⟩
                    · rw [e_X11_dispute, xg_pos p3, findDispute_e hP (by omega), xb_some, if_pos cx, if_neg (by omega), ex, if_pos (by omega), if_pos (by omega), if_neg a0, if_neg a1, if_neg a2, if_neg a3, if_neg a4, if_pos a5, xg_pos h16, xg_pos (by omega), f1, xb_some]
                    · rw [e_X12_dispute, e1, xb_some, if_neg (by decide), h56, xg_pos (by omega), in_f (by omega), xb_some, if_pos rfl, xg_pos (by omega), in_f (by omega), xb_some, if_pos rfl, h56, xg_pos (by omega), in_f (by omega), xb_some, if_pos rfl, h57, xg_pos (by omega), in_f (by omega), xb_some, if_pos rfl, h57, xg_pos (by omega), in_f (by omega), xb_some, if_pos rfl, if_neg a0, if_neg a1, if_neg a2, if_neg a3, if_neg a4, if_pos a5, f2, xb_some]
                  · by_cases a6 : w = 6
                    · obtain ⟨v, h2, g2, f1, f2, f3, f4⟩ := few_e (n := n) (m := m) hn hm2 hW hh HC H.1
                      refine ⟨v, h2, g2, ?_, ?_, K h2 g2 (fun a j w => f3 a j (by omega) (by omega)) (fun a j w => f4 a j (by omega) (by omega))⟩
                      · rw [e_X11_dispute, xg_pos p3, findDispute_e hP (by omega), xb_some, if_pos cx, if_neg (by omega), ex, if_pos (by omega), if_pos (by omega), if_neg a0, if_neg a1, if_neg a2, if_neg a3, if_neg a4, if_neg a5, if_pos a6, xg_pos h16, xg_pos (by omega), f1, xb_some]
                      · rw [e_X12_dispute, e1, xb_some, if_neg (by decide), h56, xg_pos (by omega), in_f (by omega), xb_some, if_pos rfl, xg_pos (by omega), in_f (by omega), xb_some, if_pos rfl, h56, xg_pos (by omega), in_f (by omega), xb_some, if_pos rfl, h57, xg_pos (by omega), in_f (by omega), xb_some, if_pos rfl, h57, xg_pos (by omega), in_f (by omega), xb_some, if_pos rfl, if_neg a0, if_neg a1, if_neg a2, if_neg a3, if_neg a4, if_neg a5, if_pos a6, f2, xb_some]
                    · refine ⟨-2, h, g1, ?_, ?_, K0⟩
                      · rw [e_X11_dispute, xg_pos p3, findDispute_e hP (by omega), xb_some, if_pos cx, if_neg (by omega), ex, if_pos (by omega), if_pos (by omega), if_neg a0, if_neg a1, if_neg a2, if_neg a3, if_neg a4, if_neg a5, if_neg a6]
                      · rw [e_X12_dispute, e1, xb_some, if_neg (by decide), h56, xg_pos (by omega), in_f (by omega), xb_some, if_pos rfl, xg_pos (by omega), in_f (by omega), xb_some, if_pos rfl, h56, xg_pos (by omega), in_f (by omega), xb_some, if_pos rfl, h57, xg_pos (by omega), in_f (by omega), xb_some, if_pos rfl, h57, xg_pos (by omega), in_f (by omega), xb_some, if_pos rfl, if_neg a0, if_neg a1, if_neg a2, if_neg a3, if_neg a4, if_neg a5, if_neg a6]
  · refine ⟨-2, h, zup g 35 0 0, ?_, ?_, oyK.n R hL hm ho⟩
    · rw [e_X11_dispute, xg_pos p3, findDispute_e hP (by omega), xb_some, if_neg (show ¬ (0 ≤ x ∧ x < h 6 2) by omega), if_pos (by decide)]
    · rw [e_X12_dispute, handD_n (c0_q hq) (c0_4 h4) (by rw [zup_ne (by omega)]; exact c), xb_some, if_pos rfl]
end
section
/-! hears: both answer (not always alike) -/
theorem anF : ∀ x y : Fin 64, 0 ≤ yari 7 (x.val : Int) (yari 9 (y.val : Int) (-1)) ∧ yari 7 (x.val : Int) (yari 9 (y.val : Int) (-1)) ≤ 63 := by decide +kernel
theorem an_b {x y : Int} (hx : 0 ≤ x ∧ x ≤ 63) (hy : 0 ≤ y ∧ y ≤ 63) : 0 ≤ yari 7 x (yari 9 y (-1)) ∧ yari 7 x (yari 9 y (-1)) ≤ 63 := by
  have := anF ⟨x.toNat, by omega⟩ ⟨y.toNat, by omega⟩
  simp only at this
  rw [Int.toNat_of_nonneg hx.1, Int.toNat_of_nonneg hy.1] at this
  exact this
theorem psr_l {b a : Nat} {to_ : Int} {u : Nat → Int} {h : yH} (hS : cS b u h) (hp : cSp b h) (hW : tW0 u) : ∀ (m k n : Nat) (rch nw : Int), 6 - k = m → k ≤ 6 → m + 16 ≤ n → (0 ≤ rch ∧ rch ≤ 63) → (0 ≤ nw ∧ nw ≤ 63) → ∃ v, xl_X10_passers n 12 [150, (b : Int), (a : Int), to_, rch, nw, (k : Int)] h = some (v, h) := by
  intro m
  induction m with
  | zero =>
    intro k n rch nw e1 hk e2 hr hn
    obtain ⟨n, rfl⟩ : ∃ n', n = n' + 1 := ⟨n - 1, by omega⟩
    exact ⟨-1, by rw [e_X10_passers_12, if_neg (by omega)]⟩
  | succ m ih =>
    intro k n rch nw e1 hk e2 hr hn
    obtain ⟨n, rfl⟩ : ∃ n', n = n' + 1 := ⟨n - 1, by omega⟩
    have hb := (hfa_b (u := u) (x := nw) hW).1
    have ab := an_b hb hr
    rw [e_X10_passers_12, if_pos (by omega), heard_e (by omega) hn hS hp hW, xb_some]
    by_cases c : yari 7 (yari 6 (yari 7 (hfa u nw) (yari 9 rch (-1))) to_) 1 = 1
    · exact ⟨k, by rw [if_pos c]⟩
    · rw [if_neg c, xg_pos (by omega), show (k : Int) + 1 = ((k + 1 : Nat) : Int) by omega]
      exact ih (k + 1) n _ _ (by omega) (by omega) (by omega) (or_b hr ab).1 ab
theorem hearsC_e {n s : Nat} {x y : Int} {t : Nat → Int} {h : yH} (hn : 60 ≤ n) (hP : cP h) (hw : cPw h) (hb : h 6 0 ≤ 2) (hs : (s : Int) < h 6 0) (hS : cS (20 + 10 * s) t h) (hp : cSp (20 + 10 * s) h) (hW : tW0 t) : ∃ v, f_X11_hears n [1, (s : Int), x, y] h = some (v, h) := by
  have w6 := hW.wd.2.2.2.2
  rw [e_X11_hears, xg_pos (hP.p (by decide)), findSea_e hP hb, xb_some, if_pos (show 0 ≤ (s : Int) ∧ (s : Int) < h 6 0 by omega), if_neg (by omega), xg_pos (by omega), show 20 + 10 * (s : Int) = ((20 + 10 * s : Nat) : Int) by omega, hasBoat_e hS, xb_some]
  by_cases c : 0 ≤ x ∧ x < t 6
  · obtain ⟨a, rfl⟩ : ∃ a : Nat, x = (a : Int) := ⟨x.toNat, by omega⟩
    rw [if_pos c, if_neg (by decide)]
    by_cases c1 : y < 0
    · exact ⟨hrs t a, by rw [if_pos c1, xg_pos (by omega), asTold_e (by omega) hS hp hW c.2, xb_some]⟩
    · rw [if_neg c1]
      by_cases c2 : y < 6
      · rw [if_pos c2]
        by_cases c3 : y = (a : Int)
        · exact ⟨-1, by rw [if_pos c3]⟩
        · rw [if_neg c3, xg_pos (by omega), hasBoat_e hS, xb_some]
          by_cases c4 : 0 ≤ y ∧ y < t 6
          · obtain ⟨v, hv⟩ := psr_l (a := a) (to_ := y) hS hp hW 6 0 n (yari 5 1 (a : Int)) (yari 5 1 (a : Int)) rfl (by decide) (by omega) (shF ⟨a, by omega⟩).1 (shF ⟨a, by omega⟩).1
            rw [show ((0 : Nat) : Int) = 0 from rfl] at hv
            exact ⟨v, by rw [if_pos c4, if_neg (by decide), xg_pos hw.1, xg_pos (by omega), e_X10_passers, hv, xb_some]⟩
          · exact ⟨-1, by rw [if_neg c4, if_pos rfl]⟩
      · exact ⟨hrs t a, by rw [if_neg c2, xg_pos (by omega), asTold_e (by omega) hS hp hW c.2, xb_some]⟩
  · exact ⟨-1, by rw [if_neg c, if_pos rfl]⟩
theorem hearsR_e {m s : Nat} {x y : Int} {t : Nat → Int} {g : yH} (hn : 800 ≤ m) (hq : rQ g) (h4 : ∀ j, j < 12 → 0 ≤ g 4 j ∧ g 4 j ≤ 2) (hs : (s : Int) < g 4 0) (ht : ∀ j, j < 50 → g 5 (50 * s + j) = t j) (hW : tW0 t) : yR (f_X12_hears m [35, (s : Int), x, y] g) (fun _ g2 => ∃ g1, hdR s t (zup g 35 0 0) g1 ∧ ∀ a j, a ≠ 12 → g2 a j = g1 a j) := by
  have w6 := hW.wd.2.2.2.2
  refine yR.e e_X12_hears ?_
  refine yR.b (hand_e (by omega) (c0_q hq) (c0_4 h4) (by rw [zup_ne (by omega)]; exact hs) (fun j hj => by rw [zup_ne (by omega)]; exact ht j hj) hW) (fun v g1 ⟨rv, H⟩ => ?_)
  subst rv
  refine yR.f (by decide) ?_
  rw [isBoat_e H.2.1.2.2.2.2.2 hW, xb_some]
  by_cases c : 0 ≤ x ∧ x < t 6
  · obtain ⟨a, rfl⟩ : ∃ a : Nat, x = (a : Int) := ⟨x.toNat, by omega⟩
    rw [if_pos c, if_neg (by decide)]
    by_cases c1 : y = -1
    · rw [if_pos c1, hearersOf_e (by omega) H.v hW c.2, xb_some]
      exact yR.s ⟨g1, H, fun _ _ _ => rfl⟩
    · rw [if_neg c1, isBoat_e H.2.1.2.2.2.2.2 hW, xb_some]
      by_cases c2 : 0 ≤ y ∧ y < t 6
      · rw [if_pos c2, if_neg (by decide)]
        by_cases c3 : y = (a : Int)
        · rw [if_pos c3]
          exact yR.s ⟨g1, H, fun _ _ _ => rfl⟩
        · obtain ⟨g2, k2, k3, k4⟩ := pas_2 (s := s) (t := t) hW c.2 7 0 m g1 rfl (hW.wd).2.2.2.2.1 (by omega) H.v (fun c' hc' => by omega)
          obtain ⟨z, rfl⟩ : ∃ z : Nat, y = (z : Int) := ⟨y.toNat, by omega⟩
          have e2 : f_X12_passOn m [35, (a : Int)] g1 = some (0, g2) := by rw [e_X12_passOn]; exact k2
          have q32 : g2 35 32 = 12 := (k3 _ _ (by decide)).trans (H.1.2.2.2.p (j := 32) (k := 12) (by decide))
          have kz := (k4.2 z c2.2).2.1
          rw [if_neg c3, e2, xb_some, xg_pos q32, xg_pos (by omega), Int.toNat_natCast]
          by_cases c4 : g2 12 z = -1
          · rw [if_pos c4]
            exact yR.s ⟨g1, H, k3⟩
          · rw [if_neg c4, xg_pos q32, xg_pos (by omega), xg_pos (by omega)]
            exact yR.s ⟨g1, H, k3⟩
      · rw [if_neg c2, if_pos rfl]
        exact yR.s ⟨g1, H, fun _ _ _ => rfl⟩
  · rw [if_neg c, if_pos rfl]
    exact yR.s ⟨g1, H, fun _ _ _ => rfl⟩
theorem RR_hears {m n : Nat} {x y z : Int} {h g : yH} (hn : 60 ≤ n) (hm2 : 800 ≤ m) (R : RR True h g) (hw : cPw h) (hL : lnI h) (hm : h 4 1 ≤ 600) (hq : rQ g) (h4 : ∀ j, j < 12 → 0 ≤ g 4 j ∧ g 4 j ≤ 2) : ∃ v w h2 g2, f_X11_hears n [1, x, y, z] h = some (v, h2) ∧ f_X12_hears m [35, x, y, z] g = some (w, g2) ∧ RR True h2 g2 ∧ (∀ a j, h2 a j = h a j) ∧ k7 g g2 := by
  have hP := R.1
  have n0 := R.n6 (j := 0) (by decide)
  have b0 := h4 0 (by decide)
  by_cases c : 0 ≤ x ∧ x < g 4 0
  · obtain ⟨s, rfl⟩ : ∃ s : Nat, x = (s : Int) := ⟨x.toNat, by omega⟩
    obtain ⟨t, hS, hp, ht, hW⟩ := R.sea (s := s) (by omega) c.2
    obtain ⟨v, ev⟩ := hearsC_e (n := n) (s := s) (x := y) (y := z) hn hP hw (by omega) (by omega) hS hp hW
    obtain ⟨w, g2, e2, g1, H, fr⟩ := hearsR_e (m := m) (x := y) (y := z) hm2 hq h4 c.2 ht hW
    have R1 : RR True h g1 := (R.c0 hL hm).hd hL hm H
    have q2 : rQ g2 := H.1.2.2.2.fr (fun j _ => fr _ _ (by omega))
    exact ⟨v, w, h, g2, ev, e2, R1.gf hL hm q2.P (fun a j w => fr a j (by omega)), fun _ _ => rfl, fun a j w1 w2 => (fr a j (by omega)).trans (hdR.k7 H a j w1 w2)⟩
  · refine ⟨-1, -1, h, zup g 35 0 0, ?_, ?_, R.c0 hL hm, fun _ _ => rfl, k7.c0⟩
    · rw [e_X11_hears, xg_pos (hP.p (by decide)), findSea_e hP (by omega), xb_some, if_neg (show ¬ (0 ≤ x ∧ x < h 6 0) by omega), if_pos (by decide)]
    · rw [e_X12_hears, hand_n (c0_q hq) (c0_4 h4) (by rw [zup_ne (by omega)]; exact c), xb_some, if_pos rfl]
end
section
/-! followed where the seas' contents are, and the days' pointers -/
def cDy (h : yH) : Prop := (h 1 3 = 130 ∧ cPr h) ∧ h 1 5 = 170 ∧ cPc h ∧ h 1 6 = 180 ∧ cPo h
theorem cDy.fr {h h2 : yH} (w : cDy h) (e : ∀ a j, (a = 1 ∧ (j = 3 ∨ j = 5 ∨ j = 6)) ∨ a = 130 ∨ a = 131 ∨ a = 170 ∨ a = 180 → h2 a j = h a j) : cDy h2 := ⟨⟨by rw [e _ _ (by omega)]; exact w.1.1, w.1.2.fr (fun a j q => e a j (by omega))⟩, by rw [e _ _ (by omega)]; exact w.2.1, w.2.2.1.fr (fun j _ _ => e 170 j (by omega)), by rw [e _ _ (by omega)]; exact w.2.2.2.1, w.2.2.2.2.fr (fun j _ => e 180 j (by omega))⟩
theorem frD_feed {n : Nat} {x1 x2 x3 x4 x5 v : Int} {h h2 : yH} (hn : 6 ≤ n) (hP : cP h) (hm : 0 ≤ h 4 1 ∧ h 4 1 ≤ 600) (e : f_X11_feed n [1, x1, x2, x3, x4, x5] h = some (v, h2)) (hw : cDy h) : cDy h2 := by
  obtain ⟨N, eN⟩ : ∃ N : Nat, h 4 1 = (N : Int) := ⟨(h 4 1).toNat, by omega⟩
  obtain ⟨v', h', e', -, r⟩ := feedC_r (n := n) (x1 := x1) (x2 := x2) (x3 := x3) (x4 := x4) (x5 := x5) hn hP eN (by omega)
  have ee := Option.some.inj (e.symm.trans e')
  have e2 : h2 = h' := congrArg Prod.snd ee
  rw [e2]
  rcases r with ⟨-, -, r⟩ | ⟨-, -, -, r⟩
  · rw [r]; exact hw
  · exact hw.fr (fun a j w => by rw [r a j (by omega), if_neg (by omega)])
theorem frD_end {n : Nat} {x v : Int} {h h2 : yH} (hP : cP h) (hm : 0 ≤ h 4 1 ∧ h 4 1 ≤ 600) (e : f_X11_end n [1, x] h = some (v, h2)) (hw : cDy h) : cDy h2 := by
  obtain ⟨v', h', e', r⟩ := endC_r (n := n) (x := x) hP hm
  have e2 : h2 = h' := congrArg Prod.snd (Option.some.inj (e.symm.trans e'))
  rw [e2]
  rcases r with ⟨-, -, r⟩ | ⟨-, -, r⟩
  · rw [r]; exact hw
  · exact hw.fr (fun a j w => by rw [r, zup_ne (by omega)])
theorem frD_text {n : Nat} {sort at_ v : Int} {h h2 : yH} (hn : 2800 ≤ n) (hP : cP h) (hm : 0 ≤ h 4 1 ∧ h 4 1 ≤ 600) (h6 : ∀ j, j < 3 → 0 ≤ h 6 j ∧ h 6 j ≤ 2) (e : f_X11_text n [1, sort, at_] h = some (v, h2)) (hw : cDy h) : cDy h2 := by
  obtain ⟨v', h', e', r⟩ := textC_e (u := fun i => yari 7 (h 5 i) 255) (N := (h 4 1).toNat) (n := n) (sort := sort) (at_ := at_) (t0 := tI sort.toNat) hn ⟨by omega, by omega, fun _ _ => rfl, hP⟩ h6 (fun _ _ => rfl)
  have e2 : h2 = h' := congrArg Prod.snd (Option.some.inj (e.symm.trans e'))
  rw [e2]
  exact hw.fr (fun a j w => r.2.2.1 a j (by omega) (by omega) (by omega))
def cW (h g : yH) : Prop := cPw h ∧ WH g ∧ cDy h
theorem cW.p {h g : yH} (w : cW h g) : cPw h := w.1
theorem cW.c {h h2 g : yH} (w : cW h g) (e : cPw h2) (d : cDy h2) : cW h2 g := ⟨e, w.2.1, d⟩
theorem cW.r {h g g2 : yH} (w : cW h g) (e : k7 g g2) : cW h g2 := ⟨w.1, w.2.1.k7 e, w.2.2⟩
/-- behind a question of a day -/
theorem cW.d {h h2 g g2 : yH} (w : cW h g) (d : dyK h g h2 g2) : cW h2 g2 := ⟨w.1.fr (fun a j q => d.2.2.1 a j (by omega)), w.2.1.k7 d.2.2.2, ⟨by rw [d.2.2.1 _ _ (by omega)]; exact w.2.2.1.1, d.2.1⟩, by rw [d.2.2.1 _ _ (by omega)]; exact w.2.2.2.1, w.2.2.2.2.1.fr (fun j _ _ => d.2.2.1 170 j (by omega)), by rw [d.2.2.1 _ _ (by omega)]; exact w.2.2.2.2.2.1, w.2.2.2.2.2.2.fr (fun j _ => d.2.2.1 180 j (by omega))⟩
/-- behind a question of a choice -/
theorem cW.e {h h2 g g2 : yH} (w : cW h g) (d : chK h g h2 g2) : cW h2 g2 := ⟨w.1.fr (fun a j q => d.2.2.1 a j (by omega)), w.2.1.k7 d.2.2.2, ⟨by rw [d.2.2.1 _ _ (by omega)]; exact w.2.2.1.1, w.2.2.1.2.fr (fun a j q => d.2.2.1 a j (by omega))⟩, by rw [d.2.2.1 _ _ (by omega)]; exact w.2.2.2.1, d.2.1, by rw [d.2.2.1 _ _ (by omega)]; exact w.2.2.2.2.2.1, w.2.2.2.2.2.2.fr (fun j _ => d.2.2.1 180 j (by omega))⟩
/-- behind a question of a dispute -/
theorem cW.o {h h2 g g2 : yH} (w : cW h g) (d : oyK h g h2 g2) : cW h2 g2 := ⟨w.1.fr (fun a j q => d.2.2.1 a j (by omega)), w.2.1.k7 d.2.2.2, ⟨by rw [d.2.2.1 _ _ (by omega)]; exact w.2.2.1.1, w.2.2.1.2.fr (fun a j q => d.2.2.1 a j (by omega))⟩, by rw [d.2.2.1 _ _ (by omega)]; exact w.2.2.2.1, w.2.2.2.2.1.fr (fun j _ _ => d.2.2.1 170 j (by omega)), by rw [d.2.2.1 _ _ (by omega)]; exact w.2.2.2.2.2.1, d.2.1⟩
/-- what is told alike, and what else is followed -/
def RW (F : Prop) (h g : yH) : Prop := RR F h g ∧ (F → cW h g)
end
section
theorem dX8_init_0 : decode cX8_init 0 = .ok (.aload_n 0, 1) := by decide +kernel
theorem dX8_init_1 : decode cX8_init 1 = .ok (.invokespecial 3, 3) := by decide +kernel
theorem dX8_init_4 : decode cX8_init 4 = .ok (.aload_n 0, 1) := by decide +kernel
theorem dX8_init_5 : decode cX8_init 5 = .ok (.sipush 600, 3) := by decide +kernel
theorem dX8_init_8 : decode cX8_init 8 = .ok (.newarray .byte, 2) := by decide +kernel
theorem dX8_init_10 : decode cX8_init 10 = .ok (.putfield 9, 3) := by decide +kernel
theorem dX8_init_13 : decode cX8_init 13 = .ok (.return_, 1) := by decide +kernel
theorem dX6_init_0 : decode cX6_init 0 = .ok (.aload_n 0, 1) := by decide +kernel
theorem dX6_init_1 : decode cX6_init 1 = .ok (.invokespecial 3, 3) := by decide +kernel
theorem dX6_init_4 : decode cX6_init 4 = .ok (.aload_n 0, 1) := by decide +kernel
theorem dX6_init_5 : decode cX6_init 5 = .ok (.bipush 12, 2) := by decide +kernel
theorem dX6_init_7 : decode cX6_init 7 = .ok (.newarray .int, 2) := by decide +kernel
theorem dX6_init_9 : decode cX6_init 9 = .ok (.putfield 9, 3) := by decide +kernel
theorem dX6_init_12 : decode cX6_init 12 = .ok (.aload_n 0, 1) := by decide +kernel
theorem dX6_init_13 : decode cX6_init 13 = .ok (.iconst 4, 1) := by decide +kernel
theorem dX6_init_14 : decode cX6_init 14 = .ok (.newarray .int, 2) := by decide +kernel
theorem dX6_init_16 : decode cX6_init 16 = .ok (.putfield 15, 3) := by decide +kernel
theorem dX6_init_19 : decode cX6_init 19 = .ok (.aload_n 0, 1) := by decide +kernel
theorem dX6_init_20 : decode cX6_init 20 = .ok (.iconst 4, 1) := by decide +kernel
theorem dX6_init_21 : decode cX6_init 21 = .ok (.newarray .int, 2) := by decide +kernel
theorem dX6_init_23 : decode cX6_init 23 = .ok (.putfield 18, 3) := by decide +kernel
theorem dX6_init_26 : decode cX6_init 26 = .ok (.aload_n 0, 1) := by decide +kernel
theorem dX6_init_27 : decode cX6_init 27 = .ok (.iconst 4, 1) := by decide +kernel
theorem dX6_init_28 : decode cX6_init 28 = .ok (.newarray .int, 2) := by decide +kernel
theorem dX6_init_30 : decode cX6_init 30 = .ok (.putfield 21, 3) := by decide +kernel
theorem dX6_init_33 : decode cX6_init 33 = .ok (.aload_n 0, 1) := by decide +kernel
theorem dX6_init_34 : decode cX6_init 34 = .ok (.bipush 6, 2) := by decide +kernel
theorem dX6_init_36 : decode cX6_init 36 = .ok (.newarray .int, 2) := by decide +kernel
theorem dX6_init_38 : decode cX6_init 38 = .ok (.putfield 24, 3) := by decide +kernel
theorem dX6_init_41 : decode cX6_init 41 = .ok (.aload_n 0, 1) := by decide +kernel
theorem dX6_init_42 : decode cX6_init 42 = .ok (.bipush 6, 2) := by decide +kernel
theorem dX6_init_44 : decode cX6_init 44 = .ok (.newarray .int, 2) := by decide +kernel
theorem dX6_init_46 : decode cX6_init 46 = .ok (.putfield 27, 3) := by decide +kernel
theorem dX6_init_49 : decode cX6_init 49 = .ok (.aload_n 0, 1) := by decide +kernel
theorem dX6_init_50 : decode cX6_init 50 = .ok (.bipush 6, 2) := by decide +kernel
theorem dX6_init_52 : decode cX6_init 52 = .ok (.newarray .int, 2) := by decide +kernel
theorem dX6_init_54 : decode cX6_init 54 = .ok (.putfield 30, 3) := by decide +kernel
theorem dX6_init_57 : decode cX6_init 57 = .ok (.return_, 1) := by decide +kernel
theorem dX1_init_0 : decode cX1_init 0 = .ok (.aload_n 0, 1) := by decide +kernel
theorem dX1_init_1 : decode cX1_init 1 = .ok (.invokespecial 3, 3) := by decide +kernel
theorem dX1_init_4 : decode cX1_init 4 = .ok (.aload_n 0, 1) := by decide +kernel
theorem dX1_init_5 : decode cX1_init 5 = .ok (.bipush 30, 2) := by decide +kernel
theorem dX1_init_7 : decode cX1_init 7 = .ok (.newarray .int, 2) := by decide +kernel
theorem dX1_init_9 : decode cX1_init 9 = .ok (.putfield 9, 3) := by decide +kernel
theorem dX1_init_12 : decode cX1_init 12 = .ok (.aload_n 0, 1) := by decide +kernel
theorem dX1_init_13 : decode cX1_init 13 = .ok (.bipush 90, 2) := by decide +kernel
theorem dX1_init_15 : decode cX1_init 15 = .ok (.newarray .int, 2) := by decide +kernel
theorem dX1_init_17 : decode cX1_init 17 = .ok (.putfield 15, 3) := by decide +kernel
theorem dX1_init_20 : decode cX1_init 20 = .ok (.return_, 1) := by decide +kernel
theorem dX2_init_0 : decode cX2_init 0 = .ok (.aload_n 0, 1) := by decide +kernel
theorem dX2_init_1 : decode cX2_init 1 = .ok (.invokespecial 3, 3) := by decide +kernel
theorem dX2_init_4 : decode cX2_init 4 = .ok (.aload_n 0, 1) := by decide +kernel
theorem dX2_init_5 : decode cX2_init 5 = .ok (.bipush 9, 2) := by decide +kernel
theorem dX2_init_7 : decode cX2_init 7 = .ok (.newarray .int, 2) := by decide +kernel
theorem dX2_init_9 : decode cX2_init 9 = .ok (.putfield 9, 3) := by decide +kernel
theorem dX2_init_12 : decode cX2_init 12 = .ok (.aload_n 0, 1) := by decide +kernel
theorem dX2_init_13 : decode cX2_init 13 = .ok (.bipush 9, 2) := by decide +kernel
theorem dX2_init_15 : decode cX2_init 15 = .ok (.newarray .int, 2) := by decide +kernel
theorem dX2_init_17 : decode cX2_init 17 = .ok (.putfield 15, 3) := by decide +kernel
theorem dX2_init_20 : decode cX2_init 20 = .ok (.aload_n 0, 1) := by decide +kernel
theorem dX2_init_21 : decode cX2_init 21 = .ok (.bipush 16, 2) := by decide +kernel
theorem dX2_init_23 : decode cX2_init 23 = .ok (.newarray .int, 2) := by decide +kernel
theorem dX2_init_25 : decode cX2_init 25 = .ok (.putfield 18, 3) := by decide +kernel
theorem dX2_init_28 : decode cX2_init 28 = .ok (.aload_n 0, 1) := by decide +kernel
theorem dX2_init_29 : decode cX2_init 29 = .ok (.bipush 16, 2) := by decide +kernel
theorem dX2_init_31 : decode cX2_init 31 = .ok (.newarray .int, 2) := by decide +kernel
theorem dX2_init_33 : decode cX2_init 33 = .ok (.putfield 21, 3) := by decide +kernel
theorem dX2_init_36 : decode cX2_init 36 = .ok (.return_, 1) := by decide +kernel
set_option maxHeartbeats 4000000 in
set_option maxRecDepth 100000 in
theorem c_X8_init (l : Launch) (D : va_G) (cy : Nat → ClassId) (h0 : Nat) (sz : Nat)  : Met l yX8_init wsX8_init ({ frames := 1, cells := 1, slots := 600, locals := 12 } : Room) (va_Pc [.ref h0] (PW D cy [(h0, .inr (8, [.null, .int 0]))] sz)) (va_Qv (fun _ : Unit => True) (fun _ t => ∃ (q_1 : Nat), va_P D vwCl [(h0, .inr (8, [.ref q_1, .int 0])), (q_1, .inl (cy 1, 600, .inl (fun _ => 0)))] t.heap ∧ va_D (va_A [(h0, .inr (8, [.null, .int 0]))] sz) [(h0, .inr (8, [.ref q_1, .int 0])), (q_1, .inl (cy 1, 600, .inl (fun _ => 0)))]) (va_A [(h0, .inr (8, [.null, .int 0]))] sz)) 1 600 (va_A [(h0, .inr (8, [.null, .int 0]))] sz) := by
  refine Met.ofW (cc := cX8_init) (maxL := 1) (ret := none) (by decide) rfl ?_
  intro p e s m args below meth c s₁ B hml hv
  obtain ⟨rfl, hsz, hP, hKW, hD0⟩ := hv
  have hK := hKW.1
  have hx := B.exec
  have hb := B.bytes
  have hr := B.returns
  have hts := atoms_spec (ws := wsX8_init) B.pre
  have hown : s.vm.findClass RX8 = some m.cls := findClass_of_methodNamed B.named
  have hlocks := B.notSynchronized
  have hin : meth.name = "<init>" := (name_of_methodNamed B.named B.method).1
  have in_8 : ∀ w ∈ u_ws RX8 TX8 2, w ∈ wsX8_init := by decide +kernel
  have hy_0 := hts (.methodLink RX8 3 objectInit) (by decide +kernel)
  have hy_1 := hts (.instanceMethod objectInit) (by decide +kernel)
  have hy_2 := hts (.code objectInit ⟨#[0xb1]⟩ 1 none) (by decide +kernel)
  have hy_3 := hts (.arrayClass .byte) (by decide +kernel)
  have fl_9 := hts (.fieldLink RX8 9 "ShoalClaims$Tape" "bytes" "[B") (by decide +kernel)
  subst hsz
  have hD := hD0.self (sz := s.heap.size)
  generalize hAe : va_A [(h0, .inr (8, [.null, .int 0]))] s.heap.size = A at hD ⊢
  have hA : ∀ q : Nat, s.heap.size ≤ q → A q := fun q h => by rw [← hAe]; exact Or.inr h
  have hS : va_S A s.heap s.heap [] := va_S.rf
  have hP : va_P D vwCl [(h0, .inr (8, [.null, .int 0]))] s.heap := hP
  have hl := lv_entry ([.ref h0]) (n := 1) (Nat.le_of_ble_eq_true rfl)
  rw [lg_entry_eq]
  generalize (lg_sl ([.ref h0]) ++ List.replicate (1 - (lg_sl ([.ref h0])).length) Slot.unset).toArray = ls at hl ⊢
  have hl : lv_has ls 1 [(0, .ref h0)] := hl
  refine lv_aload_n hx hb dX8_init_0 rfl (lv_at hl 0 rfl) ?_
  refine W.objInit hx hb hown hy_0 hy_1 hy_2 rfl (by rw [hml]; exact hl.1) rfl dX8_init_1 (Nat.le_of_ble_eq_true rfl) (Nat.le_of_ble_eq_true rfl) ?_
  refine W.eq (g2 := F0 m 4 ls []) rfl ?_
  refine lv_aload_n hx hb dX8_init_4 rfl (lv_at hl 0 rfl) ?_
  refine lv_sipush (v := 600) hx hb dX8_init_5 (by decide +kernel) ?_
  refine nw_a (atype := .byte) (ty := .byte) (cI := cy 1) (n := 600) hx hb hy_3 rfl hK hP hD hS hA 1 rfl rfl 600 (by decide +kernel) (by decide +kernel) (by decide +kernel) (by decide +kernel) (by decide +kernel) dX8_init_8 (fun q_1 H hP hD hS => ?_)
  have hP : va_P D vwCl [(h0, .inr (8, [.null, .int 0])), (q_1, .inl (cy 1, 600, .inl (fun _ => 0)))] H := hP
  have hD : va_D A [(h0, .inr (8, [.null, .int 0])), (q_1, .inl (cy 1, 600, .inl (fun _ => 0)))] := hD
  refine W.widen (k := 1) (n := 600) (by decide +kernel) (by decide +kernel) ?_
  refine va_putF (D := D) (ci := 8) (v := .ref q_1) (ty := .array .byte) (C := RX8) (T := TX8) (N := 2) hx hb hts in_8 tyX8 tyX8_ok nmX8 hown hK hP hD hS 0 rfl rfl 0 (by decide) fl_9 (fun _ h9 => h9) rfl hin rfl (by decide +kernel) rfl rfl (Nat.le_of_ble_eq_true rfl) dX8_init_10 (fun H locs hP hD hS => ?_)
  have hP : va_P D vwCl [(h0, .inr (8, [.ref q_1, .int 0])), (q_1, .inl (cy 1, 600, .inl (fun _ => 0)))] H := hP
  have hD : va_D A [(h0, .inr (8, [.ref q_1, .int 0])), (q_1, .inl (cy 1, 600, .inl (fun _ => 0)))] := hD
  have hP9 := hP.sub (ws' := [(h0, .inr (8, [.ref q_1, .int 0])), (q_1, .inl (cy 1, 600, .inl (fun _ => 0)))]) [0, 1] rfl
  have hD9 := hD.sub (ws' := [(h0, .inr (8, [.ref q_1, .int 0])), (q_1, .inl (cy 1, 600, .inl (fun _ => 0)))]) [0, 1] (by decide) rfl
  exact W.vret hx hb hr (fun t ht hW => ⟨⟨(), rfl, trivial, q_1, by rw [ht]; exact hP9, hD9⟩, hS.F ht⟩) hS.2.2 dX8_init_13
set_option maxHeartbeats 4000000 in
set_option maxRecDepth 100000 in
theorem c_X6_init (l : Launch) (D : va_G) (cy : Nat → ClassId) (h0 : Nat) (sz : Nat)  : Met l yX6_init wsX6_init ({ frames := 1, cells := 7, slots := 42, locals := 12 } : Room) (va_Pc [.ref h0] (PW D cy [(h0, .inr (6, [.int 0, .int 0, .int 0, .int 0, .int 0, .null, .int 0, .null, .null, .null, .int 0, .null, .null, .null, .int 0]))] sz)) (va_Qv (fun _ : Unit => True) (fun _ t => ∃ (q_1 : Nat) (q_2 : Nat) (q_3 : Nat) (q_4 : Nat) (q_5 : Nat) (q_6 : Nat) (q_7 : Nat), va_P D vwCl [(h0, .inr (6, [.int 0, .int 0, .int 0, .int 0, .int 0, .ref q_1, .int 0, .ref q_2, .ref q_3, .ref q_4, .int 0, .ref q_5, .ref q_6, .ref q_7, .int 0])), (q_1, .inl (cy 0, 12, .inl (fun _ => 0))), (q_2, .inl (cy 0, 4, .inl (fun _ => 0))), (q_3, .inl (cy 0, 4, .inl (fun _ => 0))), (q_4, .inl (cy 0, 4, .inl (fun _ => 0))), (q_5, .inl (cy 0, 6, .inl (fun _ => 0))), (q_6, .inl (cy 0, 6, .inl (fun _ => 0))), (q_7, .inl (cy 0, 6, .inl (fun _ => 0)))] t.heap ∧ va_D (va_A [(h0, .inr (6, [.int 0, .int 0, .int 0, .int 0, .int 0, .null, .int 0, .null, .null, .null, .int 0, .null, .null, .null, .int 0]))] sz) [(h0, .inr (6, [.int 0, .int 0, .int 0, .int 0, .int 0, .ref q_1, .int 0, .ref q_2, .ref q_3, .ref q_4, .int 0, .ref q_5, .ref q_6, .ref q_7, .int 0])), (q_1, .inl (cy 0, 12, .inl (fun _ => 0))), (q_2, .inl (cy 0, 4, .inl (fun _ => 0))), (q_3, .inl (cy 0, 4, .inl (fun _ => 0))), (q_4, .inl (cy 0, 4, .inl (fun _ => 0))), (q_5, .inl (cy 0, 6, .inl (fun _ => 0))), (q_6, .inl (cy 0, 6, .inl (fun _ => 0))), (q_7, .inl (cy 0, 6, .inl (fun _ => 0)))]) (va_A [(h0, .inr (6, [.int 0, .int 0, .int 0, .int 0, .int 0, .null, .int 0, .null, .null, .null, .int 0, .null, .null, .null, .int 0]))] sz)) 7 42 (va_A [(h0, .inr (6, [.int 0, .int 0, .int 0, .int 0, .int 0, .null, .int 0, .null, .null, .null, .int 0, .null, .null, .null, .int 0]))] sz) := by
  refine Met.ofW (cc := cX6_init) (maxL := 1) (ret := none) (by decide) rfl ?_
  intro p e s m args below meth c s₁ B hml hv
  obtain ⟨rfl, hsz, hP, hKW, hD0⟩ := hv
  have hK := hKW.1
  have hx := B.exec
  have hb := B.bytes
  have hr := B.returns
  have hts := atoms_spec (ws := wsX6_init) B.pre
  have hown : s.vm.findClass RX6 = some m.cls := findClass_of_methodNamed B.named
  have hlocks := B.notSynchronized
  have hin : meth.name = "<init>" := (name_of_methodNamed B.named B.method).1
  have in_6 : ∀ w ∈ u_ws RX6 TX6 15, w ∈ wsX6_init := by decide +kernel
  have hy_0 := hts (.methodLink RX6 3 objectInit) (by decide +kernel)
  have hy_1 := hts (.instanceMethod objectInit) (by decide +kernel)
  have hy_2 := hts (.code objectInit ⟨#[0xb1]⟩ 1 none) (by decide +kernel)
  have hy_3 := hts (.arrayClass .int) (by decide +kernel)
  have fl_9 := hts (.fieldLink RX6 9 "ShoalClaims$Sea" "laws" "[I") (by decide +kernel)
  have fl_15 := hts (.fieldLink RX6 15 "ShoalClaims$Sea" "shoalCell" "[I") (by decide +kernel)
  have fl_18 := hts (.fieldLink RX6 18 "ShoalClaims$Sea" "shoalFish" "[I") (by decide +kernel)
  have fl_21 := hts (.fieldLink RX6 21 "ShoalClaims$Sea" "shoalDrift" "[I") (by decide +kernel)
  have fl_24 := hts (.fieldLink RX6 24 "ShoalClaims$Sea" "boatCell" "[I") (by decide +kernel)
  have fl_27 := hts (.fieldLink RX6 27 "ShoalClaims$Sea" "boatVoice" "[I") (by decide +kernel)
  have fl_30 := hts (.fieldLink RX6 30 "ShoalClaims$Sea" "boatCoast" "[I") (by decide +kernel)
  subst hsz
  have hD := hD0.self (sz := s.heap.size)
  generalize hAe : va_A [(h0, .inr (6, [.int 0, .int 0, .int 0, .int 0, .int 0, .null, .int 0, .null, .null, .null, .int 0, .null, .null, .null, .int 0]))] s.heap.size = A at hD ⊢
  have hA : ∀ q : Nat, s.heap.size ≤ q → A q := fun q h => by rw [← hAe]; exact Or.inr h
  have hS : va_S A s.heap s.heap [] := va_S.rf
  have hP : va_P D vwCl [(h0, .inr (6, [.int 0, .int 0, .int 0, .int 0, .int 0, .null, .int 0, .null, .null, .null, .int 0, .null, .null, .null, .int 0]))] s.heap := hP
  have hl := lv_entry ([.ref h0]) (n := 1) (Nat.le_of_ble_eq_true rfl)
  rw [lg_entry_eq]
  generalize (lg_sl ([.ref h0]) ++ List.replicate (1 - (lg_sl ([.ref h0])).length) Slot.unset).toArray = ls at hl ⊢
  have hl : lv_has ls 1 [(0, .ref h0)] := hl
  refine lv_aload_n hx hb dX6_init_0 rfl (lv_at hl 0 rfl) ?_
  refine W.objInit hx hb hown hy_0 hy_1 hy_2 rfl (by rw [hml]; exact hl.1) rfl dX6_init_1 (Nat.le_of_ble_eq_true rfl) (Nat.le_of_ble_eq_true rfl) ?_
  refine W.eq (g2 := F0 m 4 ls []) rfl ?_
  refine lv_aload_n hx hb dX6_init_4 rfl (lv_at hl 0 rfl) ?_
  refine lv_bipush (v := 12) hx hb dX6_init_5 (by decide +kernel) ?_
  refine nw_a (atype := .int) (ty := .int) (cI := cy 0) (n := 12) hx hb hy_3 rfl hK hP hD hS hA 0 rfl rfl 12 (by decide +kernel) (by decide +kernel) (by decide +kernel) (by decide +kernel) (by decide +kernel) dX6_init_7 (fun q_1 H hP hD hS => ?_)
  have hP : va_P D vwCl [(h0, .inr (6, [.int 0, .int 0, .int 0, .int 0, .int 0, .null, .int 0, .null, .null, .null, .int 0, .null, .null, .null, .int 0])), (q_1, .inl (cy 0, 12, .inl (fun _ => 0)))] H := hP
  have hD : va_D A [(h0, .inr (6, [.int 0, .int 0, .int 0, .int 0, .int 0, .null, .int 0, .null, .null, .null, .int 0, .null, .null, .null, .int 0])), (q_1, .inl (cy 0, 12, .inl (fun _ => 0)))] := hD
  refine W.widen (k := 1) (n := 12) (by decide +kernel) (by decide +kernel) ?_
  refine va_putF (D := D) (ci := 6) (v := .ref q_1) (ty := .array .int) (C := RX6) (T := TX6) (N := 15) hx hb hts in_6 tyX6 tyX6_ok nmX6 hown hK hP hD hS 0 rfl rfl 5 (by decide) fl_9 (fun _ h9 => h9) rfl hin rfl (by decide +kernel) rfl rfl (Nat.le_of_ble_eq_true rfl) dX6_init_9 (fun H locs hP hD hS => ?_)
  have hP : va_P D vwCl [(h0, .inr (6, [.int 0, .int 0, .int 0, .int 0, .int 0, .ref q_1, .int 0, .null, .null, .null, .int 0, .null, .null, .null, .int 0])), (q_1, .inl (cy 0, 12, .inl (fun _ => 0)))] H := hP
  have hD : va_D A [(h0, .inr (6, [.int 0, .int 0, .int 0, .int 0, .int 0, .ref q_1, .int 0, .null, .null, .null, .int 0, .null, .null, .null, .int 0])), (q_1, .inl (cy 0, 12, .inl (fun _ => 0)))] := hD
  refine lv_aload_n hx hb dX6_init_12 rfl (lv_at hl 0 rfl) ?_
  refine lv_iconst (v := 4) hx hb dX6_init_13 (by decide +kernel) ?_
  refine nw_a (atype := .int) (ty := .int) (cI := cy 0) (n := 4) hx hb hy_3 rfl hK hP hD hS hA 0 rfl rfl 4 (by decide +kernel) (by decide +kernel) (by decide +kernel) (by decide +kernel) (by decide +kernel) dX6_init_14 (fun q_2 H hP hD hS => ?_)
  have hP : va_P D vwCl [(h0, .inr (6, [.int 0, .int 0, .int 0, .int 0, .int 0, .ref q_1, .int 0, .null, .null, .null, .int 0, .null, .null, .null, .int 0])), (q_1, .inl (cy 0, 12, .inl (fun _ => 0))), (q_2, .inl (cy 0, 4, .inl (fun _ => 0)))] H := hP
  have hD : va_D A [(h0, .inr (6, [.int 0, .int 0, .int 0, .int 0, .int 0, .ref q_1, .int 0, .null, .null, .null, .int 0, .null, .null, .null, .int 0])), (q_1, .inl (cy 0, 12, .inl (fun _ => 0))), (q_2, .inl (cy 0, 4, .inl (fun _ => 0)))] := hD
  refine W.widen (k := 2) (n := 16) (by decide +kernel) (by decide +kernel) ?_
  refine va_putF (D := D) (ci := 6) (v := .ref q_2) (ty := .array .int) (C := RX6) (T := TX6) (N := 15) hx hb hts in_6 tyX6 tyX6_ok nmX6 hown hK hP hD hS 0 rfl rfl 7 (by decide) fl_15 (fun _ h9 => h9) rfl hin rfl (by decide +kernel) rfl rfl (Nat.le_of_ble_eq_true rfl) dX6_init_16 (fun H locs hP hD hS => ?_)
  have hP : va_P D vwCl [(h0, .inr (6, [.int 0, .int 0, .int 0, .int 0, .int 0, .ref q_1, .int 0, .ref q_2, .null, .null, .int 0, .null, .null, .null, .int 0])), (q_1, .inl (cy 0, 12, .inl (fun _ => 0))), (q_2, .inl (cy 0, 4, .inl (fun _ => 0)))] H := hP
  have hD : va_D A [(h0, .inr (6, [.int 0, .int 0, .int 0, .int 0, .int 0, .ref q_1, .int 0, .ref q_2, .null, .null, .int 0, .null, .null, .null, .int 0])), (q_1, .inl (cy 0, 12, .inl (fun _ => 0))), (q_2, .inl (cy 0, 4, .inl (fun _ => 0)))] := hD
  refine lv_aload_n hx hb dX6_init_19 rfl (lv_at hl 0 rfl) ?_
  refine lv_iconst (v := 4) hx hb dX6_init_20 (by decide +kernel) ?_
  refine nw_a (atype := .int) (ty := .int) (cI := cy 0) (n := 4) hx hb hy_3 rfl hK hP hD hS hA 0 rfl rfl 4 (by decide +kernel) (by decide +kernel) (by decide +kernel) (by decide +kernel) (by decide +kernel) dX6_init_21 (fun q_3 H hP hD hS => ?_)
  have hP : va_P D vwCl [(h0, .inr (6, [.int 0, .int 0, .int 0, .int 0, .int 0, .ref q_1, .int 0, .ref q_2, .null, .null, .int 0, .null, .null, .null, .int 0])), (q_1, .inl (cy 0, 12, .inl (fun _ => 0))), (q_2, .inl (cy 0, 4, .inl (fun _ => 0))), (q_3, .inl (cy 0, 4, .inl (fun _ => 0)))] H := hP
  have hD : va_D A [(h0, .inr (6, [.int 0, .int 0, .int 0, .int 0, .int 0, .ref q_1, .int 0, .ref q_2, .null, .null, .int 0, .null, .null, .null, .int 0])), (q_1, .inl (cy 0, 12, .inl (fun _ => 0))), (q_2, .inl (cy 0, 4, .inl (fun _ => 0))), (q_3, .inl (cy 0, 4, .inl (fun _ => 0)))] := hD
  refine W.widen (k := 3) (n := 20) (by decide +kernel) (by decide +kernel) ?_
  refine va_putF (D := D) (ci := 6) (v := .ref q_3) (ty := .array .int) (C := RX6) (T := TX6) (N := 15) hx hb hts in_6 tyX6 tyX6_ok nmX6 hown hK hP hD hS 0 rfl rfl 8 (by decide) fl_18 (fun _ h9 => h9) rfl hin rfl (by decide +kernel) rfl rfl (Nat.le_of_ble_eq_true rfl) dX6_init_23 (fun H locs hP hD hS => ?_)
  have hP : va_P D vwCl [(h0, .inr (6, [.int 0, .int 0, .int 0, .int 0, .int 0, .ref q_1, .int 0, .ref q_2, .ref q_3, .null, .int 0, .null, .null, .null, .int 0])), (q_1, .inl (cy 0, 12, .inl (fun _ => 0))), (q_2, .inl (cy 0, 4, .inl (fun _ => 0))), (q_3, .inl (cy 0, 4, .inl (fun _ => 0)))] H := hP
  have hD : va_D A [(h0, .inr (6, [.int 0, .int 0, .int 0, .int 0, .int 0, .ref q_1, .int 0, .ref q_2, .ref q_3, .null, .int 0, .null, .null, .null, .int 0])), (q_1, .inl (cy 0, 12, .inl (fun _ => 0))), (q_2, .inl (cy 0, 4, .inl (fun _ => 0))), (q_3, .inl (cy 0, 4, .inl (fun _ => 0)))] := hD
  refine lv_aload_n hx hb dX6_init_26 rfl (lv_at hl 0 rfl) ?_
  refine lv_iconst (v := 4) hx hb dX6_init_27 (by decide +kernel) ?_
  refine nw_a (atype := .int) (ty := .int) (cI := cy 0) (n := 4) hx hb hy_3 rfl hK hP hD hS hA 0 rfl rfl 4 (by decide +kernel) (by decide +kernel) (by decide +kernel) (by decide +kernel) (by decide +kernel) dX6_init_28 (fun q_4 H hP hD hS => ?_)
  have hP : va_P D vwCl [(h0, .inr (6, [.int 0, .int 0, .int 0, .int 0, .int 0, .ref q_1, .int 0, .ref q_2, .ref q_3, .null, .int 0, .null, .null, .null, .int 0])), (q_1, .inl (cy 0, 12, .inl (fun _ => 0))), (q_2, .inl (cy 0, 4, .inl (fun _ => 0))), (q_3, .inl (cy 0, 4, .inl (fun _ => 0))), (q_4, .inl (cy 0, 4, .inl (fun _ => 0)))] H := hP
  have hD : va_D A [(h0, .inr (6, [.int 0, .int 0, .int 0, .int 0, .int 0, .ref q_1, .int 0, .ref q_2, .ref q_3, .null, .int 0, .null, .null, .null, .int 0])), (q_1, .inl (cy 0, 12, .inl (fun _ => 0))), (q_2, .inl (cy 0, 4, .inl (fun _ => 0))), (q_3, .inl (cy 0, 4, .inl (fun _ => 0))), (q_4, .inl (cy 0, 4, .inl (fun _ => 0)))] := hD
  refine W.widen (k := 4) (n := 24) (by decide +kernel) (by decide +kernel) ?_
  refine va_putF (D := D) (ci := 6) (v := .ref q_4) (ty := .array .int) (C := RX6) (T := TX6) (N := 15) hx hb hts in_6 tyX6 tyX6_ok nmX6 hown hK hP hD hS 0 rfl rfl 9 (by decide) fl_21 (fun _ h9 => h9) rfl hin rfl (by decide +kernel) rfl rfl (Nat.le_of_ble_eq_true rfl) dX6_init_30 (fun H locs hP hD hS => ?_)
  have hP : va_P D vwCl [(h0, .inr (6, [.int 0, .int 0, .int 0, .int 0, .int 0, .ref q_1, .int 0, .ref q_2, .ref q_3, .ref q_4, .int 0, .null, .null, .null, .int 0])), (q_1, .inl (cy 0, 12, .inl (fun _ => 0))), (q_2, .inl (cy 0, 4, .inl (fun _ => 0))), (q_3, .inl (cy 0, 4, .inl (fun _ => 0))), (q_4, .inl (cy 0, 4, .inl (fun _ => 0)))] H := hP
  have hD : va_D A [(h0, .inr (6, [.int 0, .int 0, .int 0, .int 0, .int 0, .ref q_1, .int 0, .ref q_2, .ref q_3, .ref q_4, .int 0, .null, .null, .null, .int 0])), (q_1, .inl (cy 0, 12, .inl (fun _ => 0))), (q_2, .inl (cy 0, 4, .inl (fun _ => 0))), (q_3, .inl (cy 0, 4, .inl (fun _ => 0))), (q_4, .inl (cy 0, 4, .inl (fun _ => 0)))] := hD
  refine lv_aload_n hx hb dX6_init_33 rfl (lv_at hl 0 rfl) ?_
  refine lv_bipush (v := 6) hx hb dX6_init_34 (by decide +kernel) ?_
  refine nw_a (atype := .int) (ty := .int) (cI := cy 0) (n := 6) hx hb hy_3 rfl hK hP hD hS hA 0 rfl rfl 6 (by decide +kernel) (by decide +kernel) (by decide +kernel) (by decide +kernel) (by decide +kernel) dX6_init_36 (fun q_5 H hP hD hS => ?_)
  have hP : va_P D vwCl [(h0, .inr (6, [.int 0, .int 0, .int 0, .int 0, .int 0, .ref q_1, .int 0, .ref q_2, .ref q_3, .ref q_4, .int 0, .null, .null, .null, .int 0])), (q_1, .inl (cy 0, 12, .inl (fun _ => 0))), (q_2, .inl (cy 0, 4, .inl (fun _ => 0))), (q_3, .inl (cy 0, 4, .inl (fun _ => 0))), (q_4, .inl (cy 0, 4, .inl (fun _ => 0))), (q_5, .inl (cy 0, 6, .inl (fun _ => 0)))] H := hP
  have hD : va_D A [(h0, .inr (6, [.int 0, .int 0, .int 0, .int 0, .int 0, .ref q_1, .int 0, .ref q_2, .ref q_3, .ref q_4, .int 0, .null, .null, .null, .int 0])), (q_1, .inl (cy 0, 12, .inl (fun _ => 0))), (q_2, .inl (cy 0, 4, .inl (fun _ => 0))), (q_3, .inl (cy 0, 4, .inl (fun _ => 0))), (q_4, .inl (cy 0, 4, .inl (fun _ => 0))), (q_5, .inl (cy 0, 6, .inl (fun _ => 0)))] := hD
  refine W.widen (k := 5) (n := 30) (by decide +kernel) (by decide +kernel) ?_
  refine va_putF (D := D) (ci := 6) (v := .ref q_5) (ty := .array .int) (C := RX6) (T := TX6) (N := 15) hx hb hts in_6 tyX6 tyX6_ok nmX6 hown hK hP hD hS 0 rfl rfl 11 (by decide) fl_24 (fun _ h9 => h9) rfl hin rfl (by decide +kernel) rfl rfl (Nat.le_of_ble_eq_true rfl) dX6_init_38 (fun H locs hP hD hS => ?_)
  have hP : va_P D vwCl [(h0, .inr (6, [.int 0, .int 0, .int 0, .int 0, .int 0, .ref q_1, .int 0, .ref q_2, .ref q_3, .ref q_4, .int 0, .ref q_5, .null, .null, .int 0])), (q_1, .inl (cy 0, 12, .inl (fun _ => 0))), (q_2, .inl (cy 0, 4, .inl (fun _ => 0))), (q_3, .inl (cy 0, 4, .inl (fun _ => 0))), (q_4, .inl (cy 0, 4, .inl (fun _ => 0))), (q_5, .inl (cy 0, 6, .inl (fun _ => 0)))] H := hP
  have hD : va_D A [(h0, .inr (6, [.int 0, .int 0, .int 0, .int 0, .int 0, .ref q_1, .int 0, .ref q_2, .ref q_3, .ref q_4, .int 0, .ref q_5, .null, .null, .int 0])), (q_1, .inl (cy 0, 12, .inl (fun _ => 0))), (q_2, .inl (cy 0, 4, .inl (fun _ => 0))), (q_3, .inl (cy 0, 4, .inl (fun _ => 0))), (q_4, .inl (cy 0, 4, .inl (fun _ => 0))), (q_5, .inl (cy 0, 6, .inl (fun _ => 0)))] := hD
  refine lv_aload_n hx hb dX6_init_41 rfl (lv_at hl 0 rfl) ?_
  refine lv_bipush (v := 6) hx hb dX6_init_42 (by decide +kernel) ?_
  refine nw_a (atype := .int) (ty := .int) (cI := cy 0) (n := 6) hx hb hy_3 rfl hK hP hD hS hA 0 rfl rfl 6 (by decide +kernel) (by decide +kernel) (by decide +kernel) (by decide +kernel) (by decide +kernel) dX6_init_44 (fun q_6 H hP hD hS => ?_)
  have hP : va_P D vwCl [(h0, .inr (6, [.int 0, .int 0, .int 0, .int 0, .int 0, .ref q_1, .int 0, .ref q_2, .ref q_3, .ref q_4, .int 0, .ref q_5, .null, .null, .int 0])), (q_1, .inl (cy 0, 12, .inl (fun _ => 0))), (q_2, .inl (cy 0, 4, .inl (fun _ => 0))), (q_3, .inl (cy 0, 4, .inl (fun _ => 0))), (q_4, .inl (cy 0, 4, .inl (fun _ => 0))), (q_5, .inl (cy 0, 6, .inl (fun _ => 0))), (q_6, .inl (cy 0, 6, .inl (fun _ => 0)))] H := hP
  have hD : va_D A [(h0, .inr (6, [.int 0, .int 0, .int 0, .int 0, .int 0, .ref q_1, .int 0, .ref q_2, .ref q_3, .ref q_4, .int 0, .ref q_5, .null, .null, .int 0])), (q_1, .inl (cy 0, 12, .inl (fun _ => 0))), (q_2, .inl (cy 0, 4, .inl (fun _ => 0))), (q_3, .inl (cy 0, 4, .inl (fun _ => 0))), (q_4, .inl (cy 0, 4, .inl (fun _ => 0))), (q_5, .inl (cy 0, 6, .inl (fun _ => 0))), (q_6, .inl (cy 0, 6, .inl (fun _ => 0)))] := hD
  refine W.widen (k := 6) (n := 36) (by decide +kernel) (by decide +kernel) ?_
  refine va_putF (D := D) (ci := 6) (v := .ref q_6) (ty := .array .int) (C := RX6) (T := TX6) (N := 15) hx hb hts in_6 tyX6 tyX6_ok nmX6 hown hK hP hD hS 0 rfl rfl 12 (by decide) fl_27 (fun _ h9 => h9) rfl hin rfl (by decide +kernel) rfl rfl (Nat.le_of_ble_eq_true rfl) dX6_init_46 (fun H locs hP hD hS => ?_)
  have hP : va_P D vwCl [(h0, .inr (6, [.int 0, .int 0, .int 0, .int 0, .int 0, .ref q_1, .int 0, .ref q_2, .ref q_3, .ref q_4, .int 0, .ref q_5, .ref q_6, .null, .int 0])), (q_1, .inl (cy 0, 12, .inl (fun _ => 0))), (q_2, .inl (cy 0, 4, .inl (fun _ => 0))), (q_3, .inl (cy 0, 4, .inl (fun _ => 0))), (q_4, .inl (cy 0, 4, .inl (fun _ => 0))), (q_5, .inl (cy 0, 6, .inl (fun _ => 0))), (q_6, .inl (cy 0, 6, .inl (fun _ => 0)))] H := hP
  have hD : va_D A [(h0, .inr (6, [.int 0, .int 0, .int 0, .int 0, .int 0, .ref q_1, .int 0, .ref q_2, .ref q_3, .ref q_4, .int 0, .ref q_5, .ref q_6, .null, .int 0])), (q_1, .inl (cy 0, 12, .inl (fun _ => 0))), (q_2, .inl (cy 0, 4, .inl (fun _ => 0))), (q_3, .inl (cy 0, 4, .inl (fun _ => 0))), (q_4, .inl (cy 0, 4, .inl (fun _ => 0))), (q_5, .inl (cy 0, 6, .inl (fun _ => 0))), (q_6, .inl (cy 0, 6, .inl (fun _ => 0)))] := hD
  refine lv_aload_n hx hb dX6_init_49 rfl (lv_at hl 0 rfl) ?_
  refine lv_bipush (v := 6) hx hb dX6_init_50 (by decide +kernel) ?_
  refine nw_a (atype := .int) (ty := .int) (cI := cy 0) (n := 6) hx hb hy_3 rfl hK hP hD hS hA 0 rfl rfl 6 (by decide +kernel) (by decide +kernel) (by decide +kernel) (by decide +kernel) (by decide +kernel) dX6_init_52 (fun q_7 H hP hD hS => ?_)
  have hP : va_P D vwCl [(h0, .inr (6, [.int 0, .int 0, .int 0, .int 0, .int 0, .ref q_1, .int 0, .ref q_2, .ref q_3, .ref q_4, .int 0, .ref q_5, .ref q_6, .null, .int 0])), (q_1, .inl (cy 0, 12, .inl (fun _ => 0))), (q_2, .inl (cy 0, 4, .inl (fun _ => 0))), (q_3, .inl (cy 0, 4, .inl (fun _ => 0))), (q_4, .inl (cy 0, 4, .inl (fun _ => 0))), (q_5, .inl (cy 0, 6, .inl (fun _ => 0))), (q_6, .inl (cy 0, 6, .inl (fun _ => 0))), (q_7, .inl (cy 0, 6, .inl (fun _ => 0)))] H := hP
  have hD : va_D A [(h0, .inr (6, [.int 0, .int 0, .int 0, .int 0, .int 0, .ref q_1, .int 0, .ref q_2, .ref q_3, .ref q_4, .int 0, .ref q_5, .ref q_6, .null, .int 0])), (q_1, .inl (cy 0, 12, .inl (fun _ => 0))), (q_2, .inl (cy 0, 4, .inl (fun _ => 0))), (q_3, .inl (cy 0, 4, .inl (fun _ => 0))), (q_4, .inl (cy 0, 4, .inl (fun _ => 0))), (q_5, .inl (cy 0, 6, .inl (fun _ => 0))), (q_6, .inl (cy 0, 6, .inl (fun _ => 0))), (q_7, .inl (cy 0, 6, .inl (fun _ => 0)))] := hD
  refine W.widen (k := 7) (n := 42) (by decide +kernel) (by decide +kernel) ?_
  refine va_putF (D := D) (ci := 6) (v := .ref q_7) (ty := .array .int) (C := RX6) (T := TX6) (N := 15) hx hb hts in_6 tyX6 tyX6_ok nmX6 hown hK hP hD hS 0 rfl rfl 13 (by decide) fl_30 (fun _ h9 => h9) rfl hin rfl (by decide +kernel) rfl rfl (Nat.le_of_ble_eq_true rfl) dX6_init_54 (fun H locs hP hD hS => ?_)
  have hP : va_P D vwCl [(h0, .inr (6, [.int 0, .int 0, .int 0, .int 0, .int 0, .ref q_1, .int 0, .ref q_2, .ref q_3, .ref q_4, .int 0, .ref q_5, .ref q_6, .ref q_7, .int 0])), (q_1, .inl (cy 0, 12, .inl (fun _ => 0))), (q_2, .inl (cy 0, 4, .inl (fun _ => 0))), (q_3, .inl (cy 0, 4, .inl (fun _ => 0))), (q_4, .inl (cy 0, 4, .inl (fun _ => 0))), (q_5, .inl (cy 0, 6, .inl (fun _ => 0))), (q_6, .inl (cy 0, 6, .inl (fun _ => 0))), (q_7, .inl (cy 0, 6, .inl (fun _ => 0)))] H := hP
  have hD : va_D A [(h0, .inr (6, [.int 0, .int 0, .int 0, .int 0, .int 0, .ref q_1, .int 0, .ref q_2, .ref q_3, .ref q_4, .int 0, .ref q_5, .ref q_6, .ref q_7, .int 0])), (q_1, .inl (cy 0, 12, .inl (fun _ => 0))), (q_2, .inl (cy 0, 4, .inl (fun _ => 0))), (q_3, .inl (cy 0, 4, .inl (fun _ => 0))), (q_4, .inl (cy 0, 4, .inl (fun _ => 0))), (q_5, .inl (cy 0, 6, .inl (fun _ => 0))), (q_6, .inl (cy 0, 6, .inl (fun _ => 0))), (q_7, .inl (cy 0, 6, .inl (fun _ => 0)))] := hD
  have hP9 := hP.sub (ws' := [(h0, .inr (6, [.int 0, .int 0, .int 0, .int 0, .int 0, .ref q_1, .int 0, .ref q_2, .ref q_3, .ref q_4, .int 0, .ref q_5, .ref q_6, .ref q_7, .int 0])), (q_1, .inl (cy 0, 12, .inl (fun _ => 0))), (q_2, .inl (cy 0, 4, .inl (fun _ => 0))), (q_3, .inl (cy 0, 4, .inl (fun _ => 0))), (q_4, .inl (cy 0, 4, .inl (fun _ => 0))), (q_5, .inl (cy 0, 6, .inl (fun _ => 0))), (q_6, .inl (cy 0, 6, .inl (fun _ => 0))), (q_7, .inl (cy 0, 6, .inl (fun _ => 0)))]) [0, 1, 2, 3, 4, 5, 6, 7] rfl
  have hD9 := hD.sub (ws' := [(h0, .inr (6, [.int 0, .int 0, .int 0, .int 0, .int 0, .ref q_1, .int 0, .ref q_2, .ref q_3, .ref q_4, .int 0, .ref q_5, .ref q_6, .ref q_7, .int 0])), (q_1, .inl (cy 0, 12, .inl (fun _ => 0))), (q_2, .inl (cy 0, 4, .inl (fun _ => 0))), (q_3, .inl (cy 0, 4, .inl (fun _ => 0))), (q_4, .inl (cy 0, 4, .inl (fun _ => 0))), (q_5, .inl (cy 0, 6, .inl (fun _ => 0))), (q_6, .inl (cy 0, 6, .inl (fun _ => 0))), (q_7, .inl (cy 0, 6, .inl (fun _ => 0)))]) [0, 1, 2, 3, 4, 5, 6, 7] (by decide) rfl
  exact W.vret hx hb hr (fun t ht hW => ⟨⟨(), rfl, trivial, q_1, q_2, q_3, q_4, q_5, q_6, q_7, by rw [ht]; exact hP9, hD9⟩, hS.F ht⟩) hS.2.2 dX6_init_57
set_option maxHeartbeats 4000000 in
set_option maxRecDepth 100000 in
theorem c_X1_init (l : Launch) (D : va_G) (cy : Nat → ClassId) (h0 : Nat) (sz : Nat)  : Met l yX1_init wsX1_init ({ frames := 1, cells := 2, slots := 120, locals := 12 } : Room) (va_Pc [.ref h0] (PW D cy [(h0, .inr (1, [.int 0, .null, .null]))] sz)) (va_Qv (fun _ : Unit => True) (fun _ t => ∃ (q_1 : Nat) (q_2 : Nat), va_P D vwCl [(h0, .inr (1, [.int 0, .ref q_1, .ref q_2])), (q_1, .inl (cy 0, 30, .inl (fun _ => 0))), (q_2, .inl (cy 0, 90, .inl (fun _ => 0)))] t.heap ∧ va_D (va_A [(h0, .inr (1, [.int 0, .null, .null]))] sz) [(h0, .inr (1, [.int 0, .ref q_1, .ref q_2])), (q_1, .inl (cy 0, 30, .inl (fun _ => 0))), (q_2, .inl (cy 0, 90, .inl (fun _ => 0)))]) (va_A [(h0, .inr (1, [.int 0, .null, .null]))] sz)) 2 120 (va_A [(h0, .inr (1, [.int 0, .null, .null]))] sz) := by
  refine Met.ofW (cc := cX1_init) (maxL := 1) (ret := none) (by decide) rfl ?_
  intro p e s m args below meth c s₁ B hml hv
  obtain ⟨rfl, hsz, hP, hKW, hD0⟩ := hv
  have hK := hKW.1
  have hx := B.exec
  have hb := B.bytes
  have hr := B.returns
  have hts := atoms_spec (ws := wsX1_init) B.pre
  have hown : s.vm.findClass RX1 = some m.cls := findClass_of_methodNamed B.named
  have hlocks := B.notSynchronized
  have hin : meth.name = "<init>" := (name_of_methodNamed B.named B.method).1
  have in_1 : ∀ w ∈ u_ws RX1 TX1 3, w ∈ wsX1_init := by decide +kernel
  have hy_0 := hts (.methodLink RX1 3 objectInit) (by decide +kernel)
  have hy_1 := hts (.instanceMethod objectInit) (by decide +kernel)
  have hy_2 := hts (.code objectInit ⟨#[0xb1]⟩ 1 none) (by decide +kernel)
  have hy_3 := hts (.arrayClass .int) (by decide +kernel)
  have fl_9 := hts (.fieldLink RX1 9 "ShoalClaims$Day" "kinds" "[I") (by decide +kernel)
  have fl_15 := hts (.fieldLink RX1 15 "ShoalClaims$Day" "numbers" "[I") (by decide +kernel)
  subst hsz
  have hD := hD0.self (sz := s.heap.size)
  generalize hAe : va_A [(h0, .inr (1, [.int 0, .null, .null]))] s.heap.size = A at hD ⊢
  have hA : ∀ q : Nat, s.heap.size ≤ q → A q := fun q h => by rw [← hAe]; exact Or.inr h
  have hS : va_S A s.heap s.heap [] := va_S.rf
  have hP : va_P D vwCl [(h0, .inr (1, [.int 0, .null, .null]))] s.heap := hP
  have hl := lv_entry ([.ref h0]) (n := 1) (Nat.le_of_ble_eq_true rfl)
  rw [lg_entry_eq]
  generalize (lg_sl ([.ref h0]) ++ List.replicate (1 - (lg_sl ([.ref h0])).length) Slot.unset).toArray = ls at hl ⊢
  have hl : lv_has ls 1 [(0, .ref h0)] := hl
  refine lv_aload_n hx hb dX1_init_0 rfl (lv_at hl 0 rfl) ?_
  refine W.objInit hx hb hown hy_0 hy_1 hy_2 rfl (by rw [hml]; exact hl.1) rfl dX1_init_1 (Nat.le_of_ble_eq_true rfl) (Nat.le_of_ble_eq_true rfl) ?_
  refine W.eq (g2 := F0 m 4 ls []) rfl ?_
  refine lv_aload_n hx hb dX1_init_4 rfl (lv_at hl 0 rfl) ?_
  refine lv_bipush (v := 30) hx hb dX1_init_5 (by decide +kernel) ?_
  refine nw_a (atype := .int) (ty := .int) (cI := cy 0) (n := 30) hx hb hy_3 rfl hK hP hD hS hA 0 rfl rfl 30 (by decide +kernel) (by decide +kernel) (by decide +kernel) (by decide +kernel) (by decide +kernel) dX1_init_7 (fun q_1 H hP hD hS => ?_)
  have hP : va_P D vwCl [(h0, .inr (1, [.int 0, .null, .null])), (q_1, .inl (cy 0, 30, .inl (fun _ => 0)))] H := hP
  have hD : va_D A [(h0, .inr (1, [.int 0, .null, .null])), (q_1, .inl (cy 0, 30, .inl (fun _ => 0)))] := hD
  refine W.widen (k := 1) (n := 30) (by decide +kernel) (by decide +kernel) ?_
  refine va_putF (D := D) (ci := 1) (v := .ref q_1) (ty := .array .int) (C := RX1) (T := TX1) (N := 3) hx hb hts in_1 tyX1 tyX1_ok nmX1 hown hK hP hD hS 0 rfl rfl 1 (by decide) fl_9 (fun _ h9 => h9) rfl hin rfl (by decide +kernel) rfl rfl (Nat.le_of_ble_eq_true rfl) dX1_init_9 (fun H locs hP hD hS => ?_)
  have hP : va_P D vwCl [(h0, .inr (1, [.int 0, .ref q_1, .null])), (q_1, .inl (cy 0, 30, .inl (fun _ => 0)))] H := hP
  have hD : va_D A [(h0, .inr (1, [.int 0, .ref q_1, .null])), (q_1, .inl (cy 0, 30, .inl (fun _ => 0)))] := hD
  refine lv_aload_n hx hb dX1_init_12 rfl (lv_at hl 0 rfl) ?_
  refine lv_bipush (v := 90) hx hb dX1_init_13 (by decide +kernel) ?_
  refine nw_a (atype := .int) (ty := .int) (cI := cy 0) (n := 90) hx hb hy_3 rfl hK hP hD hS hA 0 rfl rfl 90 (by decide +kernel) (by decide +kernel) (by decide +kernel) (by decide +kernel) (by decide +kernel) dX1_init_15 (fun q_2 H hP hD hS => ?_)
  have hP : va_P D vwCl [(h0, .inr (1, [.int 0, .ref q_1, .null])), (q_1, .inl (cy 0, 30, .inl (fun _ => 0))), (q_2, .inl (cy 0, 90, .inl (fun _ => 0)))] H := hP
  have hD : va_D A [(h0, .inr (1, [.int 0, .ref q_1, .null])), (q_1, .inl (cy 0, 30, .inl (fun _ => 0))), (q_2, .inl (cy 0, 90, .inl (fun _ => 0)))] := hD
  refine W.widen (k := 2) (n := 120) (by decide +kernel) (by decide +kernel) ?_
  refine va_putF (D := D) (ci := 1) (v := .ref q_2) (ty := .array .int) (C := RX1) (T := TX1) (N := 3) hx hb hts in_1 tyX1 tyX1_ok nmX1 hown hK hP hD hS 0 rfl rfl 2 (by decide) fl_15 (fun _ h9 => h9) rfl hin rfl (by decide +kernel) rfl rfl (Nat.le_of_ble_eq_true rfl) dX1_init_17 (fun H locs hP hD hS => ?_)
  have hP : va_P D vwCl [(h0, .inr (1, [.int 0, .ref q_1, .ref q_2])), (q_1, .inl (cy 0, 30, .inl (fun _ => 0))), (q_2, .inl (cy 0, 90, .inl (fun _ => 0)))] H := hP
  have hD : va_D A [(h0, .inr (1, [.int 0, .ref q_1, .ref q_2])), (q_1, .inl (cy 0, 30, .inl (fun _ => 0))), (q_2, .inl (cy 0, 90, .inl (fun _ => 0)))] := hD
  have hP9 := hP.sub (ws' := [(h0, .inr (1, [.int 0, .ref q_1, .ref q_2])), (q_1, .inl (cy 0, 30, .inl (fun _ => 0))), (q_2, .inl (cy 0, 90, .inl (fun _ => 0)))]) [0, 1, 2] rfl
  have hD9 := hD.sub (ws' := [(h0, .inr (1, [.int 0, .ref q_1, .ref q_2])), (q_1, .inl (cy 0, 30, .inl (fun _ => 0))), (q_2, .inl (cy 0, 90, .inl (fun _ => 0)))]) [0, 1, 2] (by decide) rfl
  exact W.vret hx hb hr (fun t ht hW => ⟨⟨(), rfl, trivial, q_1, q_2, by rw [ht]; exact hP9, hD9⟩, hS.F ht⟩) hS.2.2 dX1_init_20
set_option maxHeartbeats 4000000 in
set_option maxRecDepth 100000 in
theorem c_X2_init (l : Launch) (D : va_G) (cy : Nat → ClassId) (h0 : Nat) (sz : Nat)  : Met l yX2_init wsX2_init ({ frames := 1, cells := 4, slots := 50, locals := 12 } : Room) (va_Pc [.ref h0] (PW D cy [(h0, .inr (2, [.int 0, .null, .null, .int 0, .null, .null]))] sz)) (va_Qv (fun _ : Unit => True) (fun _ t => ∃ (q_1 : Nat) (q_2 : Nat) (q_3 : Nat) (q_4 : Nat), va_P D vwCl [(h0, .inr (2, [.int 0, .ref q_1, .ref q_2, .int 0, .ref q_3, .ref q_4])), (q_1, .inl (cy 0, 9, .inl (fun _ => 0))), (q_2, .inl (cy 0, 9, .inl (fun _ => 0))), (q_3, .inl (cy 0, 16, .inl (fun _ => 0))), (q_4, .inl (cy 0, 16, .inl (fun _ => 0)))] t.heap ∧ va_D (va_A [(h0, .inr (2, [.int 0, .null, .null, .int 0, .null, .null]))] sz) [(h0, .inr (2, [.int 0, .ref q_1, .ref q_2, .int 0, .ref q_3, .ref q_4])), (q_1, .inl (cy 0, 9, .inl (fun _ => 0))), (q_2, .inl (cy 0, 9, .inl (fun _ => 0))), (q_3, .inl (cy 0, 16, .inl (fun _ => 0))), (q_4, .inl (cy 0, 16, .inl (fun _ => 0)))]) (va_A [(h0, .inr (2, [.int 0, .null, .null, .int 0, .null, .null]))] sz)) 4 50 (va_A [(h0, .inr (2, [.int 0, .null, .null, .int 0, .null, .null]))] sz) := by
  refine Met.ofW (cc := cX2_init) (maxL := 1) (ret := none) (by decide) rfl ?_
  intro p e s m args below meth c s₁ B hml hv
  obtain ⟨rfl, hsz, hP, hKW, hD0⟩ := hv
  have hK := hKW.1
  have hx := B.exec
  have hb := B.bytes
  have hr := B.returns
  have hts := atoms_spec (ws := wsX2_init) B.pre
  have hown : s.vm.findClass RX2 = some m.cls := findClass_of_methodNamed B.named
  have hlocks := B.notSynchronized
  have hin : meth.name = "<init>" := (name_of_methodNamed B.named B.method).1
  have in_2 : ∀ w ∈ u_ws RX2 TX2 6, w ∈ wsX2_init := by decide +kernel
  have hy_0 := hts (.methodLink RX2 3 objectInit) (by decide +kernel)
  have hy_1 := hts (.instanceMethod objectInit) (by decide +kernel)
  have hy_2 := hts (.code objectInit ⟨#[0xb1]⟩ 1 none) (by decide +kernel)
  have hy_3 := hts (.arrayClass .int) (by decide +kernel)
  have fl_9 := hts (.fieldLink RX2 9 "ShoalClaims$Dispute" "from" "[I") (by decide +kernel)
  have fl_15 := hts (.fieldLink RX2 15 "ShoalClaims$Dispute" "to" "[I") (by decide +kernel)
  have fl_18 := hts (.fieldLink RX2 18 "ShoalClaims$Dispute" "first" "[I") (by decide +kernel)
  have fl_21 := hts (.fieldLink RX2 21 "ShoalClaims$Dispute" "second" "[I") (by decide +kernel)
  subst hsz
  have hD := hD0.self (sz := s.heap.size)
  generalize hAe : va_A [(h0, .inr (2, [.int 0, .null, .null, .int 0, .null, .null]))] s.heap.size = A at hD ⊢
  have hA : ∀ q : Nat, s.heap.size ≤ q → A q := fun q h => by rw [← hAe]; exact Or.inr h
  have hS : va_S A s.heap s.heap [] := va_S.rf
  have hP : va_P D vwCl [(h0, .inr (2, [.int 0, .null, .null, .int 0, .null, .null]))] s.heap := hP
  have hl := lv_entry ([.ref h0]) (n := 1) (Nat.le_of_ble_eq_true rfl)
  rw [lg_entry_eq]
  generalize (lg_sl ([.ref h0]) ++ List.replicate (1 - (lg_sl ([.ref h0])).length) Slot.unset).toArray = ls at hl ⊢
  have hl : lv_has ls 1 [(0, .ref h0)] := hl
  refine lv_aload_n hx hb dX2_init_0 rfl (lv_at hl 0 rfl) ?_
  refine W.objInit hx hb hown hy_0 hy_1 hy_2 rfl (by rw [hml]; exact hl.1) rfl dX2_init_1 (Nat.le_of_ble_eq_true rfl) (Nat.le_of_ble_eq_true rfl) ?_
  refine W.eq (g2 := F0 m 4 ls []) rfl ?_
  refine lv_aload_n hx hb dX2_init_4 rfl (lv_at hl 0 rfl) ?_
  refine lv_bipush (v := 9) hx hb dX2_init_5 (by decide +kernel) ?_
  refine nw_a (atype := .int) (ty := .int) (cI := cy 0) (n := 9) hx hb hy_3 rfl hK hP hD hS hA 0 rfl rfl 9 (by decide +kernel) (by decide +kernel) (by decide +kernel) (by decide +kernel) (by decide +kernel) dX2_init_7 (fun q_1 H hP hD hS => ?_)
  have hP : va_P D vwCl [(h0, .inr (2, [.int 0, .null, .null, .int 0, .null, .null])), (q_1, .inl (cy 0, 9, .inl (fun _ => 0)))] H := hP
  have hD : va_D A [(h0, .inr (2, [.int 0, .null, .null, .int 0, .null, .null])), (q_1, .inl (cy 0, 9, .inl (fun _ => 0)))] := hD
  refine W.widen (k := 1) (n := 9) (by decide +kernel) (by decide +kernel) ?_
  refine va_putF (D := D) (ci := 2) (v := .ref q_1) (ty := .array .int) (C := RX2) (T := TX2) (N := 6) hx hb hts in_2 tyX2 tyX2_ok nmX2 hown hK hP hD hS 0 rfl rfl 1 (by decide) fl_9 (fun _ h9 => h9) rfl hin rfl (by decide +kernel) rfl rfl (Nat.le_of_ble_eq_true rfl) dX2_init_9 (fun H locs hP hD hS => ?_)
  have hP : va_P D vwCl [(h0, .inr (2, [.int 0, .ref q_1, .null, .int 0, .null, .null])), (q_1, .inl (cy 0, 9, .inl (fun _ => 0)))] H := hP
  have hD : va_D A [(h0, .inr (2, [.int 0, .ref q_1, .null, .int 0, .null, .null])), (q_1, .inl (cy 0, 9, .inl (fun _ => 0)))] := hD
  refine lv_aload_n hx hb dX2_init_12 rfl (lv_at hl 0 rfl) ?_
  refine lv_bipush (v := 9) hx hb dX2_init_13 (by decide +kernel) ?_
  refine nw_a (atype := .int) (ty := .int) (cI := cy 0) (n := 9) hx hb hy_3 rfl hK hP hD hS hA 0 rfl rfl 9 (by decide +kernel) (by decide +kernel) (by decide +kernel) (by decide +kernel) (by decide +kernel) dX2_init_15 (fun q_2 H hP hD hS => ?_)
  have hP : va_P D vwCl [(h0, .inr (2, [.int 0, .ref q_1, .null, .int 0, .null, .null])), (q_1, .inl (cy 0, 9, .inl (fun _ => 0))), (q_2, .inl (cy 0, 9, .inl (fun _ => 0)))] H := hP
  have hD : va_D A [(h0, .inr (2, [.int 0, .ref q_1, .null, .int 0, .null, .null])), (q_1, .inl (cy 0, 9, .inl (fun _ => 0))), (q_2, .inl (cy 0, 9, .inl (fun _ => 0)))] := hD
  refine W.widen (k := 2) (n := 18) (by decide +kernel) (by decide +kernel) ?_
  refine va_putF (D := D) (ci := 2) (v := .ref q_2) (ty := .array .int) (C := RX2) (T := TX2) (N := 6) hx hb hts in_2 tyX2 tyX2_ok nmX2 hown hK hP hD hS 0 rfl rfl 2 (by decide) fl_15 (fun _ h9 => h9) rfl hin rfl (by decide +kernel) rfl rfl (Nat.le_of_ble_eq_true rfl) dX2_init_17 (fun H locs hP hD hS => ?_)
  have hP : va_P D vwCl [(h0, .inr (2, [.int 0, .ref q_1, .ref q_2, .int 0, .null, .null])), (q_1, .inl (cy 0, 9, .inl (fun _ => 0))), (q_2, .inl (cy 0, 9, .inl (fun _ => 0)))] H := hP
  have hD : va_D A [(h0, .inr (2, [.int 0, .ref q_1, .ref q_2, .int 0, .null, .null])), (q_1, .inl (cy 0, 9, .inl (fun _ => 0))), (q_2, .inl (cy 0, 9, .inl (fun _ => 0)))] := hD
  refine lv_aload_n hx hb dX2_init_20 rfl (lv_at hl 0 rfl) ?_
  refine lv_bipush (v := 16) hx hb dX2_init_21 (by decide +kernel) ?_
  refine nw_a (atype := .int) (ty := .int) (cI := cy 0) (n := 16) hx hb hy_3 rfl hK hP hD hS hA 0 rfl rfl 16 (by decide +kernel) (by decide +kernel) (by decide +kernel) (by decide +kernel) (by decide +kernel) dX2_init_23 (fun q_3 H hP hD hS => ?_)
  have hP : va_P D vwCl [(h0, .inr (2, [.int 0, .ref q_1, .ref q_2, .int 0, .null, .null])), (q_1, .inl (cy 0, 9, .inl (fun _ => 0))), (q_2, .inl (cy 0, 9, .inl (fun _ => 0))), (q_3, .inl (cy 0, 16, .inl (fun _ => 0)))] H := hP
  have hD : va_D A [(h0, .inr (2, [.int 0, .ref q_1, .ref q_2, .int 0, .null, .null])), (q_1, .inl (cy 0, 9, .inl (fun _ => 0))), (q_2, .inl (cy 0, 9, .inl (fun _ => 0))), (q_3, .inl (cy 0, 16, .inl (fun _ => 0)))] := hD
  refine W.widen (k := 3) (n := 34) (by decide +kernel) (by decide +kernel) ?_
  refine va_putF (D := D) (ci := 2) (v := .ref q_3) (ty := .array .int) (C := RX2) (T := TX2) (N := 6) hx hb hts in_2 tyX2 tyX2_ok nmX2 hown hK hP hD hS 0 rfl rfl 4 (by decide) fl_18 (fun _ h9 => h9) rfl hin rfl (by decide +kernel) rfl rfl (Nat.le_of_ble_eq_true rfl) dX2_init_25 (fun H locs hP hD hS => ?_)
  have hP : va_P D vwCl [(h0, .inr (2, [.int 0, .ref q_1, .ref q_2, .int 0, .ref q_3, .null])), (q_1, .inl (cy 0, 9, .inl (fun _ => 0))), (q_2, .inl (cy 0, 9, .inl (fun _ => 0))), (q_3, .inl (cy 0, 16, .inl (fun _ => 0)))] H := hP
  have hD : va_D A [(h0, .inr (2, [.int 0, .ref q_1, .ref q_2, .int 0, .ref q_3, .null])), (q_1, .inl (cy 0, 9, .inl (fun _ => 0))), (q_2, .inl (cy 0, 9, .inl (fun _ => 0))), (q_3, .inl (cy 0, 16, .inl (fun _ => 0)))] := hD
  refine lv_aload_n hx hb dX2_init_28 rfl (lv_at hl 0 rfl) ?_
  refine lv_bipush (v := 16) hx hb dX2_init_29 (by decide +kernel) ?_
  refine nw_a (atype := .int) (ty := .int) (cI := cy 0) (n := 16) hx hb hy_3 rfl hK hP hD hS hA 0 rfl rfl 16 (by decide +kernel) (by decide +kernel) (by decide +kernel) (by decide +kernel) (by decide +kernel) dX2_init_31 (fun q_4 H hP hD hS => ?_)
  have hP : va_P D vwCl [(h0, .inr (2, [.int 0, .ref q_1, .ref q_2, .int 0, .ref q_3, .null])), (q_1, .inl (cy 0, 9, .inl (fun _ => 0))), (q_2, .inl (cy 0, 9, .inl (fun _ => 0))), (q_3, .inl (cy 0, 16, .inl (fun _ => 0))), (q_4, .inl (cy 0, 16, .inl (fun _ => 0)))] H := hP
  have hD : va_D A [(h0, .inr (2, [.int 0, .ref q_1, .ref q_2, .int 0, .ref q_3, .null])), (q_1, .inl (cy 0, 9, .inl (fun _ => 0))), (q_2, .inl (cy 0, 9, .inl (fun _ => 0))), (q_3, .inl (cy 0, 16, .inl (fun _ => 0))), (q_4, .inl (cy 0, 16, .inl (fun _ => 0)))] := hD
  refine W.widen (k := 4) (n := 50) (by decide +kernel) (by decide +kernel) ?_
  refine va_putF (D := D) (ci := 2) (v := .ref q_4) (ty := .array .int) (C := RX2) (T := TX2) (N := 6) hx hb hts in_2 tyX2 tyX2_ok nmX2 hown hK hP hD hS 0 rfl rfl 5 (by decide) fl_21 (fun _ h9 => h9) rfl hin rfl (by decide +kernel) rfl rfl (Nat.le_of_ble_eq_true rfl) dX2_init_33 (fun H locs hP hD hS => ?_)
  have hP : va_P D vwCl [(h0, .inr (2, [.int 0, .ref q_1, .ref q_2, .int 0, .ref q_3, .ref q_4])), (q_1, .inl (cy 0, 9, .inl (fun _ => 0))), (q_2, .inl (cy 0, 9, .inl (fun _ => 0))), (q_3, .inl (cy 0, 16, .inl (fun _ => 0))), (q_4, .inl (cy 0, 16, .inl (fun _ => 0)))] H := hP
  have hD : va_D A [(h0, .inr (2, [.int 0, .ref q_1, .ref q_2, .int 0, .ref q_3, .ref q_4])), (q_1, .inl (cy 0, 9, .inl (fun _ => 0))), (q_2, .inl (cy 0, 9, .inl (fun _ => 0))), (q_3, .inl (cy 0, 16, .inl (fun _ => 0))), (q_4, .inl (cy 0, 16, .inl (fun _ => 0)))] := hD
  have hP9 := hP.sub (ws' := [(h0, .inr (2, [.int 0, .ref q_1, .ref q_2, .int 0, .ref q_3, .ref q_4])), (q_1, .inl (cy 0, 9, .inl (fun _ => 0))), (q_2, .inl (cy 0, 9, .inl (fun _ => 0))), (q_3, .inl (cy 0, 16, .inl (fun _ => 0))), (q_4, .inl (cy 0, 16, .inl (fun _ => 0)))]) [0, 1, 2, 3, 4] rfl
  have hD9 := hD.sub (ws' := [(h0, .inr (2, [.int 0, .ref q_1, .ref q_2, .int 0, .ref q_3, .ref q_4])), (q_1, .inl (cy 0, 9, .inl (fun _ => 0))), (q_2, .inl (cy 0, 9, .inl (fun _ => 0))), (q_3, .inl (cy 0, 16, .inl (fun _ => 0))), (q_4, .inl (cy 0, 16, .inl (fun _ => 0)))]) [0, 1, 2, 3, 4] (by decide) rfl
  exact W.vret hx hb hr (fun t ht hW => ⟨⟨(), rfl, trivial, q_1, q_2, q_3, q_4, by rw [ht]; exact hP9, hD9⟩, hS.F ht⟩) hS.2.2 dX2_init_36
end
