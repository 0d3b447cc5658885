/-! the reference: all lines -/
theorem zT0 : zTv 0 = [0, 7, 13, 15] := rfl
theorem lnIn_i {of ln : Nat} (hof : of ≤ 2) : lnIn of ln ↔ (of = 0 ∧ ln < 7) ∨ (of = 1 ∧ 7 ≤ ln ∧ ln ≤ 12) ∨ (of = 2 ∧ 13 ≤ ln ∧ ln ≤ 14) := by
  unfold lnIn
  rw [zT0]
  rcases (show of = 0 ∨ of = 1 ∨ of = 2 by omega) with rfl | rfl | rfl
  · simp
    omega
  · simp
    omega
  · simp
    omega
theorem lnAt_p {u : Nat → Int} {N of x : Nat} (h : lnAt u N of x ≠ 15) : tkK u N x = 2 ∧ lnIn of (lnAt u N of x) ∧ lnW.getD (lnAt u N of x) 0 = tkW u N x := by
  unfold lnAt at h ⊢
  split at h
  · rename_i hK
    rw [if_pos hK]
    generalize hP : (fun ln : Nat => decide ((zTv 0).getD of 0 ≤ (ln : Int)) && decide ((ln : Int) < (zTv 0).getD (of + 1) 0) && decide (lnW.getD ln 0 = tkW u N x)) = P at h ⊢
    have hle : (List.range 15).findIdx P ≤ (List.range 15).length := List.findIdx_le_length
    have hlt : (List.range 15).findIdx P < (List.range 15).length := by
      rw [List.length_range] at hle ⊢
      omega
    have := List.findIdx_getElem (w := hlt)
    rw [List.getElem_range, ← hP] at this
    rw [← hP]
    simp only [Bool.and_eq_true, decide_eq_true_eq] at this
    exact ⟨hK, ⟨this.1.1, this.1.2⟩, this.2⟩
  · exact absurd rfl h
theorem lnW_0 : ∀ ln, ln < 15 → lnW.getD ln 0 ≠ 0 := by decide
theorem lnAt_n {u : Nat → Int} {N of x ln : Nat} (h : lnAt u N of x = 15) (hl : ln < 15) (hi : lnIn of ln) : (if tkK u N x = 2 then tkW u N x else 0) ≠ lnW.getD ln 0 := by
  unfold lnAt at h
  split at h
  · rename_i hK
    rw [if_pos hK]
    intro e
    have h2 : (List.range 15).findIdx (fun ln : Nat => decide ((zTv 0).getD of 0 ≤ (ln : Int)) && decide ((ln : Int) < (zTv 0).getD (of + 1) 0) && decide (lnW.getD ln 0 = tkW u N x)) = (List.range 15).length := by rw [h, List.length_range]
    have := List.findIdx_eq_length.mp h2 ln (List.mem_range.mpr hl)
    simp only [Bool.and_eq_false_iff, decide_eq_false_iff_not] at this
    rcases this with (w | w) | w
    · exact w hi.1
    · exact w hi.2
    · exact w e.symm
  · rename_i hK
    rw [if_neg hK]
    exact fun e => lnW_0 ln hl e.symm
theorem ntL_0 {ln : Nat} {v p : Nat → Int} {q : Int × Int} : ∀ {k : Nat}, (ntL ln v p q k).1 = 0 → q.1 = 0 ∧ ntL ln v p q k = q ∧ ∀ i, i < k → ¬ lnB ln v i := by
  intro k
  induction k with
  | zero => intro h; exact ⟨h, rfl, fun i hi => by omega⟩
  | succ k ih =>
    intro h
    have hn : ¬ ((ntL ln v p q k).1 = 0 ∧ lnB ln v k) := by
      intro w
      simp only [ntL] at h
      rw [@nt_t _ _ (Classical.propDecidable _) _ _ w.1 w.2] at h
      simp at h
    have he : ntL ln v p q (k + 1) = ntL ln v p q k := by
      simp only [ntL]
      unfold nt
      rw [if_neg hn]
    rw [he] at h ⊢
    obtain ⟨h1, h2, h3⟩ := ih h
    exact ⟨h1, h2, fun i hi => by
      by_cases e : i = k
      · subst e
        exact fun w => hn ⟨h, w⟩
      · exact h3 i (by omega)⟩
/-- how a text ends: without a break -/
def lnE (u : Nat → Int) (N of : Nat) (R : (Int × Int) × (Nat → Int)) (h2 : yH) : Prop := ∃ (q : Int × Int) (t : Nat → Int) (c o : Int) (x : Nat), R = (@nt q (lnX of t c o) (Classical.propDecidable _) 4 (tkS u N x : Nat), t) ∧ tkK u N x = 0 ∧ h2 35 11 = (tkS u N x : Nat) ∧ rN h2 q ∧ (q.1 = 0 → q.2 = -1 ∧ h2 8 = t ∧ h2 35 20 = c ∧ h2 35 21 = o ∧ tWf of t) ∧ (q.1 = 0 ∨ q.2 < (tkS u N x : Nat)) ∧ rB of (h2 8)
theorem lines_e {u : Nat → Int} {N of : Nat} (hof : of ≤ 2) : ∀ (m x n : Nat) (q : Int × Int) (h : yH) (t : Nat → Int) (c o : Int), N - x < m → m + 1401 ≤ n → x ≤ N → rC u N h → tokA u N x h → rN h q → (q.1 = 0 ∨ q.2 < (tkS u N x : Nat)) → (q.1 = 0 → q.2 = -1 ∧ h 8 = t ∧ h 35 20 = c ∧ h 35 21 = o ∧ tWf of t) → rB of (h 8) → (-1 ≤ h 35 20 ∧ h 35 20 ≤ 99) → (-1 ≤ h 35 21 ∧ h 35 21 ≤ 99) →
    ∃ v h2, xl_X12_lines n 2 [35, (of : Int), 1] h = some (v, h2) ∧ pF h h2 ∧ rP h2 ∧ ((v = 0 ∧ (pRd u N of m x q t c o).1 = (1, h2 35 15)) ∨ (v = 1 ∧ lnE u N of (pRd u N of m x q t c o) h2)) := by
  intro m
  induction m with
  | zero => intro x n q h t c o e1; omega
  | succ m ih =>
    intro x n q h t c o e1 e2 hx hc hA hq hp hr hB hb20 hb21
    obtain ⟨n, rfl⟩ : ∃ n', n = n' + 1 := ⟨n - 1, by omega⟩
    have hn : 1400 ≤ n := by omega
    rw [e_X12_lines_2, if_neg (by decide)]
    by_cases hK0 : tkK u N x = 0
    · rw [if_pos (by rw [hA.2.2.1, hK0]; rfl), xg_pos (by decide)]
      refine ⟨1, h, rfl, pF.rfl', hc.2.2.2, Or.inr ⟨rfl, q, t, c, o, x, ?_, hK0, hA.2.1, hq, hr, hp, hB⟩⟩
      simp only [pRd]
      rw [if_pos hK0]
    · have e12 : h 35 12 = (tkK u N x : Nat) := hA.2.2.1
      rw [if_neg (by omega)]
      have hw : (if h 35 12 = 2 then xq_X12_lines_34 n (xl_X12_lines n) [35, (of : Int), 1, h 35 11, h 35 14] h else xq_X12_lines_34 n (xl_X12_lines n) [35, (of : Int), 1, h 35 11, 0] h) = xq_X12_lines_34 n (xl_X12_lines n) [35, (of : Int), 1, (tkS u N x : Nat), (if tkK u N x = 2 then tkW u N x else 0)] h := by
        rw [hA.2.1]
        by_cases hk : tkK u N x = 2
        · rw [if_pos (by omega), if_pos hk, hA.2.2.2.2 hk]
        · rw [if_neg (by omega), if_neg hk]
      rw [hw]
      -- the line's walk: of its sort
      have hF : ∀ (w : Int), xq_X12_lines_34 n (xl_X12_lines n) [35, (of : Int), 1, (tkS u N x : Nat), w] h = xb (if of = 0 then f_X12_seaLine n [35, w, (tkS u N x : Nat)] h else if of = 1 then f_X12_dayLine n [35, w, (tkS u N x : Nat)] h else f_X12_disputeLine n [35, w, (tkS u N x : Nat)] h) (fun v h7 => xq_X12_lines_72 n (xl_X12_lines n) [35, (of : Int), 1, (tkS u N x : Nat), w, v] h7) := by
        intro w
        rw [e_X12_lines_34]
        rcases (show of = 0 ∨ of = 1 ∨ of = 2 by omega) with rfl | rfl | rfl
        · rw [if_pos (by decide), if_pos (by decide)]
        · rw [if_neg (by decide), if_pos (by decide), if_neg (by decide), if_pos (by decide)]
        · rw [if_neg (by decide), if_neg (by decide), if_neg (by decide), if_neg (by decide)]
      rw [hF]
      -- a break
      have brk : ∀ (w : Int) (g : yH), xq_X12_lines_72 n (xl_X12_lines n) [35, (of : Int), 1, (tkS u N x : Nat), w, 0] g = some (0, g) := by
        intro w g
        obtain ⟨n, rfl⟩ : ∃ n', n = n' + 1 := ⟨n - 1, by omega⟩
        rw [e_X12_lines_72, if_pos rfl, if_pos rfl, e_X12_lines_2, if_pos rfl, xg_pos (by decide)]
      by_cases h15 : lnAt u N of x = 15
      · have hwn : ∀ ln, ln < 15 → lnIn of ln → (if tkK u N x = 2 then tkW u N x else 0) ≠ lnW.getD ln 0 := fun ln hl hi => lnAt_n h15 hl hi
        have hf : (if of = 0 then f_X12_seaLine n [35, (if tkK u N x = 2 then tkW u N x else 0), (tkS u N x : Nat)] h else if of = 1 then f_X12_dayLine n [35, (if tkK u N x = 2 then tkW u N x else 0), (tkS u N x : Nat)] h else f_X12_disputeLine n [35, (if tkK u N x = 2 then tkW u N x else 0), (tkS u N x : Nat)] h) = some (0, zup h 35 15 (h 35 11)) := by
          rcases (show of = 0 ∨ of = 1 ∨ of = 2 by omega) with rfl | rfl | rfl
          · rw [if_pos rfl]
            exact seaLine_n (fun ln hl => hwn ln (by omega) ((lnIn_i hof).mpr (by omega)))
          · rw [if_neg (by decide), if_pos rfl]
            exact dayLine_n (fun ln hl => hwn ln (by omega) ((lnIn_i hof).mpr (by omega)))
          · rw [if_neg (by decide), if_neg (by decide)]
            exact disputeLine_n (fun ln hl => hwn ln (by omega) ((lnIn_i hof).mpr (by omega)))
        rw [hf, xb_some, brk]
        refine ⟨0, _, rfl, pF.rfl'.up (by omega), hc.2.2.2.up (by omega), Or.inl ⟨rfl, ?_⟩⟩
        simp only [pRd]
        rw [if_neg hK0, if_pos h15, zup_at, hA.2.1]
      · obtain ⟨k2, hi, hwe⟩ := lnAt_p h15
        rw [if_pos k2, ← hwe]
        generalize hln : lnAt u N of x = ln at *
        have hl15 := (lnIn_i hof).mp hi
        -- what the line does
        have key : ((∀ i, i < lnN ln → tkK u N (tkN u N x (i + 1)) = 3) → ∃ h2, (if of = 0 then f_X12_seaLine n [35, lnW.getD ln 0, (tkS u N x : Nat)] h else if of = 1 then f_X12_dayLine n [35, lnW.getD ln 0, (tkS u N x : Nat)] h else f_X12_disputeLine n [35, lnW.getD ln 0, (tkS u N x : Nat)] h) = some (1, h2) ∧ lnD u N x of ln (ntF q ln (h 8) (tkS u N x : Nat)) h h2) ∧
            ∀ i, i < lnN ln → tkK u N (tkN u N x (i + 1)) ≠ 3 → (∀ j, j < i → tkK u N (tkN u N x (j + 1)) = 3) → ∃ h2, (if of = 0 then f_X12_seaLine n [35, lnW.getD ln 0, (tkS u N x : Nat)] h else if of = 1 then f_X12_dayLine n [35, lnW.getD ln 0, (tkS u N x : Nat)] h else f_X12_disputeLine n [35, lnW.getD ln 0, (tkS u N x : Nat)] h) = some (0, h2) ∧ lnX1 (lp u N x i) h h2 := by
          rcases (show of = 0 ∨ of = 1 ∨ of = 2 by omega) with rfl | rfl | rfl
          · rw [if_pos rfl]
            exact seaLine_e (by omega) hn hx hc hA hK0 hq hp hb20 hb21 hB
          · rw [if_neg (by decide), if_pos rfl]
            exact dayLine_e (by omega) hn hx hc hA hK0 hq hp hb21 hB
          · rw [if_neg (by decide), if_neg (by decide)]
            exact disputeLine_e (by omega) hn hx hc hA hK0 hq hp hb21 hB
        have hsx := tkS_next hK0
        have hXle := fun i => tkN_n (u := u) hx i
        rcases K3 u N x (lnN ln) with h3 | ⟨i, hi1, hi2, hi3⟩
        · obtain ⟨g, g1, g2⟩ := key.1 h3
          rw [g1, xb_some]
          obtain ⟨d1, d2, d3, d4, d5, d6, d7, d8, d9⟩ := g2
          have hex : ¬ ∃ i, i < lnN ln ∧ tkK u N (tkN u N x (i + 1)) ≠ 3 ∧ ∀ j, j < i → tkK u N (tkN u N x (j + 1)) = 3 := fun ⟨i, w1, w2, _⟩ => w2 (h3 i w1)
          by_cases hK4 : tkK u N (tkN u N x (lnN ln + 1)) = 4
          · -- on to the next line
            have hsn := tkS_next (u := u) (N := N) (x := tkN u N x (lnN ln + 1)) (by omega)
            rw [e_X12_lines_72, if_neg (by decide), if_pos (by rw [d2.2.2.1, hK4]; rfl), if_neg (by decide)]
            obtain ⟨g3, t0, t1, t2⟩ := token_e (n := n) hn d1.2.2.1 d1.1 d1.2.2.2.1 d1.2.1 d2.1 (tkE_n (hXle (lnN ln + 1)))
            rw [t0, xb_some]
            have hgrow : ∀ k, x ≤ tkN u N x k := by
              intro k
              induction k with
              | zero => exact Nat.le_refl _
              | succ k ihk => exact Nat.le_trans ihk (Nat.le_trans tkS_ge tkE_ge)
            have hx2 : x < tkE u N (tkN u N x (lnN ln + 1)) := by
              have hg1 := hgrow (lnN ln + 1)
              have hg2 := tkE_gt (tkK_lt (u := u) (N := N) (x := tkN u N x (lnN ln + 1)) (by omega))
              have hg3 := @tkS_ge u N (tkN u N x (lnN ln + 1))
              omega
            have hE2 := @tkE_n u N _ (hXle (lnN ln + 1))
            have f20 : g3 35 20 = lnFc ln (lv u N x) (h 35 20) := by rw [t2 35 20 (by omega)]; exact d7
            have f21 : g3 35 21 = lnFo ln (lv u N x) (h 35 21) := by rw [t2 35 21 (by omega)]; exact d8
            have hlv : ∀ j, j < lnN ln → 0 ≤ lv u N x j ∧ lv u N x j ≤ 99 := fun j hj => tkV_b (h3 j hj)
            have b20 : -1 ≤ g3 35 20 ∧ g3 35 20 ≤ 99 := by
              rw [f20]
              unfold lnFc
              split
              · rename_i w
                have := hlv 0 (by rcases w with rfl | rfl <;> decide)
                omega
              · exact hb20
            have b21 : -1 ≤ g3 35 21 ∧ g3 35 21 ≤ 99 := by
              rw [f21]
              unfold lnFo
              split
              · rename_i w
                have := hlv 0 (by subst w; decide)
                omega
              · split
                · rename_i w
                  have := hlv 0 (by subst w; decide)
                  have := hlv 1 (by subst w; decide)
                  omega
                · exact hb21
            have e38 : g3 8 = g 8 := by
              funext j
              exact t2 8 j (by omega)
            have q3 : rN g3 (ntL ln (lv u N x) (lp u N x) (ntF q ln (h 8) (tkS u N x : Nat)) (lnN ln)) := by
              obtain ⟨b1, b2, b3, b4⟩ := d3
              exact ⟨by rw [t2 35 16 (by omega)]; exact b1, fun w => by rw [t2 35 17 (by omega)]; exact b2 w, b3, b4⟩
            have hqm : (ntF q ln (h 8) (tkS u N x : Nat)).1 = 0 → q.1 = 0 ∧ ntF q ln (h 8) (tkS u N x : Nat) = q ∧ ¬ (lnAdds ln ∧ h 8 (lnC ln) = lnM ln) := by
              intro w
              unfold ntF nt at w ⊢
              split at w
              · simp at w
              · rename_i hne
                rw [if_neg hne]
                exact ⟨w, rfl, fun w2 => hne ⟨w, w2⟩⟩
            have hnt : ntF q ln (h 8) (tkS u N x : Nat) = @nt q (lnAdds ln ∧ t (lnC ln) = lnM ln) (Classical.propDecidable _) 3 (tkS u N x : Nat) := by
              by_cases hz : q.1 = 0
              · rw [← (hr hz).2.1]
                rfl
              · unfold ntF
                rw [@nt_n _ _ (Classical.propDecidable _) _ _ hz, @nt_n _ _ (Classical.propDecidable _) _ _ hz]
            obtain ⟨v, h2, y0, y1, y2, y3⟩ := ih (tkE u N (tkN u N x (lnN ln + 1))) n _ g3 (lnT ln (lv u N x) t) (lnFc ln (lv u N x) c) (lnFo ln (lv u N x) o) (by omega) (by omega) hE2 (t2.c d1) t1 q3 (by
                rcases d4 with d4 | d4
                · exact Or.inl d4
                · exact Or.inr (Int.lt_trans (show _ < ((tkS u N (tkN u N x (lnN ln + 1)) : Nat) : Int) from d4) (by omega))) (fun w => by
                obtain ⟨w1, w2, w3⟩ := ntL_0 w
                obtain ⟨w4, w5, w6⟩ := hqm w1
                obtain ⟨m1, m2, m3, m4, m5⟩ := hr w4
                refine ⟨by rw [w2, w5]; exact m1, ?_, by rw [f20, m3], by rw [f21, m4], lnT_W hl15 m5 w3 (by rw [← m2]; exact w6)⟩
                rw [e38, d5 w3, m2]) (by rw [e38]; exact d6) b20 b21
            refine ⟨v, h2, y0, (d9.tr t2.p).tr y1, y2, ?_⟩
            have hR : pRd u N of (m + 1) x q t c o = pRd u N of m (tkE u N (tkN u N x (lnN ln + 1))) (ntL ln (lv u N x) (lp u N x) (ntF q ln (h 8) (tkS u N x : Nat)) (lnN ln)) (lnT ln (lv u N x) t) (lnFc ln (lv u N x) c) (lnFo ln (lv u N x) o) := by
              simp only [pRd]
              rw [if_neg hK0, hln, if_neg h15, dif_neg hex, if_neg (by omega), hnt]
              rfl
            rw [hR]
            exact y3
          · -- no sign
            rw [e_X12_lines_72, if_neg (by decide), if_neg (by rw [d2.2.2.1]; omega), fails_e, xb_some, if_pos rfl]
            obtain ⟨n, rfl⟩ : ∃ n', n = n' + 1 := ⟨n - 1, by omega⟩
            rw [e_X12_lines_2, if_pos rfl, xg_pos (by decide)]
            refine ⟨0, _, rfl, d9.up (by omega), d1.2.2.2.up (by omega), Or.inl ⟨rfl, ?_⟩⟩
            simp only [pRd]
            rw [if_neg hK0, hln, if_neg h15, dif_neg hex, if_pos hK4, zup_at, d2.2.1]
        · obtain ⟨g, g1, g2⟩ := key.2 i hi1 hi2 hi3
          rw [g1, xb_some, brk]
          refine ⟨0, g, rfl, g2.2.2, g2.2.1, Or.inl ⟨rfl, ?_⟩⟩
          have hex : ∃ i, i < lnN ln ∧ tkK u N (tkN u N x (i + 1)) ≠ 3 ∧ ∀ j, j < i → tkK u N (tkN u N x (j + 1)) = 3 := ⟨i, hi1, hi2, hi3⟩
          have hch : hex.choose = i := by
            obtain ⟨w1, w2, w3⟩ := hex.choose_spec
            rcases Nat.lt_trichotomy hex.choose i with w | w | w
            · exact absurd (hi3 _ w) w2
            · exact w
            · exact absurd (w3 _ w) hi2
          simp only [pRd]
          rw [if_neg hK0]
          simp only [hln]
          rw [if_neg h15, dif_pos hex, hch, g2.1]
          rfl
