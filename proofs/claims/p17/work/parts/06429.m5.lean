section
/-! the reference: lines of a day and of a dispute -/
theorem tokA.up {u : Nat → Int} {N x : Nat} {h : yH} {a j : Nat} {v : Int} (hA : tokA u N x h) (hj : ¬ (a = 35 ∧ (j = 9 ∨ (11 ≤ j ∧ j ≤ 14)))) : tokA u N x (zup h a j v) := by
  obtain ⟨a1, a2, a3, a4, a5⟩ := hA
  exact ⟨by rw [zup_ne (by omega)]; exact a1, by rw [zup_ne (by omega)]; exact a2, by rw [zup_ne (by omega)]; exact a3, fun w => by rw [zup_ne (by omega)]; exact a4 w, fun w => by rw [zup_ne (by omega)]; exact a5 w⟩
theorem tokA.fr {u : Nat → Int} {N x : Nat} {h h1 : yH} (hA : tokA u N x h) (f : ∀ j, j = 9 ∨ (11 ≤ j ∧ j ≤ 14) → h1 35 j = h 35 j) : tokA u N x h1 := by
  obtain ⟨a1, a2, a3, a4, a5⟩ := hA
  exact ⟨by rw [f 9 (by omega)]; exact a1, by rw [f 11 (by omega)]; exact a2, by rw [f 12 (by omega)]; exact a3, fun w => by rw [f 13 (by omega)]; exact a4 w, fun w => by rw [f 14 (by omega)]; exact a5 w⟩
theorem rN.up {h : yH} {q : Int × Int} {a j : Nat} {v : Int} (hq : rN h q) (hj : ¬ (a = 35 ∧ (j = 16 ∨ j = 17))) : rN (zup h a j v) q := by
  obtain ⟨b1, b2, b3, b4⟩ := hq
  exact ⟨by rw [zup_ne (by omega)]; exact b1, fun w => by rw [zup_ne (by omega)]; exact b2 w, b3, b4⟩
theorem rC.fr {u : Nat → Int} {N : Nat} {h h1 : yH} (hc : rC u N h) (f0 : ∀ i, h1 0 i = h 0 i) (f : ∀ j, (1 ≤ j ∧ j ≤ 8) ∨ j = 10 ∨ j = 18 ∨ j = 19 → h1 35 j = h 35 j) : rC u N h1 :=
  ⟨by
    rw [← hc.1]
    funext i
    unfold uR
    rw [f0], by rw [f 10 (by omega)]; exact hc.2.1, hc.2.2.1, hc.2.2.2.fr (fun j hj => f j (by omega))⟩
/-- one too many, then the first number -/
theorem begin_e {u : Nat → Int} {N x n ln ct : Nat} {most : Int} {h : yH} {q : Int × Int} (hn : 1400 ≤ n) (hx : x ≤ N) (hc : rC u N h) (hA : tokA u N x h) (hK : tkK u N x ≠ 0) (hq : rN h q) (h0 : q.1 = 0 ∨ q.2 < (tkS u N x : Nat)) (hct : ct < 121) (h1 : lnAdds ln) (h2 : lnC ln = ct) (h3 : lnM ln = most) :
    ∃ g1 g2, f_X12_full n [35, (ct : Int), most, (tkS u N x : Nat)] h = some (0, g1) ∧ f_X12_token n [35] g1 = some (0, g2) ∧ rC u N g2 ∧ tokA u N (tkN u N x 1) g2 ∧ rN g2 (ntF q ln (h 8) (tkS u N x : Nat)) ∧ ((ntF q ln (h 8) (tkS u N x : Nat)).1 = 0 ∨ (ntF q ln (h 8) (tkS u N x : Nat)).2 < lp u N x 0) ∧ (∀ a j, ¬ (a = 35 ∧ (j = 9 ∨ (11 ≤ j ∧ j ≤ 14) ∨ j = 16 ∨ j = 17)) → g2 a j = h a j) := by
  obtain ⟨g1, r1, q1, f1⟩ := @full_e n h ct most (tkS u N x : Nat) q hc.2.2.2 hct hq h0 (lnAdds ln ∧ h 8 (lnC ln) = lnM ln) (Classical.propDecidable _) (by rw [h2, h3]; exact ⟨fun w => w.2, fun w => ⟨h1, w⟩⟩)
  have q1 : rN g1 (ntF q ln (h 8) (tkS u N x : Nat)) := q1
  obtain ⟨g2, r2, c2, a2, q2, l2, f2⟩ := start_e (n := n) hn hx (hc.fr (fun i => f1 0 i (by omega)) (fun j hj => f1 35 j (by omega))) (hA.fr (fun j hj => f1 35 j (by omega))) hK q1 (ntF_le h0)
  exact ⟨g1, g2, r1, r2, c2, a2, q2, l2, fun a j w => by rw [f2 a j (by omega), f1 a j (by omega)]⟩
set_option maxHeartbeats 1000000 in
theorem dayLine_e {u : Nat → Int} {N x n ln : Nat} {q : Int × Int} {h : yH} (hln : 7 ≤ ln ∧ ln ≤ 12) (hn : 1400 ≤ n) (hx : x ≤ N) (hc : rC u N h) (hA : tokA u N x h) (hK : tkK u N x ≠ 0) (hq : rN h q) (h0 : q.1 = 0 ∨ q.2 < (tkS u N x : Nat)) (hb21 : -1 ≤ h 35 21 ∧ h 35 21 ≤ 99) (hB : rB 1 (h 8)) :
    ((∀ i, i < lnN ln → tkK u N (tkN u N x (i + 1)) = 3) → ∃ h2, f_X12_dayLine n [35, lnW.getD ln 0, (tkS u N x : Nat)] h = some (1, h2) ∧ lnD u N x 1 ln (ntF q ln (h 8) (tkS u N x : Nat)) h h2) ∧
    ∀ i, i < lnN ln → tkK u N (tkN u N x (i + 1)) ≠ 3 → (∀ j, j < i → tkK u N (tkN u N x (j + 1)) = 3) → ∃ h2, f_X12_dayLine n [35, lnW.getD ln 0, (tkS u N x : Nat)] h = some (0, h2) ∧ lnX1 (lp u N x i) h h2 := by
  rcases (show ln = 7 ∨ ln = 8 ∨ ln = 9 ∨ ln = 10 ∨ ln = 11 ∨ ln = 12 by omega) with rfl | rfl | rfl | rfl | rfl | rfl
  · rw [show lnW.getD 7 0 = 7499639 from rfl]
    have ln' : lnN 7 = 2 := by decide
    have hd : f_X12_deedBy n [7499639] h = some (0, h) := by
      rw [e_X12_deedBy, if_pos rfl]
    obtain ⟨g1, g2, r1, r2, c2, a2, q2, l2, f2⟩ := begin_e (n := n) (ln := 7) (ct := 0) (most := 30) hn hx hc hA hK hq h0 (by decide) (by unfold lnAdds; omega) (by decide) (by decide)
    have r1 : f_X12_full n [35, 0, 30, (tkS u N x : Nat)] h = some (0, g1) := r1
    have p19 : g2 35 19 = 9 := c2.2.2.2.2.2.2.2.2.2.2.2.2
    obtain ⟨hz, ez⟩ : ∃ hz, hz = (zup (zup (zup (zup g2 9 0 0) 9 1 (-1)) 9 2 (-1)) 9 3 (-1)) := ⟨_, rfl⟩
    have hS : rS u N x 7 1 (ntF q 7 (h 8) (tkS u N x : Nat)) hz 0 hz := by
      rw [ez]
      exact rS_0 ((((c2.up (by decide) (by omega)).up (by decide) (by omega)).up (by decide) (by omega)).up (by decide) (by omega)) ((((a2.up (by omega)).up (by omega)).up (by omega)).up (by omega)) ((((q2.up (by omega)).up (by omega)).up (by omega)).up (by omega)) l2
    have z0 : hz 9 0 = 0 := by rw [ez, zup_ne (by omega), zup_ne (by omega), zup_ne (by omega), zup_at]
    have z1 : hz 9 1 = -1 := by rw [ez, zup_ne (by omega), zup_ne (by omega), zup_at]
    have z2 : hz 9 2 = -1 := by rw [ez, zup_ne (by omega), zup_at]
    have z3 : hz 9 3 = -1 := by rw [ez, zup_at]
    have zn : ∀ a j, a ≠ 9 → hz a j = g2 a j := fun a j w => by rw [ez, zup_ne (by omega), zup_ne (by omega), zup_ne (by omega), zup_ne (by omega)]
    have pp : pF h hz := fun a j w => by rw [zn a j (by omega), f2 a j (by omega)]
    have e8 : hz 8 = h 8 := by
      funext j
      rw [zn 8 j (by decide), f2 8 j (by omega)]
    have e20 : hz 35 20 = h 35 20 := by rw [zn 35 20 (by decide), f2 35 20 (by omega)]
    have e21 : hz 35 21 = h 35 21 := by rw [zn 35 21 (by decide), f2 35 21 (by omega)]
    have t0 : tkK u N (tkN u N x 1) = 3 → ∃ g3, f_X12_take n [35, 1, 0, 5] hz = some (1, g3) ∧ rS u N x 7 1 (ntF q 7 (h 8) (tkS u N x : Nat)) hz 1 g3 := fun hK => take_t hn hx hS hK rfl (by decide) (fun _ => lnB_t (by decide) (by decide) (by decide))
    have t1 : ∀ g, rS u N x 7 1 (ntF q 7 (h 8) (tkS u N x : Nat)) hz 1 g → tkK u N (tkN u N x 2) = 3 → ∃ g3, f_X12_take n [35, 2, 0, 3] g = some (1, g3) ∧ rS u N x 7 1 (ntF q 7 (h 8) (tkS u N x : Nat)) hz 2 g3 := fun g hS hK => take_t hn hx hS hK rfl (by decide) (fun _ => lnB_t (by decide) (by decide) (by decide))
    have fin : ∀ g, rS u N x 7 1 (ntF q 7 (h 8) (tkS u N x : Nat)) hz 2 g → ∃ g3, f_X12_keep n [35, 0, 1, 4, 30] g = some (0, g3) ∧ lnD u N x 1 7 (ntF q 7 (h 8) (tkS u N x : Nat)) h g3 := by
      intro g sg
      have hv := sg.2.2.2.2.1
      have hF := sg.2.2.2.2.2.2.2
      have g8 : g 8 = h 8 := by
        rw [← e8]
        funext j
        exact hF 8 j (by omega) (by omega)
      have w0 : g 9 0 = 0 := by rw [hF 9 0 (by omega) (by omega)]; exact z0
      have w1 : g 9 1 = lv u N x 0 ∧ 0 ≤ lv u N x 0 ∧ lv u N x 0 ≤ 99 := hv 0 (by decide)
      have w2 : g 9 2 = lv u N x 1 ∧ 0 ≤ lv u N x 1 ∧ lv u N x 1 ≤ 99 := hv 1 (by decide)
      have w3 : g 9 3 = -1 := by rw [hF 9 3 (by omega) (by omega)]; exact z3
      obtain ⟨g3, k0, k1, k2⟩ := keep_e (n := n) (h := g) (ct := 0) (from_ := 1) (wide := 4) (most := 30) (by omega) sg.1.2.2.2 (by rw [g8]; exact (hB.2.1 rfl).1) (by rw [g8]; exact (hB.2.1 rfl).2) (by decide) (by decide) (by decide) (by decide) (fun i hi => by
        rcases (show i = 0 ∨ i = 1 ∨ i = 2 ∨ i = 3 by omega) with rfl | rfl | rfl | rfl <;> omega)
      have k3 : g3 8 = lnT 7 (lv u N x) (hz 8) := by
        rw [k1, g8, e8]
        show _ = tK (h 8) 0 1 4 30 (fun i => if i = 0 then ((7 : Nat) : Int) - 7 else if i ≤ lnN 7 then lv u N x (i - 1) else -1)
        refine tK_congr (fun i hi => ?_)
        rw [ln']
        rcases (show i = 0 ∨ i = 1 ∨ i = 2 ∨ i = 3 by omega) with rfl | rfl | rfl | rfl
        · exact w0
        · exact w1.1
        · exact w2.1
        · exact w3
      refine ⟨g3, k0, (lnD_of (of := 1) sg ln' (fun _ => k3) ⟨fun w => by omega, fun _ => ?_, fun w => by omega⟩ (by rw [k2 35 20 (by decide), hF 35 20 (by omega) (by omega)]; rfl) (by rw [k2 35 21 (by decide), hF 35 21 (by omega) (by omega)]; rfl) (fun a j w _ => k2 a j w)).back e8 e20 e21 pp⟩
      rw [k1, g8]
      exact tK_ct (hB.2.1 rfl).1 (hB.2.1 rfl).2
    have pre : f_X12_dayLine n [35, 7499639, (tkS u N x : Nat)] h = xb (f_X12_take n [35, 1, 0, 5] hz) (fun v h => if v = 0 then some (0, h) else xq_X12_dayLine_87 n [35, 7499639, (tkS u N x : Nat), 0, 0, 2, 35] h) := by
      rw [e_X12_dayLine, hd, xb_some, if_neg (by decide), r1, xb_some, r2, xb_some, xg_pos p19, xg_pos (by decide), xg_pos p19, xg_pos p19, xg_pos p19, if_neg (by decide), ← ez]
      refine congrArg (xb _) (funext fun v => funext fun g => ?_)
      by_cases hv : v = 0
      · rw [if_pos hv, if_pos hv]
      · rw [if_neg hv, if_neg hv, if_neg (by decide)]
    refine ⟨fun hK3 => ?_, fun i hi hKi hj => ?_⟩
    · obtain ⟨g3, k0, s3⟩ := t0 (hK3 0 (by omega))
      obtain ⟨g4, k1, s4⟩ := t1 g3 s3 (hK3 1 (by omega))
      obtain ⟨g6, k3, k4⟩ := fin g4 s4
      exact ⟨g6, by rw [pre, k0, xb_some, if_neg (by decide), e_X12_dayLine_87, if_pos rfl, k1, xb_some, if_neg (by decide), e_X12_dayLine_116, if_neg (by decide), k3, xb_some], k4⟩
    · rcases (show i = 0 ∨ i = 1 by omega) with rfl | rfl
      · exact ⟨_, by rw [pre, take_f hS hKi, xb_some, if_pos rfl], hS.x pp⟩
      · obtain ⟨g3, k0, s3⟩ := t0 (hj 0 (by omega))
        exact ⟨_, by rw [pre, k0, xb_some, if_neg (by decide), e_X12_dayLine_87, if_pos rfl, take_f s3 hKi, xb_some, if_pos rfl], s3.x pp⟩
  · rw [show lnW.getD 8 0 = 427020085613 from rfl]
    have ln' : lnN 8 = 3 := by decide
    have hd : f_X12_deedBy n [427020085613] h = some (1, h) := by
      rw [e_X12_deedBy, if_neg (by decide), if_pos rfl]
    obtain ⟨g1, g2, r1, r2, c2, a2, q2, l2, f2⟩ := begin_e (n := n) (ln := 8) (ct := 0) (most := 30) hn hx hc hA hK hq h0 (by decide) (by unfold lnAdds; omega) (by decide) (by decide)
    have r1 : f_X12_full n [35, 0, 30, (tkS u N x : Nat)] h = some (0, g1) := r1
    have p19 : g2 35 19 = 9 := c2.2.2.2.2.2.2.2.2.2.2.2.2
    obtain ⟨hz, ez⟩ : ∃ hz, hz = (zup (zup (zup (zup g2 9 0 1) 9 1 (-1)) 9 2 (-1)) 9 3 (-1)) := ⟨_, rfl⟩
    have hS : rS u N x 8 1 (ntF q 8 (h 8) (tkS u N x : Nat)) hz 0 hz := by
      rw [ez]
      exact rS_0 ((((c2.up (by decide) (by omega)).up (by decide) (by omega)).up (by decide) (by omega)).up (by decide) (by omega)) ((((a2.up (by omega)).up (by omega)).up (by omega)).up (by omega)) ((((q2.up (by omega)).up (by omega)).up (by omega)).up (by omega)) l2
    have z0 : hz 9 0 = 1 := by rw [ez, zup_ne (by omega), zup_ne (by omega), zup_ne (by omega), zup_at]
    have z1 : hz 9 1 = -1 := by rw [ez, zup_ne (by omega), zup_ne (by omega), zup_at]
    have z2 : hz 9 2 = -1 := by rw [ez, zup_ne (by omega), zup_at]
    have z3 : hz 9 3 = -1 := by rw [ez, zup_at]
    have zn : ∀ a j, a ≠ 9 → hz a j = g2 a j := fun a j w => by rw [ez, zup_ne (by omega), zup_ne (by omega), zup_ne (by omega), zup_ne (by omega)]
    have pp : pF h hz := fun a j w => by rw [zn a j (by omega), f2 a j (by omega)]
    have e8 : hz 8 = h 8 := by
      funext j
      rw [zn 8 j (by decide), f2 8 j (by omega)]
    have e20 : hz 35 20 = h 35 20 := by rw [zn 35 20 (by decide), f2 35 20 (by omega)]
    have e21 : hz 35 21 = h 35 21 := by rw [zn 35 21 (by decide), f2 35 21 (by omega)]
    have t0 : tkK u N (tkN u N x 1) = 3 → ∃ g3, f_X12_take n [35, 1, 0, 5] hz = some (1, g3) ∧ rS u N x 8 1 (ntF q 8 (h 8) (tkS u N x : Nat)) hz 1 g3 := fun hK => take_t hn hx hS hK rfl (by decide) (fun _ => lnB_t (by decide) (by decide) (by decide))
    have t1 : ∀ g, rS u N x 8 1 (ntF q 8 (h 8) (tkS u N x : Nat)) hz 1 g → tkK u N (tkN u N x 2) = 3 → ∃ g3, f_X12_take n [35, 2, 0, 5] g = some (1, g3) ∧ rS u N x 8 1 (ntF q 8 (h 8) (tkS u N x : Nat)) hz 2 g3 := fun g hS hK => take_t hn hx hS hK rfl (by decide) (fun _ => lnB_t (by decide) (by decide) (by decide))
    have t2 : ∀ g, rS u N x 8 1 (ntF q 8 (h 8) (tkS u N x : Nat)) hz 2 g → tkK u N (tkN u N x 3) = 3 → ∃ g3, f_X12_take n [35, 3, 1, 20] g = some (1, g3) ∧ rS u N x 8 1 (ntF q 8 (h 8) (tkS u N x : Nat)) hz 3 g3 := fun g hS hK => take_t hn hx hS hK rfl (by decide) (fun _ => lnB_t (by decide) (by decide) (by decide))
    have fin : ∀ g, rS u N x 8 1 (ntF q 8 (h 8) (tkS u N x : Nat)) hz 3 g → ∃ g3, f_X12_keep n [35, 0, 1, 4, 30] g = some (0, g3) ∧ lnD u N x 1 8 (ntF q 8 (h 8) (tkS u N x : Nat)) h g3 := by
      intro g sg
      have hv := sg.2.2.2.2.1
      have hF := sg.2.2.2.2.2.2.2
      have g8 : g 8 = h 8 := by
        rw [← e8]
        funext j
        exact hF 8 j (by omega) (by omega)
      have w0 : g 9 0 = 1 := by rw [hF 9 0 (by omega) (by omega)]; exact z0
      have w1 : g 9 1 = lv u N x 0 ∧ 0 ≤ lv u N x 0 ∧ lv u N x 0 ≤ 99 := hv 0 (by decide)
      have w2 : g 9 2 = lv u N x 1 ∧ 0 ≤ lv u N x 1 ∧ lv u N x 1 ≤ 99 := hv 1 (by decide)
      have w3 : g 9 3 = lv u N x 2 ∧ 0 ≤ lv u N x 2 ∧ lv u N x 2 ≤ 99 := hv 2 (by decide)
      obtain ⟨g3, k0, k1, k2⟩ := keep_e (n := n) (h := g) (ct := 0) (from_ := 1) (wide := 4) (most := 30) (by omega) sg.1.2.2.2 (by rw [g8]; exact (hB.2.1 rfl).1) (by rw [g8]; exact (hB.2.1 rfl).2) (by decide) (by decide) (by decide) (by decide) (fun i hi => by
        rcases (show i = 0 ∨ i = 1 ∨ i = 2 ∨ i = 3 by omega) with rfl | rfl | rfl | rfl <;> omega)
      have k3 : g3 8 = lnT 8 (lv u N x) (hz 8) := by
        rw [k1, g8, e8]
        show _ = tK (h 8) 0 1 4 30 (fun i => if i = 0 then ((8 : Nat) : Int) - 7 else if i ≤ lnN 8 then lv u N x (i - 1) else -1)
        refine tK_congr (fun i hi => ?_)
        rw [ln']
        rcases (show i = 0 ∨ i = 1 ∨ i = 2 ∨ i = 3 by omega) with rfl | rfl | rfl | rfl
        · exact w0
        · exact w1.1
        · exact w2.1
        · exact w3.1
      refine ⟨g3, k0, (lnD_of (of := 1) sg ln' (fun _ => k3) ⟨fun w => by omega, fun _ => ?_, fun w => by omega⟩ (by rw [k2 35 20 (by decide), hF 35 20 (by omega) (by omega)]; rfl) (by rw [k2 35 21 (by decide), hF 35 21 (by omega) (by omega)]; rfl) (fun a j w _ => k2 a j w)).back e8 e20 e21 pp⟩
      rw [k1, g8]
      exact tK_ct (hB.2.1 rfl).1 (hB.2.1 rfl).2
    have pre : f_X12_dayLine n [35, 427020085613, (tkS u N x : Nat)] h = xb (f_X12_take n [35, 1, 0, 5] hz) (fun v h => if v = 0 then some (0, h) else xq_X12_dayLine_87 n [35, 427020085613, (tkS u N x : Nat), 1, 0, 2, 35] h) := by
      rw [e_X12_dayLine, hd, xb_some, if_neg (by decide), r1, xb_some, r2, xb_some, xg_pos p19, xg_pos (by decide), xg_pos p19, xg_pos p19, xg_pos p19, if_neg (by decide), ← ez]
      refine congrArg (xb _) (funext fun v => funext fun g => ?_)
      by_cases hv : v = 0
      · rw [if_pos hv, if_pos hv]
      · rw [if_neg hv, if_neg hv, if_neg (by decide)]
    refine ⟨fun hK3 => ?_, fun i hi hKi hj => ?_⟩
    · obtain ⟨g3, k0, s3⟩ := t0 (hK3 0 (by omega))
      obtain ⟨g4, k1, s4⟩ := t1 g3 s3 (hK3 1 (by omega))
      obtain ⟨g5, k2, s5⟩ := t2 g4 s4 (hK3 2 (by omega))
      obtain ⟨g6, k3, k4⟩ := fin g5 s5
      exact ⟨g6, by rw [pre, k0, xb_some, if_neg (by decide), e_X12_dayLine_87, if_neg (by decide), if_neg (by decide), k1, xb_some, if_neg (by decide), e_X12_dayLine_116, if_pos rfl, k2, xb_some, if_neg (by decide), k3, xb_some], k4⟩
    · rcases (show i = 0 ∨ i = 1 ∨ i = 2 by omega) with rfl | rfl | rfl
      · exact ⟨_, by rw [pre, take_f hS hKi, xb_some, if_pos rfl], hS.x pp⟩
      · obtain ⟨g3, k0, s3⟩ := t0 (hj 0 (by omega))
        exact ⟨_, by rw [pre, k0, xb_some, if_neg (by decide), e_X12_dayLine_87, if_neg (by decide), if_neg (by decide), take_f s3 hKi, xb_some, if_pos rfl], s3.x pp⟩
      · obtain ⟨g3, k0, s3⟩ := t0 (hj 0 (by omega))
        obtain ⟨g4, k1, s4⟩ := t1 g3 s3 (hj 1 (by omega))
        exact ⟨_, by rw [pre, k0, xb_some, if_neg (by decide), e_X12_dayLine_87, if_neg (by decide), if_neg (by decide), k1, xb_some, if_neg (by decide), e_X12_dayLine_116, if_pos rfl, take_f s4 hKi, xb_some, if_pos rfl], s4.x pp⟩
  · rw [show lnW.getD 9 0 = 6384748 from rfl]
    have ln' : lnN 9 = 2 := by decide
    have hd : f_X12_deedBy n [6384748] h = some (2, h) := by
      rw [e_X12_deedBy, if_neg (by decide), if_neg (by decide), if_pos rfl]
    obtain ⟨g1, g2, r1, r2, c2, a2, q2, l2, f2⟩ := begin_e (n := n) (ln := 9) (ct := 0) (most := 30) hn hx hc hA hK hq h0 (by decide) (by unfold lnAdds; omega) (by decide) (by decide)
    have r1 : f_X12_full n [35, 0, 30, (tkS u N x : Nat)] h = some (0, g1) := r1
    have p19 : g2 35 19 = 9 := c2.2.2.2.2.2.2.2.2.2.2.2.2
    obtain ⟨hz, ez⟩ : ∃ hz, hz = (zup (zup (zup (zup g2 9 0 2) 9 1 (-1)) 9 2 (-1)) 9 3 (-1)) := ⟨_, rfl⟩
    have hS : rS u N x 9 1 (ntF q 9 (h 8) (tkS u N x : Nat)) hz 0 hz := by
      rw [ez]
      exact rS_0 ((((c2.up (by decide) (by omega)).up (by decide) (by omega)).up (by decide) (by omega)).up (by decide) (by omega)) ((((a2.up (by omega)).up (by omega)).up (by omega)).up (by omega)) ((((q2.up (by omega)).up (by omega)).up (by omega)).up (by omega)) l2
    have z0 : hz 9 0 = 2 := by rw [ez, zup_ne (by omega), zup_ne (by omega), zup_ne (by omega), zup_at]
    have z1 : hz 9 1 = -1 := by rw [ez, zup_ne (by omega), zup_ne (by omega), zup_at]
    have z2 : hz 9 2 = -1 := by rw [ez, zup_ne (by omega), zup_at]
    have z3 : hz 9 3 = -1 := by rw [ez, zup_at]
    have zn : ∀ a j, a ≠ 9 → hz a j = g2 a j := fun a j w => by rw [ez, zup_ne (by omega), zup_ne (by omega), zup_ne (by omega), zup_ne (by omega)]
    have pp : pF h hz := fun a j w => by rw [zn a j (by omega), f2 a j (by omega)]
    have e8 : hz 8 = h 8 := by
      funext j
      rw [zn 8 j (by decide), f2 8 j (by omega)]
    have e20 : hz 35 20 = h 35 20 := by rw [zn 35 20 (by decide), f2 35 20 (by omega)]
    have e21 : hz 35 21 = h 35 21 := by rw [zn 35 21 (by decide), f2 35 21 (by omega)]
    have t0 : tkK u N (tkN u N x 1) = 3 → ∃ g3, f_X12_take n [35, 1, 0, 5] hz = some (1, g3) ∧ rS u N x 9 1 (ntF q 9 (h 8) (tkS u N x : Nat)) hz 1 g3 := fun hK => take_t hn hx hS hK rfl (by decide) (fun _ => lnB_t (by decide) (by decide) (by decide))
    have t1 : ∀ g, rS u N x 9 1 (ntF q 9 (h 8) (tkS u N x : Nat)) hz 1 g → tkK u N (tkN u N x 2) = 3 → ∃ g3, f_X12_take n [35, 2, 1, 20] g = some (1, g3) ∧ rS u N x 9 1 (ntF q 9 (h 8) (tkS u N x : Nat)) hz 2 g3 := fun g hS hK => take_t hn hx hS hK rfl (by decide) (fun _ => lnB_t (by decide) (by decide) (by decide))
    have fin : ∀ g, rS u N x 9 1 (ntF q 9 (h 8) (tkS u N x : Nat)) hz 2 g → ∃ g3, f_X12_keep n [35, 0, 1, 4, 30] g = some (0, g3) ∧ lnD u N x 1 9 (ntF q 9 (h 8) (tkS u N x : Nat)) h g3 := by
      intro g sg
      have hv := sg.2.2.2.2.1
      have hF := sg.2.2.2.2.2.2.2
      have g8 : g 8 = h 8 := by
        rw [← e8]
        funext j
        exact hF 8 j (by omega) (by omega)
      have w0 : g 9 0 = 2 := by rw [hF 9 0 (by omega) (by omega)]; exact z0
      have w1 : g 9 1 = lv u N x 0 ∧ 0 ≤ lv u N x 0 ∧ lv u N x 0 ≤ 99 := hv 0 (by decide)
      have w2 : g 9 2 = lv u N x 1 ∧ 0 ≤ lv u N x 1 ∧ lv u N x 1 ≤ 99 := hv 1 (by decide)
      have w3 : g 9 3 = -1 := by rw [hF 9 3 (by omega) (by omega)]; exact z3
      obtain ⟨g3, k0, k1, k2⟩ := keep_e (n := n) (h := g) (ct := 0) (from_ := 1) (wide := 4) (most := 30) (by omega) sg.1.2.2.2 (by rw [g8]; exact (hB.2.1 rfl).1) (by rw [g8]; exact (hB.2.1 rfl).2) (by decide) (by decide) (by decide) (by decide) (fun i hi => by
        rcases (show i = 0 ∨ i = 1 ∨ i = 2 ∨ i = 3 by omega) with rfl | rfl | rfl | rfl <;> omega)
      have k3 : g3 8 = lnT 9 (lv u N x) (hz 8) := by
        rw [k1, g8, e8]
        show _ = tK (h 8) 0 1 4 30 (fun i => if i = 0 then ((9 : Nat) : Int) - 7 else if i ≤ lnN 9 then lv u N x (i - 1) else -1)
        refine tK_congr (fun i hi => ?_)
        rw [ln']
        rcases (show i = 0 ∨ i = 1 ∨ i = 2 ∨ i = 3 by omega) with rfl | rfl | rfl | rfl
        · exact w0
        · exact w1.1
        · exact w2.1
        · exact w3
      refine ⟨g3, k0, (lnD_of (of := 1) sg ln' (fun _ => k3) ⟨fun w => by omega, fun _ => ?_, fun w => by omega⟩ (by rw [k2 35 20 (by decide), hF 35 20 (by omega) (by omega)]; rfl) (by rw [k2 35 21 (by decide), hF 35 21 (by omega) (by omega)]; rfl) (fun a j w _ => k2 a j w)).back e8 e20 e21 pp⟩
      rw [k1, g8]
      exact tK_ct (hB.2.1 rfl).1 (hB.2.1 rfl).2
    have pre : f_X12_dayLine n [35, 6384748, (tkS u N x : Nat)] h = xb (f_X12_take n [35, 1, 0, 5] hz) (fun v h => if v = 0 then some (0, h) else xq_X12_dayLine_87 n [35, 6384748, (tkS u N x : Nat), 2, 1, 2, 35] h) := by
      rw [e_X12_dayLine, hd, xb_some, if_neg (by decide), r1, xb_some, r2, xb_some, xg_pos p19, xg_pos (by decide), xg_pos p19, xg_pos p19, xg_pos p19, if_neg (by decide), ← ez]
      refine congrArg (xb _) (funext fun v => funext fun g => ?_)
      by_cases hv : v = 0
      · rw [if_pos hv, if_pos hv]
      · rw [if_neg hv, if_neg hv, if_pos rfl]
    refine ⟨fun hK3 => ?_, fun i hi hKi hj => ?_⟩
    · obtain ⟨g3, k0, s3⟩ := t0 (hK3 0 (by omega))
      obtain ⟨g4, k1, s4⟩ := t1 g3 s3 (hK3 1 (by omega))
      obtain ⟨g6, k3, k4⟩ := fin g4 s4
      exact ⟨g6, by rw [pre, k0, xb_some, if_neg (by decide), e_X12_dayLine_87, if_neg (by decide), if_pos rfl, k1, xb_some, if_neg (by decide), e_X12_dayLine_116, if_neg (by decide), k3, xb_some], k4⟩
    · rcases (show i = 0 ∨ i = 1 by omega) with rfl | rfl
      · exact ⟨_, by rw [pre, take_f hS hKi, xb_some, if_pos rfl], hS.x pp⟩
      · obtain ⟨g3, k0, s3⟩ := t0 (hj 0 (by omega))
        exact ⟨_, by rw [pre, k0, xb_some, if_neg (by decide), e_X12_dayLine_87, if_neg (by decide), if_pos rfl, take_f s3 hKi, xb_some, if_pos rfl], s3.x pp⟩
  · rw [show lnW.getD 10 0 = 495807392116 from rfl]
    have ln' : lnN 10 = 2 := by decide
    have hd : f_X12_deedBy n [495807392116] h = some (3, h) := by
      rw [e_X12_deedBy, if_neg (by decide), if_neg (by decide), if_neg (by decide), if_pos rfl]
    obtain ⟨g1, g2, r1, r2, c2, a2, q2, l2, f2⟩ := begin_e (n := n) (ln := 10) (ct := 0) (most := 30) hn hx hc hA hK hq h0 (by decide) (by unfold lnAdds; omega) (by decide) (by decide)
    have r1 : f_X12_full n [35, 0, 30, (tkS u N x : Nat)] h = some (0, g1) := r1
    have p19 : g2 35 19 = 9 := c2.2.2.2.2.2.2.2.2.2.2.2.2
    obtain ⟨hz, ez⟩ : ∃ hz, hz = (zup (zup (zup (zup g2 9 0 3) 9 1 (-1)) 9 2 (-1)) 9 3 (-1)) := ⟨_, rfl⟩
    have hS : rS u N x 10 1 (ntF q 10 (h 8) (tkS u N x : Nat)) hz 0 hz := by
      rw [ez]
      exact rS_0 ((((c2.up (by decide) (by omega)).up (by decide) (by omega)).up (by decide) (by omega)).up (by decide) (by omega)) ((((a2.up (by omega)).up (by omega)).up (by omega)).up (by omega)) ((((q2.up (by omega)).up (by omega)).up (by omega)).up (by omega)) l2
    have z0 : hz 9 0 = 3 := by rw [ez, zup_ne (by omega), zup_ne (by omega), zup_ne (by omega), zup_at]
    have z1 : hz 9 1 = -1 := by rw [ez, zup_ne (by omega), zup_ne (by omega), zup_at]
    have z2 : hz 9 2 = -1 := by rw [ez, zup_ne (by omega), zup_at]
    have z3 : hz 9 3 = -1 := by rw [ez, zup_at]
    have zn : ∀ a j, a ≠ 9 → hz a j = g2 a j := fun a j w => by rw [ez, zup_ne (by omega), zup_ne (by omega), zup_ne (by omega), zup_ne (by omega)]
    have pp : pF h hz := fun a j w => by rw [zn a j (by omega), f2 a j (by omega)]
    have e8 : hz 8 = h 8 := by
      funext j
      rw [zn 8 j (by decide), f2 8 j (by omega)]
    have e20 : hz 35 20 = h 35 20 := by rw [zn 35 20 (by decide), f2 35 20 (by omega)]
    have e21 : hz 35 21 = h 35 21 := by rw [zn 35 21 (by decide), f2 35 21 (by omega)]
    have t0 : tkK u N (tkN u N x 1) = 3 → ∃ g3, f_X12_take n [35, 1, 0, 5] hz = some (1, g3) ∧ rS u N x 10 1 (ntF q 10 (h 8) (tkS u N x : Nat)) hz 1 g3 := fun hK => take_t hn hx hS hK rfl (by decide) (fun _ => lnB_t (by decide) (by decide) (by decide))
    have t1 : ∀ g, rS u N x 10 1 (ntF q 10 (h 8) (tkS u N x : Nat)) hz 1 g → tkK u N (tkN u N x 2) = 3 → ∃ g3, f_X12_take n [35, 2, 0, 5] g = some (1, g3) ∧ rS u N x 10 1 (ntF q 10 (h 8) (tkS u N x : Nat)) hz 2 g3 := fun g hS hK => take_t hn hx hS hK rfl (by decide) (fun _ => lnB_t (by decide) (by decide) (by decide))
    have fin : ∀ g, rS u N x 10 1 (ntF q 10 (h 8) (tkS u N x : Nat)) hz 2 g → ∃ g3, f_X12_keep n [35, 0, 1, 4, 30] g = some (0, g3) ∧ lnD u N x 1 10 (ntF q 10 (h 8) (tkS u N x : Nat)) h g3 := by
      intro g sg
      have hv := sg.2.2.2.2.1
      have hF := sg.2.2.2.2.2.2.2
      have g8 : g 8 = h 8 := by
        rw [← e8]
        funext j
        exact hF 8 j (by omega) (by omega)
      have w0 : g 9 0 = 3 := by rw [hF 9 0 (by omega) (by omega)]; exact z0
      have w1 : g 9 1 = lv u N x 0 ∧ 0 ≤ lv u N x 0 ∧ lv u N x 0 ≤ 99 := hv 0 (by decide)
      have w2 : g 9 2 = lv u N x 1 ∧ 0 ≤ lv u N x 1 ∧ lv u N x 1 ≤ 99 := hv 1 (by decide)
      have w3 : g 9 3 = -1 := by rw [hF 9 3 (by omega) (by omega)]; exact z3
      obtain ⟨g3, k0, k1, k2⟩ := keep_e (n := n) (h := g) (ct := 0) (from_ := 1) (wide := 4) (most := 30) (by omega) sg.1.2.2.2 (by rw [g8]; exact (hB.2.1 rfl).1) (by rw [g8]; exact (hB.2.1 rfl).2) (by decide) (by decide) (by decide) (by decide) (fun i hi => by
        rcases (show i = 0 ∨ i = 1 ∨ i = 2 ∨ i = 3 by omega) with rfl | rfl | rfl | rfl <;> omega)
      have k3 : g3 8 = lnT 10 (lv u N x) (hz 8) := by
        rw [k1, g8, e8]
        show _ = tK (h 8) 0 1 4 30 (fun i => if i = 0 then ((10 : Nat) : Int) - 7 else if i ≤ lnN 10 then lv u N x (i - 1) else -1)
        refine tK_congr (fun i hi => ?_)
        rw [ln']
        rcases (show i = 0 ∨ i = 1 ∨ i = 2 ∨ i = 3 by omega) with rfl | rfl | rfl | rfl
        · exact w0
        · exact w1.1
        · exact w2.1
        · exact w3
      refine ⟨g3, k0, (lnD_of (of := 1) sg ln' (fun _ => k3) ⟨fun w => by omega, fun _ => ?_, fun w => by omega⟩ (by rw [k2 35 20 (by decide), hF 35 20 (by omega) (by omega)]; rfl) (by rw [k2 35 21 (by decide), hF 35 21 (by omega) (by omega)]; rfl) (fun a j w _ => k2 a j w)).back e8 e20 e21 pp⟩
      rw [k1, g8]
      exact tK_ct (hB.2.1 rfl).1 (hB.2.1 rfl).2
    have pre : f_X12_dayLine n [35, 495807392116, (tkS u N x : Nat)] h = xb (f_X12_take n [35, 1, 0, 5] hz) (fun v h => if v = 0 then some (0, h) else xq_X12_dayLine_87 n [35, 495807392116, (tkS u N x : Nat), 3, 0, 2, 35] h) := by
      rw [e_X12_dayLine, hd, xb_some, if_neg (by decide), r1, xb_some, r2, xb_some, xg_pos p19, xg_pos (by decide), xg_pos p19, xg_pos p19, xg_pos p19, if_neg (by decide), ← ez]
      refine congrArg (xb _) (funext fun v => funext fun g => ?_)
      by_cases hv : v = 0
      · rw [if_pos hv, if_pos hv]
      · rw [if_neg hv, if_neg hv, if_neg (by decide)]
    refine ⟨fun hK3 => ?_, fun i hi hKi hj => ?_⟩
    · obtain ⟨g3, k0, s3⟩ := t0 (hK3 0 (by omega))
      obtain ⟨g4, k1, s4⟩ := t1 g3 s3 (hK3 1 (by omega))
      obtain ⟨g6, k3, k4⟩ := fin g4 s4
      exact ⟨g6, by rw [pre, k0, xb_some, if_neg (by decide), e_X12_dayLine_87, if_neg (by decide), if_neg (by decide), k1, xb_some, if_neg (by decide), e_X12_dayLine_116, if_neg (by decide), k3, xb_some], k4⟩
    · rcases (show i = 0 ∨ i = 1 by omega) with rfl | rfl
      · exact ⟨_, by rw [pre, take_f hS hKi, xb_some, if_pos rfl], hS.x pp⟩
      · obtain ⟨g3, k0, s3⟩ := t0 (hj 0 (by omega))
        exact ⟨_, by rw [pre, k0, xb_some, if_neg (by decide), e_X12_dayLine_87, if_neg (by decide), if_neg (by decide), take_f s3 hKi, xb_some, if_pos rfl], s3.x pp⟩
  · rw [show lnW.getD 11 0 = 7234932 from rfl]
    have ln' : lnN 11 = 2 := by decide
    have hd : f_X12_deedBy n [7234932] h = some (4, h) := by
      rw [e_X12_deedBy, if_neg (by decide), if_neg (by decide), if_neg (by decide), if_neg (by decide), if_pos rfl]
    obtain ⟨g1, g2, r1, r2, c2, a2, q2, l2, f2⟩ := begin_e (n := n) (ln := 11) (ct := 0) (most := 30) hn hx hc hA hK hq h0 (by decide) (by unfold lnAdds; omega) (by decide) (by decide)
    have r1 : f_X12_full n [35, 0, 30, (tkS u N x : Nat)] h = some (0, g1) := r1
    have p19 : g2 35 19 = 9 := c2.2.2.2.2.2.2.2.2.2.2.2.2
    obtain ⟨hz, ez⟩ : ∃ hz, hz = (zup (zup (zup (zup g2 9 0 4) 9 1 (-1)) 9 2 (-1)) 9 3 (-1)) := ⟨_, rfl⟩
    have hS : rS u N x 11 1 (ntF q 11 (h 8) (tkS u N x : Nat)) hz 0 hz := by
      rw [ez]
      exact rS_0 ((((c2.up (by decide) (by omega)).up (by decide) (by omega)).up (by decide) (by omega)).up (by decide) (by omega)) ((((a2.up (by omega)).up (by omega)).up (by omega)).up (by omega)) ((((q2.up (by omega)).up (by omega)).up (by omega)).up (by omega)) l2
    have z0 : hz 9 0 = 4 := by rw [ez, zup_ne (by omega), zup_ne (by omega), zup_ne (by omega), zup_at]
    have z1 : hz 9 1 = -1 := by rw [ez, zup_ne (by omega), zup_ne (by omega), zup_at]
    have z2 : hz 9 2 = -1 := by rw [ez, zup_ne (by omega), zup_at]
    have z3 : hz 9 3 = -1 := by rw [ez, zup_at]
    have zn : ∀ a j, a ≠ 9 → hz a j = g2 a j := fun a j w => by rw [ez, zup_ne (by omega), zup_ne (by omega), zup_ne (by omega), zup_ne (by omega)]
    have pp : pF h hz := fun a j w => by rw [zn a j (by omega), f2 a j (by omega)]
    have e8 : hz 8 = h 8 := by
      funext j
      rw [zn 8 j (by decide), f2 8 j (by omega)]
    have e20 : hz 35 20 = h 35 20 := by rw [zn 35 20 (by decide), f2 35 20 (by omega)]
    have e21 : hz 35 21 = h 35 21 := by rw [zn 35 21 (by decide), f2 35 21 (by omega)]
    have t0 : tkK u N (tkN u N x 1) = 3 → ∃ g3, f_X12_take n [35, 1, 0, 5] hz = some (1, g3) ∧ rS u N x 11 1 (ntF q 11 (h 8) (tkS u N x : Nat)) hz 1 g3 := fun hK => take_t hn hx hS hK rfl (by decide) (fun _ => lnB_t (by decide) (by decide) (by decide))
    have t1 : ∀ g, rS u N x 11 1 (ntF q 11 (h 8) (tkS u N x : Nat)) hz 1 g → tkK u N (tkN u N x 2) = 3 → ∃ g3, f_X12_take n [35, 2, 0, 5] g = some (1, g3) ∧ rS u N x 11 1 (ntF q 11 (h 8) (tkS u N x : Nat)) hz 2 g3 := fun g hS hK => take_t hn hx hS hK rfl (by decide) (fun _ => lnB_t (by decide) (by decide) (by decide))
    have fin : ∀ g, rS u N x 11 1 (ntF q 11 (h 8) (tkS u N x : Nat)) hz 2 g → ∃ g3, f_X12_keep n [35, 0, 1, 4, 30] g = some (0, g3) ∧ lnD u N x 1 11 (ntF q 11 (h 8) (tkS u N x : Nat)) h g3 := by
      intro g sg
      have hv := sg.2.2.2.2.1
      have hF := sg.2.2.2.2.2.2.2
      have g8 : g 8 = h 8 := by
        rw [← e8]
        funext j
        exact hF 8 j (by omega) (by omega)
      have w0 : g 9 0 = 4 := by rw [hF 9 0 (by omega) (by omega)]; exact z0
      have w1 : g 9 1 = lv u N x 0 ∧ 0 ≤ lv u N x 0 ∧ lv u N x 0 ≤ 99 := hv 0 (by decide)
      have w2 : g 9 2 = lv u N x 1 ∧ 0 ≤ lv u N x 1 ∧ lv u N x 1 ≤ 99 := hv 1 (by decide)
      have w3 : g 9 3 = -1 := by rw [hF 9 3 (by omega) (by omega)]; exact z3
      obtain ⟨g3, k0, k1, k2⟩ := keep_e (n := n) (h := g) (ct := 0) (from_ := 1) (wide := 4) (most := 30) (by omega) sg.1.2.2.2 (by rw [g8]; exact (hB.2.1 rfl).1) (by rw [g8]; exact (hB.2.1 rfl).2) (by decide) (by decide) (by decide) (by decide) (fun i hi => by
        rcases (show i = 0 ∨ i = 1 ∨ i = 2 ∨ i = 3 by omega) with rfl | rfl | rfl | rfl <;> omega)
      have k3 : g3 8 = lnT 11 (lv u N x) (hz 8) := by
        rw [k1, g8, e8]
        show _ = tK (h 8) 0 1 4 30 (fun i => if i = 0 then ((11 : Nat) : Int) - 7 else if i ≤ lnN 11 then lv u N x (i - 1) else -1)
        refine tK_congr (fun i hi => ?_)
        rw [ln']
        rcases (show i = 0 ∨ i = 1 ∨ i = 2 ∨ i = 3 by omega) with rfl | rfl | rfl | rfl
        · exact w0
        · exact w1.1
        · exact w2.1
        · exact w3
      refine ⟨g3, k0, (lnD_of (of := 1) sg ln' (fun _ => k3) ⟨fun w => by omega, fun _ => ?_, fun w => by omega⟩ (by rw [k2 35 20 (by decide), hF 35 20 (by omega) (by omega)]; rfl) (by rw [k2 35 21 (by decide), hF 35 21 (by omega) (by omega)]; rfl) (fun a j w _ => k2 a j w)).back e8 e20 e21 pp⟩
      rw [k1, g8]
      exact tK_ct (hB.2.1 rfl).1 (hB.2.1 rfl).2
    have pre : f_X12_dayLine n [35, 7234932, (tkS u N x : Nat)] h = xb (f_X12_take n [35, 1, 0, 5] hz) (fun v h => if v = 0 then some (0, h) else xq_X12_dayLine_87 n [35, 7234932, (tkS u N x : Nat), 4, 0, 2, 35] h) := by
      rw [e_X12_dayLine, hd, xb_some, if_neg (by decide), r1, xb_some, r2, xb_some, xg_pos p19, xg_pos (by decide), xg_pos p19, xg_pos p19, xg_pos p19, if_neg (by decide), ← ez]
      refine congrArg (xb _) (funext fun v => funext fun g => ?_)
      by_cases hv : v = 0
      · rw [if_pos hv, if_pos hv]
      · rw [if_neg hv, if_neg hv, if_neg (by decide)]
    refine ⟨fun hK3 => ?_, fun i hi hKi hj => ?_⟩
    · obtain ⟨g3, k0, s3⟩ := t0 (hK3 0 (by omega))
      obtain ⟨g4, k1, s4⟩ := t1 g3 s3 (hK3 1 (by omega))
      obtain ⟨g6, k3, k4⟩ := fin g4 s4
      exact ⟨g6, by rw [pre, k0, xb_some, if_neg (by decide), e_X12_dayLine_87, if_neg (by decide), if_neg (by decide), k1, xb_some, if_neg (by decide), e_X12_dayLine_116, if_neg (by decide), k3, xb_some], k4⟩
    · rcases (show i = 0 ∨ i = 1 by omega) with rfl | rfl
      · exact ⟨_, by rw [pre, take_f hS hKi, xb_some, if_pos rfl], hS.x pp⟩
      · obtain ⟨g3, k0, s3⟩ := t0 (hj 0 (by omega))
        exact ⟨_, by rw [pre, k0, xb_some, if_neg (by decide), e_X12_dayLine_87, if_neg (by decide), if_neg (by decide), take_f s3 hKi, xb_some, if_pos rfl], s3.x pp⟩
  · rw [show lnW.getD 12 0 = 2002872692 from rfl]
    have ln' : lnN 12 = 0 := by decide
    have hd : f_X12_deedBy n [2002872692] h = some (5, h) := by
      rw [e_X12_deedBy, if_neg (by decide), if_neg (by decide), if_neg (by decide), if_neg (by decide), if_neg (by decide), if_pos rfl]
    obtain ⟨g1, g2, r1, r2, c2, a2, q2, l2, f2⟩ := begin_e (n := n) (ln := 12) (ct := 0) (most := 30) hn hx hc hA hK hq h0 (by decide) (by unfold lnAdds; omega) (by decide) (by decide)
    have r1 : f_X12_full n [35, 0, 30, (tkS u N x : Nat)] h = some (0, g1) := r1
    have p19 : g2 35 19 = 9 := c2.2.2.2.2.2.2.2.2.2.2.2.2
    obtain ⟨hz, ez⟩ : ∃ hz, hz = (zup (zup (zup (zup g2 9 0 5) 9 1 (-1)) 9 2 (-1)) 9 3 (-1)) := ⟨_, rfl⟩
    have hS : rS u N x 12 1 (ntF q 12 (h 8) (tkS u N x : Nat)) hz 0 hz := by
      rw [ez]
      exact rS_0 ((((c2.up (by decide) (by omega)).up (by decide) (by omega)).up (by decide) (by omega)).up (by decide) (by omega)) ((((a2.up (by omega)).up (by omega)).up (by omega)).up (by omega)) ((((q2.up (by omega)).up (by omega)).up (by omega)).up (by omega)) l2
    have z0 : hz 9 0 = 5 := by rw [ez, zup_ne (by omega), zup_ne (by omega), zup_ne (by omega), zup_at]
    have z1 : hz 9 1 = -1 := by rw [ez, zup_ne (by omega), zup_ne (by omega), zup_at]
    have z2 : hz 9 2 = -1 := by rw [ez, zup_ne (by omega), zup_at]
    have z3 : hz 9 3 = -1 := by rw [ez, zup_at]
    have zn : ∀ a j, a ≠ 9 → hz a j = g2 a j := fun a j w => by rw [ez, zup_ne (by omega), zup_ne (by omega), zup_ne (by omega), zup_ne (by omega)]
    have pp : pF h hz := fun a j w => by rw [zn a j (by omega), f2 a j (by omega)]
    have e8 : hz 8 = h 8 := by
      funext j
      rw [zn 8 j (by decide), f2 8 j (by omega)]
    have e20 : hz 35 20 = h 35 20 := by rw [zn 35 20 (by decide), f2 35 20 (by omega)]
    have e21 : hz 35 21 = h 35 21 := by rw [zn 35 21 (by decide), f2 35 21 (by omega)]
    have fin : ∀ g, rS u N x 12 1 (ntF q 12 (h 8) (tkS u N x : Nat)) hz 0 g → ∃ g3, f_X12_keep n [35, 0, 1, 4, 30] g = some (0, g3) ∧ lnD u N x 1 12 (ntF q 12 (h 8) (tkS u N x : Nat)) h g3 := by
      intro g sg
      have hv := sg.2.2.2.2.1
      have hF := sg.2.2.2.2.2.2.2
      have g8 : g 8 = h 8 := by
        rw [← e8]
        funext j
        exact hF 8 j (by omega) (by omega)
      have w0 : g 9 0 = 5 := by rw [hF 9 0 (by omega) (by omega)]; exact z0
      have w1 : g 9 1 = -1 := by rw [hF 9 1 (by omega) (by omega)]; exact z1
      have w2 : g 9 2 = -1 := by rw [hF 9 2 (by omega) (by omega)]; exact z2
      have w3 : g 9 3 = -1 := by rw [hF 9 3 (by omega) (by omega)]; exact z3
      obtain ⟨g3, k0, k1, k2⟩ := keep_e (n := n) (h := g) (ct := 0) (from_ := 1) (wide := 4) (most := 30) (by omega) sg.1.2.2.2 (by rw [g8]; exact (hB.2.1 rfl).1) (by rw [g8]; exact (hB.2.1 rfl).2) (by decide) (by decide) (by decide) (by decide) (fun i hi => by
        rcases (show i = 0 ∨ i = 1 ∨ i = 2 ∨ i = 3 by omega) with rfl | rfl | rfl | rfl <;> omega)
      have k3 : g3 8 = lnT 12 (lv u N x) (hz 8) := by
        rw [k1, g8, e8]
        show _ = tK (h 8) 0 1 4 30 (fun i => if i = 0 then ((12 : Nat) : Int) - 7 else if i ≤ lnN 12 then lv u N x (i - 1) else -1)
        refine tK_congr (fun i hi => ?_)
        rw [ln']
        rcases (show i = 0 ∨ i = 1 ∨ i = 2 ∨ i = 3 by omega) with rfl | rfl | rfl | rfl
        · exact w0
        · exact w1
        · exact w2
        · exact w3
      refine ⟨g3, k0, (lnD_of (of := 1) sg ln' (fun _ => k3) ⟨fun w => by omega, fun _ => ?_, fun w => by omega⟩ (by rw [k2 35 20 (by decide), hF 35 20 (by omega) (by omega)]; rfl) (by rw [k2 35 21 (by decide), hF 35 21 (by omega) (by omega)]; rfl) (fun a j w _ => k2 a j w)).back e8 e20 e21 pp⟩
      rw [k1, g8]
      exact tK_ct (hB.2.1 rfl).1 (hB.2.1 rfl).2
    have pre : f_X12_dayLine n [35, 2002872692, (tkS u N x : Nat)] h = xq_X12_dayLine_116 n [35, 2002872692, (tkS u N x : Nat), 5] hz := by
      rw [e_X12_dayLine, hd, xb_some, if_neg (by decide), r1, xb_some, r2, xb_some, xg_pos p19, xg_pos (by decide), xg_pos p19, xg_pos p19, xg_pos p19, if_pos rfl, ← ez]
    refine ⟨fun _ => ?_, fun i hi => by omega⟩
    obtain ⟨g3, k0, k1⟩ := fin hz hS
    exact ⟨g3, by rw [pre, e_X12_dayLine_116, if_neg (by decide), k0, xb_some], k1⟩
theorem dayLine_n {n : Nat} {w p : Int} {h : yH} (hw : ∀ ln, 7 ≤ ln ∧ ln ≤ 12 → w ≠ lnW.getD ln 0) : f_X12_dayLine n [35, w, p] h = some (0, zup h 35 15 (h 35 11)) := by
  have hd : f_X12_deedBy n [w] h = some (-1, h) := by
    rw [e_X12_deedBy, if_neg (show ¬ w = 7499639 from hw 7 (by decide)), if_neg (show ¬ w = 427020085613 from hw 8 (by decide)), if_neg (show ¬ w = 6384748 from hw 9 (by decide)), if_neg (show ¬ w = 495807392116 from hw 10 (by decide)), if_neg (show ¬ w = 7234932 from hw 11 (by decide)), if_neg (show ¬ w = 2002872692 from hw 12 (by decide))]
  rw [e_X12_dayLine, hd, xb_some, if_pos rfl, fails_e, xb_some, xg_pos (by decide)]
set_option maxHeartbeats 1000000 in
theorem disputeLine_e {u : Nat → Int} {N x n ln : Nat} {q : Int × Int} {h : yH} (hln : 13 ≤ ln ∧ ln ≤ 14) (hn : 1400 ≤ n) (hx : x ≤ N) (hc : rC u N h) (hA : tokA u N x h) (hK : tkK u N x ≠ 0) (hq : rN h q) (h0 : q.1 = 0 ∨ q.2 < (tkS u N x : Nat)) (hb21 : -1 ≤ h 35 21 ∧ h 35 21 ≤ 99) (hB : rB 2 (h 8)) :
    ((∀ i, i < lnN ln → tkK u N (tkN u N x (i + 1)) = 3) → ∃ h2, f_X12_disputeLine n [35, lnW.getD ln 0, (tkS u N x : Nat)] h = some (1, h2) ∧ lnD u N x 2 ln (ntF q ln (h 8) (tkS u N x : Nat)) h h2) ∧
    ∀ i, i < lnN ln → tkK u N (tkN u N x (i + 1)) ≠ 3 → (∀ j, j < i → tkK u N (tkN u N x (j + 1)) = 3) → ∃ h2, f_X12_disputeLine n [35, lnW.getD ln 0, (tkS u N x : Nat)] h = some (0, h2) ∧ lnX1 (lp u N x i) h h2 := by
  rcases (show ln = 13 ∨ ln = 14 by omega) with rfl | rfl
  · rw [show lnW.getD 13 0 = 1935763812 from rfl]
    have ln' : lnN 13 = 2 := by decide
    obtain ⟨g1, g2, r1, r2, c2, a2, q2, l2, f2⟩ := begin_e (n := n) (ln := 13) (ct := 0) (most := 9) hn hx hc hA hK hq h0 (by decide) (by unfold lnAdds; omega) (by decide) (by decide)
    have r1 : f_X12_full n [35, 0, 9, (tkS u N x : Nat)] h = some (0, g1) := r1
    have hS : rS u N x 13 0 (ntF q 13 (h 8) (tkS u N x : Nat)) g2 0 g2 := rS_0 c2 a2 q2 l2
    have pp : pF h g2 := fun a j w => f2 a j (by omega)
    have e8 : g2 8 = h 8 := by
      funext j
      exact f2 8 j (by omega)
    have e20 : g2 35 20 = h 35 20 := f2 35 20 (by omega)
    have e21 : g2 35 21 = h 35 21 := f2 35 21 (by omega)
    have t0 : tkK u N (tkN u N x 1) = 3 → ∃ g3, f_X12_take n [35, 0, 0, 99] g2 = some (1, g3) ∧ rS u N x 13 0 (ntF q 13 (h 8) (tkS u N x : Nat)) g2 1 g3 := fun hK => take_t hn hx hS hK rfl (by decide) (fun _ => by
      unfold lnB
      rw [show lnL 13 0 = 0 by decide, show lnH 13 0 = 99 by decide]
      omega)
    have t1 : ∀ g, rS u N x 13 0 (ntF q 13 (h 8) (tkS u N x : Nat)) g2 1 g → tkK u N (tkN u N x 2) = 3 → ∃ g3, f_X12_take n [35, 1, g 9 0, 99] g = some (1, g3) ∧ rS u N x 13 0 (ntF q 13 (h 8) (tkS u N x : Nat)) g2 2 g3 := by
      intro g sg hK
      have w0 := sg.2.2.2.2.1 0 (by decide)
      rw [Nat.zero_add] at w0
      rw [w0.1]
      refine take_t hn hx sg hK rfl (by decide) (fun _ => ?_)
      unfold lnB
      rw [show lnL 13 1 = 0 by decide, show lnH 13 1 = 99 by decide]
      omega
    have pre : f_X12_disputeLine n [35, 1935763812, (tkS u N x : Nat)] h = xb (f_X12_take n [35, 0, 0, 99] g2) (fun v h => if v = 0 then some (0, h) else (xg (h 35 19 = 9) (xb (f_X12_take n [35, 1, h 9 0, 99] h) (fun v h => if v = 0 then some (0, h) else xb (f_X12_keep n [35, 0, 2, 2, 9] h) (fun _ h => some (1, h)))))) := by
      rw [e_X12_disputeLine, if_pos rfl, if_pos rfl, e_X12_disputeLine_34, if_neg (by decide), if_neg (by decide), e_X12_disputeLine_59, r1, xb_some, r2, xb_some, if_neg (by decide)]
    refine ⟨fun hK3 => ?_, fun i hi hKi hj => ?_⟩
    · obtain ⟨g3, k0, s3⟩ := t0 (hK3 0 (by omega))
      obtain ⟨g4, k1, s4⟩ := t1 g3 s3 (hK3 1 (by omega))
      have p19 : g3 35 19 = 9 := s3.1.2.2.2.2.2.2.2.2.2.2.2.2
      have hv := s4.2.2.2.2.1
      have hF := s4.2.2.2.2.2.2.2
      have w0 := hv 0 (by decide)
      have w1 := hv 1 (by decide)
      rw [Nat.zero_add] at w0 w1
      have g8 : g4 8 = h 8 := by
        rw [← e8]
        funext j
        exact hF 8 j (by omega) (by omega)
      obtain ⟨g5, m0, m1, m2⟩ := keep_e (n := n) (h := g4) (ct := 0) (from_ := 2) (wide := 2) (most := 9) (by omega) s4.1.2.2.2 (by rw [g8]; exact (hB.2.2 rfl).1.1) (by rw [g8]; exact (hB.2.2 rfl).1.2) (by decide) (by decide) (by decide) (by decide) (fun i hi => by rcases (show i = 0 ∨ i = 1 by omega) with rfl | rfl <;> omega)
      have m0 : f_X12_keep n [35, 0, 2, 2, 9] g4 = some (0, g5) := m0
      refine ⟨g5, by rw [pre, k0, xb_some, if_neg (by decide), xg_pos p19, k1, xb_some, if_neg (by decide), m0, xb_some], (lnD_of (of := 2) s4 ln' (fun _ => ?_) ⟨fun w => by omega, fun w => by omega, fun _ => ?_⟩ (by rw [m2 35 20 (by decide), hF 35 20 (by omega) (by omega)]; rfl) (by rw [m2 35 21 (by decide), hF 35 21 (by omega) (by omega)]; rfl) (fun a j w _ => m2 a j w)).back e8 e20 e21 pp⟩
      · rw [m1, g8, e8]
        show _ = tK (h 8) 0 2 2 9 (lv u N x)
        exact tK_congr (fun i hi => by rcases (show i = 0 ∨ i = 1 by omega) with rfl | rfl; exact w0.1; exact w1.1)
      · rw [m1, g8]
        exact ⟨tK_ct (hB.2.2 rfl).1.1 (hB.2.2 rfl).1.2, by rw [tK_lo (by decide) (by decide)]; exact (hB.2.2 rfl).2⟩
    · rcases (show i = 0 ∨ i = 1 by omega) with rfl | rfl
      · exact ⟨_, by rw [pre, take_f hS hKi, xb_some, if_pos rfl], hS.x pp⟩
      · obtain ⟨g3, k0, s3⟩ := t0 (hj 0 (by omega))
        have p19 : g3 35 19 = 9 := s3.1.2.2.2.2.2.2.2.2.2.2.2.2
        exact ⟨_, by rw [pre, k0, xb_some, if_neg (by decide), xg_pos p19, take_f s3 hKi, xb_some, if_pos rfl], s3.x pp⟩
  · rw [show lnW.getD 14 0 = 418363302244 from rfl]
    have ln' : lnN 14 = 2 := by decide
    obtain ⟨g1, g2, r1, r2, c2, a2, q2, l2, f2⟩ := begin_e (n := n) (ln := 14) (ct := 1) (most := 16) hn hx hc hA hK hq h0 (by decide) (by unfold lnAdds; omega) (by decide) (by decide)
    have r1 : f_X12_full n [35, 1, 16, (tkS u N x : Nat)] h = some (0, g1) := r1
    have hS : rS u N x 14 0 (ntF q 14 (h 8) (tkS u N x : Nat)) g2 0 g2 := rS_0 c2 a2 q2 l2
    have pp : pF h g2 := fun a j w => f2 a j (by omega)
    have e8 : g2 8 = h 8 := by
      funext j
      exact f2 8 j (by omega)
    have e20 : g2 35 20 = h 35 20 := f2 35 20 (by omega)
    have e21 : g2 35 21 = h 35 21 := f2 35 21 (by omega)
    have t0 : tkK u N (tkN u N x 1) = 3 → ∃ g3, f_X12_take n [35, 0, 0, 8] g2 = some (1, g3) ∧ rS u N x 14 0 (ntF q 14 (h 8) (tkS u N x : Nat)) g2 1 g3 := fun hK => take_t hn hx hS hK rfl (by decide) (fun _ => by
      unfold lnB
      rw [show lnL 14 0 = 0 by decide, show lnH 14 0 = 8 by decide]
      omega)
    have t1 : ∀ g, rS u N x 14 0 (ntF q 14 (h 8) (tkS u N x : Nat)) g2 1 g → tkK u N (tkN u N x 2) = 3 → ∃ g3, f_X12_takeBut n [35, 1, 0, 8, g 9 0] g = some (1, g3) ∧ rS u N x 14 0 (ntF q 14 (h 8) (tkS u N x : Nat)) g2 2 g3 := by
      intro g sg hK
      have w0 := sg.2.2.2.2.1 0 (by decide)
      rw [Nat.zero_add] at w0
      rw [w0.1]
      refine rS_t hn hx sg hK rfl (by decide) ?_
      unfold lnB
      rw [show lnL 14 1 = 0 by decide, show lnH 14 1 = 8 by decide]
      omega
    have pre : f_X12_disputeLine n [35, 418363302244, (tkS u N x : Nat)] h = xb (f_X12_take n [35, 0, 0, 8] g2) (fun v h => if v = 0 then some (0, h) else (xg (h 35 19 = 9) (xb (f_X12_takeBut n [35, 1, 0, 8, h 9 0] h) (fun v h => if v = 0 then some (0, h) else (xg (h 35 19 = 9) (xg (h 35 19 = 9) (xb (f_X12_greater n [(h 9 0), (h 9 1)] h) (fun v5 h5 => xb (f_X12_greater n [(h 35 21), v5] h5) (fun v6 h6 => xg ((-1) ≤ v6 ∧ v6 ≤ 99) (xb (f_X12_keep n [35, 1, 20, 2, 16] (zup h6 35 21 v6)) (fun _ h7 => some (1, h7)))))))))))) := by
      rw [e_X12_disputeLine, if_neg (by decide), if_pos rfl, if_neg (by decide), e_X12_disputeLine_34, if_pos rfl, if_pos rfl, e_X12_disputeLine_59, r1, xb_some, r2, xb_some, if_pos rfl]
    refine ⟨fun hK3 => ?_, fun i hi hKi hj => ?_⟩
    · obtain ⟨g3, k0, s3⟩ := t0 (hK3 0 (by omega))
      obtain ⟨g4, k1, s4⟩ := t1 g3 s3 (hK3 1 (by omega))
      have p19 : g3 35 19 = 9 := s3.1.2.2.2.2.2.2.2.2.2.2.2.2
      have hv := s4.2.2.2.2.1
      have hF := s4.2.2.2.2.2.2.2
      have w0 := hv 0 (by decide)
      have w1 := hv 1 (by decide)
      rw [Nat.zero_add] at w0 w1
      have g8 : g4 8 = h 8 := by
        rw [← e8]
        funext j
        exact hF 8 j (by omega) (by omega)
      have p19b : g4 35 19 = 9 := s4.1.2.2.2.2.2.2.2.2.2.2.2.2
      have f21 : g4 35 21 = h 35 21 := by rw [hF 35 21 (by omega) (by omega)]; exact e21
      have z8 : ∀ v, (zup g4 35 21 v) 8 = h 8 := fun v => by rw [zup_row (by decide)]; exact g8
      obtain ⟨g5, m0, m1, m2⟩ := keep_e (n := n) (h := zup g4 35 21 (max (h 35 21) (max (lv u N x 0) (lv u N x 1)))) (ct := 1) (from_ := 20) (wide := 2) (most := 16) (by omega) (s4.1.2.2.2.up (by omega)) (by rw [z8]; exact (hB.2.2 rfl).2.1) (by rw [z8]; exact (hB.2.2 rfl).2.2) (by decide) (by decide) (by decide) (by decide) (fun i hi => by rw [zup_ne (by omega)]; rcases (show i = 0 ∨ i = 1 by omega) with rfl | rfl <;> omega)
      have m0 : f_X12_keep n [35, 1, 20, 2, 16] (zup g4 35 21 (max (h 35 21) (max (lv u N x 0) (lv u N x 1)))) = some (0, g5) := m0
      refine ⟨g5, by rw [pre, k0, xb_some, if_neg (by decide), xg_pos p19, k1, xb_some, if_neg (by decide), xg_pos p19b, xg_pos p19b, gr_e, xb_some, gr_e, xb_some, w0.1, w1.1, f21, xg_pos (by omega), m0, xb_some], (lnD_of (of := 2) s4 ln' (fun _ => ?_) ⟨fun w => by omega, fun w => by omega, fun _ => ?_⟩ (by rw [m2 35 20 (by decide), zup_ne (by omega), hF 35 20 (by omega) (by omega)]; rfl) (by rw [m2 35 21 (by decide), zup_at, e21]; rfl) (fun a j w w2 => by rw [m2 a j w, zup_ne (by omega)])).back e8 e20 e21 pp⟩
      · rw [m1, z8, e8]
        show _ = tK (h 8) 1 20 2 16 (lv u N x)
        exact tK_congr (fun i hi => by rw [zup_ne (by omega)]; rcases (show i = 0 ∨ i = 1 by omega) with rfl | rfl; exact w0.1; exact w1.1)
      · rw [m1, z8]
        exact ⟨by rw [tK_lo (by decide) (by decide)]; exact (hB.2.2 rfl).1, tK_ct (hB.2.2 rfl).2.1 (hB.2.2 rfl).2.2⟩
    · rcases (show i = 0 ∨ i = 1 by omega) with rfl | rfl
      · exact ⟨_, by rw [pre, take_f hS hKi, xb_some, if_pos rfl], hS.x pp⟩
      · obtain ⟨g3, k0, s3⟩ := t0 (hj 0 (by omega))
        have p19 : g3 35 19 = 9 := s3.1.2.2.2.2.2.2.2.2.2.2.2.2
        exact ⟨_, by rw [pre, k0, xb_some, if_neg (by decide), xg_pos p19, rS_f s3 hKi, xb_some, if_pos rfl], s3.x pp⟩
theorem disputeLine_n {n : Nat} {w p : Int} {h : yH} (hw : ∀ ln, 13 ≤ ln ∧ ln ≤ 14 → w ≠ lnW.getD ln 0) : f_X12_disputeLine n [35, w, p] h = some (0, zup h 35 15 (h 35 11)) := by
  rw [e_X12_disputeLine, if_neg (show ¬ w = 1935763812 from hw 13 (by decide)), if_neg (show ¬ w = 418363302244 from hw 14 (by decide)), fails_e, xb_some, xg_pos (by decide)]
end
section
variable {η : zRn}
/-! token: from its first byte on -/
section HWS
variable {D : va_G} {cy : Nat → ClassId} {L : List Nat} {Θ : Nat → Option Nat} {h : Nat → Nat → Int} {H H0 : Heap} {locs : List Loc}
variable {p : Program} {l : Launch} {e : Env} {R : Room} {s : State} {m : MethodId} {args : Array Value} {below : List Frame} {meth : Method} {c : Code} {Q : State → Prop}
variable {cc : ByteArray} {pc nL : Nat} {ls : Array Slot} {rest : List Value}
/-- nothing has changed but reached, value, word of the reference -/
def zdf (h h' : Nat → Nat → Int) (a : Nat) : Prop := ∀ b j, ¬ (b = a ∧ (j = 9 ∨ j = 13 ∨ j = 14)) → h' b j = h b j
theorem zdf.up {h h' : Nat → Nat → Int} {a k : Nat} {x : Int} (g : zdf h h' a) (hk : k = 9 ∨ k = 13 ∨ k = 14) : zdf h (zup h' a k x) a := by
  intro b j hj
  rw [zup_ne]
  · exact g b j hj
  · rintro ⟨rfl, rfl⟩
    exact hj ⟨rfl, hk⟩
end HWS
end
section
/-! what a line says keeps the bounds -/
theorem lnT_W0 {ln : Nat} {v t : Nat → Int} (hln : ln < 7) (h : tW0 t) (hg : ∀ j, j < lnN ln → ¬ lnB ln v j) (hf : ¬ (lnAdds ln ∧ t (lnC ln) = lnM ln)) : tW0 (lnT ln v t) := by
  obtain ⟨h0, h1, h2, h3, h4, h5, h6, h49, hc, hs, hb⟩ := h
  rcases (show ln = 0 ∨ ln = 1 ∨ ln = 2 ∨ ln = 3 ∨ ln = 4 ∨ ln = 5 ∨ ln = 6 by omega) with rfl | rfl | rfl | rfl | rfl | rfl | rfl
  · have g0 := lnG (lo := 2) (hi := 8) (hg 0 (by decide)) (by decide) (by decide)
    have g1 := lnG (lo := 2) (hi := 8) (hg 1 (by decide)) (by decide) (by decide)
    show tW0 (tU (tU (t) 0 (v 0)) 1 (v 1))
    exact ⟨by rw [tU_ne (by decide), tU_at]; exact g0, by rw [tU_at]; exact g1, by rw [tU_ne (by decide), tU_ne (by decide)]; exact h2, by rw [tU_ne (by decide), tU_ne (by decide)]; exact h3, by rw [tU_ne (by decide), tU_ne (by decide)]; exact h4, by rw [tU_ne (by decide), tU_ne (by decide)]; exact h5, by rw [tU_ne (by decide), tU_ne (by decide)]; exact h6, by rw [tU_ne (by decide), tU_ne (by decide)]; exact h49, fun c w => by rw [tU_ne (by omega), tU_ne (by omega), tU_ne (by omega), tU_ne (by omega), tU_ne (by omega), tU_ne (by omega), tU_ne (by omega), tU_ne (by omega)]; exact hc c w, fun s w => by rw [tU_ne (by omega), tU_ne (by omega), tU_ne (by omega), tU_ne (by omega), tU_ne (by omega), tU_ne (by omega), tU_ne (by omega), tU_ne (by omega)]; exact hs s w, fun b w => by rw [tU_ne (by omega), tU_ne (by omega), tU_ne (by omega), tU_ne (by omega), tU_ne (by omega), tU_ne (by omega)]; exact hb b w⟩
  · have g0 := lnG (lo := 0) (hi := 3) (hg 0 (by decide)) (by decide) (by decide)
    have g1 := lnG (lo := 0) (hi := 3) (hg 1 (by decide)) (by decide) (by decide)
    show tW0 (tU (tU (t) 2 (v 0)) 3 (v 1))
    exact ⟨by rw [tU_ne (by decide), tU_ne (by decide)]; exact h0, by rw [tU_ne (by decide), tU_ne (by decide)]; exact h1, by rw [tU_ne (by decide), tU_at]; exact g0, by rw [tU_at]; exact g1, by rw [tU_ne (by decide), tU_ne (by decide)]; exact h4, by rw [tU_ne (by decide), tU_ne (by decide)]; exact h5, by rw [tU_ne (by decide), tU_ne (by decide)]; exact h6, by rw [tU_ne (by decide), tU_ne (by decide)]; exact h49, fun c w => by rw [tU_ne (by omega), tU_ne (by omega), tU_ne (by omega), tU_ne (by omega), tU_ne (by omega), tU_ne (by omega), tU_ne (by omega), tU_ne (by omega)]; exact hc c w, fun s w => by rw [tU_ne (by omega), tU_ne (by omega), tU_ne (by omega), tU_ne (by omega), tU_ne (by omega), tU_ne (by omega), tU_ne (by omega), tU_ne (by omega)]; exact hs s w, fun b w => by rw [tU_ne (by omega), tU_ne (by omega), tU_ne (by omega), tU_ne (by omega), tU_ne (by omega), tU_ne (by omega)]; exact hb b w⟩
  · have g0 := lnG (lo := 1) (hi := 9) (hg 0 (by decide)) (by decide) (by decide)
    show tW0 (tU (t) 4 (v 0))
    exact ⟨by rw [tU_ne (by decide)]; exact h0, by rw [tU_ne (by decide)]; exact h1, by rw [tU_ne (by decide)]; exact h2, by rw [tU_ne (by decide)]; exact h3, by rw [tU_at]; exact g0, by rw [tU_ne (by decide)]; exact h5, by rw [tU_ne (by decide)]; exact h6, by rw [tU_ne (by decide)]; exact h49, fun c w => by rw [tU_ne (by omega), tU_ne (by omega), tU_ne (by omega), tU_ne (by omega)]; exact hc c w, fun s w => by rw [tU_ne (by omega), tU_ne (by omega), tU_ne (by omega), tU_ne (by omega)]; exact hs s w, fun b w => by rw [tU_ne (by omega), tU_ne (by omega), tU_ne (by omega)]; exact hb b w⟩
  · have g0 := lnG (lo := 0) (hi := 2) (hg 0 (by decide)) (by decide) (by decide)
    have g1 := lnG (lo := 1) (hi := 20) (hg 1 (by decide)) (by decide) (by decide)
    have g2 := lnG (lo := 0) (hi := 5) (hg 2 (by decide)) (by decide) (by decide)
    have g3 := lnG (lo := 0) (hi := 20) (hg 3 (by decide)) (by decide) (by decide)
    have g4 := lnG (lo := 1) (hi := 30) (hg 4 (by decide)) (by decide) (by decide)
    obtain ⟨d, hd⟩ : ∃ d : Nat, v 0 = (d : Int) := ⟨(v 0).toNat, by omega⟩
    show tW0 (tU (tU (tU (tU t (7 + 4 * (v 0).toNat) (v 1)) (7 + 4 * (v 0).toNat + 1) (v 2)) (7 + 4 * (v 0).toNat + 2) (v 3)) (7 + 4 * (v 0).toNat + 3) (v 4))
    rw [hd, Int.toNat_natCast]
    have ne : ∀ j, ¬ (7 + 4 * d ≤ j ∧ j < 7 + 4 * d + 4) → (tU (tU (tU (tU t (7 + 4 * d) (v 1)) (7 + 4 * d + 1) (v 2)) (7 + 4 * d + 2) (v 3)) (7 + 4 * d + 3) (v 4)) j = t j := fun j w => by
      rw [tU_ne (by omega), tU_ne (by omega), tU_ne (by omega), tU_ne (by omega)]
    refine ⟨by rw [ne 0 (by omega)]; exact h0, by rw [ne 1 (by omega)]; exact h1, by rw [ne 2 (by omega)]; exact h2, by rw [ne 3 (by omega)]; exact h3, by rw [ne 4 (by omega)]; exact h4, by rw [ne 5 (by omega)]; exact h5, by rw [ne 6 (by omega)]; exact h6, by rw [ne 49 (by omega)]; exact h49, fun c w => ?_, fun s w => by rw [ne _ (by omega), ne _ (by omega), ne _ (by omega), ne _ (by omega)]; exact hs s w, fun b w => by rw [ne _ (by omega), ne _ (by omega), ne _ (by omega)]; exact hb b w⟩
    by_cases e : c = d
    · subst e
      refine ⟨?_, ?_, ?_, ?_⟩
      · rw [tU_ne (by omega), tU_ne (by omega), tU_ne (by omega), tU_at]; exact g1
      · rw [show 8 + 4 * c = 7 + 4 * c + 1 by omega, tU_ne (by omega), tU_ne (by omega), tU_at]; exact g2
      · rw [show 9 + 4 * c = 7 + 4 * c + 2 by omega, tU_ne (by omega), tU_at]; exact g3
      · rw [show 10 + 4 * c = 7 + 4 * c + 3 by omega, tU_at]; exact g4
    · rw [ne _ (by omega), ne _ (by omega), ne _ (by omega), ne _ (by omega)]; exact hc c w
  · have g0 := lnG (lo := 0) (hi := 63) (hg 0 (by decide)) (by decide) (by decide)
    have g1 := lnG (lo := 1) (hi := 99) (hg 1 (by decide)) (by decide) (by decide)
    have g2 := lnG (lo := 0) (hi := 4) (hg 2 (by decide)) (by decide) (by decide)
    have hne : t 5 ≠ ((4 : Nat) : Int) := fun w => hf ⟨by unfold lnAdds; omega, w⟩
    obtain ⟨d, hd⟩ : ∃ d : Nat, t 5 = (d : Int) := ⟨(t 5).toNat, by omega⟩
    have ed : (t 5).toNat = d := by omega
    show tW0 (tK t 5 19 3 4 v)
    have ne : ∀ j, j ≠ 5 → ¬ (19 + 3 * d ≤ j ∧ j < 19 + 3 * d + 3) → tK t 5 19 3 4 v j = t j := fun j w1 w2 => tK_old w1 (by rw [ed]; exact w2)
    have nw : ∀ r, r < 3 → tK t 5 19 3 4 v (19 + 3 * d + r) = v r := fun r hr => by
      have := @tK_new t 5 19 3 4 r v hne hr (by decide)
      rw [ed] at this
      exact this
    have nc : tK t 5 19 3 4 v 5 = t 5 + 1 := tK_c1 hne
    refine ⟨by rw [ne 0 (by omega) (by omega)]; exact h0, by rw [ne 1 (by omega) (by omega)]; exact h1, by rw [ne 2 (by omega) (by omega)]; exact h2, by rw [ne 3 (by omega) (by omega)]; exact h3, by rw [ne 4 (by omega) (by omega)]; exact h4, by rw [nc]; omega, by rw [ne 6 (by omega) (by omega)]; exact h6, by rw [ne 49 (by omega) (by omega)]; exact h49, fun c w => by rw [ne _ (by omega) (by omega), ne _ (by omega) (by omega), ne _ (by omega) (by omega), ne _ (by omega) (by omega)]; exact hc c w, fun s w => ?_, fun b w => by rw [ne _ (by omega) (by omega), ne _ (by omega) (by omega), ne _ (by omega) (by omega)]; exact hb b w⟩
    by_cases e : s = d
    · subst e
      have n0 := nw 0 (by decide)
      have n1 := nw 1 (by decide)
      have n2 := nw 2 (by decide)
      rw [Nat.add_zero] at n0
      rw [show 20 + 3 * s = 19 + 3 * s + 1 by omega, show 21 + 3 * s = 19 + 3 * s + 2 by omega, n0, n1, n2]
      omega
    · have := hs s w
      rw [ne (19 + 3 * s) (by omega) (by omega), ne (20 + 3 * s) (by omega) (by omega), ne (21 + 3 * s) (by omega) (by omega), nc]
      refine ⟨this.1, ⟨this.2.1.1, this.2.1.2.1, fun w2 => this.2.1.2.2 (by omega)⟩, this.2.2⟩
  · have g0 := lnG (lo := 0) (hi := 63) (hg 0 (by decide)) (by decide) (by decide)
    have g1 := lnG (lo := 0) (hi := 20) (hg 1 (by decide)) (by decide) (by decide)
    have g2 := lnG (lo := 0) (hi := 2) (hg 2 (by decide)) (by decide) (by decide)
    have hne : t 6 ≠ ((6 : Nat) : Int) := fun w => hf ⟨by unfold lnAdds; omega, w⟩
    obtain ⟨d, hd⟩ : ∃ d : Nat, t 6 = (d : Int) := ⟨(t 6).toNat, by omega⟩
    have ed : (t 6).toNat = d := by omega
    show tW0 (tK t 6 31 3 6 v)
    have ne : ∀ j, j ≠ 6 → ¬ (31 + 3 * d ≤ j ∧ j < 31 + 3 * d + 3) → tK t 6 31 3 6 v j = t j := fun j w1 w2 => tK_old w1 (by rw [ed]; exact w2)
    have nw : ∀ r, r < 3 → tK t 6 31 3 6 v (31 + 3 * d + r) = v r := fun r hr => by
      have := @tK_new t 6 31 3 6 r v hne hr (by decide)
      rw [ed] at this
      exact this
    have nc : tK t 6 31 3 6 v 6 = t 6 + 1 := tK_c1 hne
    refine ⟨by rw [ne 0 (by omega) (by omega)]; exact h0, by rw [ne 1 (by omega) (by omega)]; exact h1, by rw [ne 2 (by omega) (by omega)]; exact h2, by rw [ne 3 (by omega) (by omega)]; exact h3, by rw [ne 4 (by omega) (by omega)]; exact h4, by rw [ne 5 (by omega) (by omega)]; exact h5, by rw [nc]; omega, by rw [ne 49 (by omega) (by omega)]; exact h49, fun c w => by rw [ne _ (by omega) (by omega), ne _ (by omega) (by omega), ne _ (by omega) (by omega), ne _ (by omega) (by omega)]; exact hc c w, fun s w => by rw [ne (19 + 3 * s) (by omega) (by omega), ne (20 + 3 * s) (by omega) (by omega), ne (21 + 3 * s) (by omega) (by omega), ne 5 (by omega) (by omega)]; exact hs s w, fun b w => ?_⟩
    by_cases e : b = d
    · subst e
      have n0 := nw 0 (by decide)
      have n1 := nw 1 (by decide)
      have n2 := nw 2 (by decide)
      rw [Nat.add_zero] at n0
      rw [show 32 + 3 * b = 31 + 3 * b + 1 by omega, show 33 + 3 * b = 31 + 3 * b + 2 by omega, n0, n1, n2]
      omega
    · rw [ne _ (by omega) (by omega), ne _ (by omega) (by omega), ne _ (by omega) (by omega)]
      exact hb b w
  · have g0 := lnG (lo := 0) (hi := 5) (hg 0 (by decide)) (by decide) (by decide)
    have g := or6 (d := t 49) (r := v 0) h49 g0
    show tW0 (tU t 49 (yari 8 (t 49) (yari 5 1 (v 0))))
    exact ⟨by rw [tU_ne (by decide)]; exact h0, by rw [tU_ne (by decide)]; exact h1, by rw [tU_ne (by decide)]; exact h2, by rw [tU_ne (by decide)]; exact h3, by rw [tU_ne (by decide)]; exact h4, by rw [tU_ne (by decide)]; exact h5, by rw [tU_ne (by decide)]; exact h6, by rw [tU_at]; exact g, fun c w => by rw [tU_ne (by omega), tU_ne (by omega), tU_ne (by omega), tU_ne (by omega)]; exact hc c w, fun s w => by rw [tU_ne (by omega), tU_ne (by omega), tU_ne (by omega), tU_ne (by omega)]; exact hs s w, fun b w => by rw [tU_ne (by omega), tU_ne (by omega), tU_ne (by omega)]; exact hb b w⟩
theorem lnT_W1 {ln : Nat} {v t : Nat → Int} (hln : 7 ≤ ln ∧ ln ≤ 12) (h : tW1 t) (hg : ∀ j, j < lnN ln → ¬ lnB ln v j) (hf : ¬ (lnAdds ln ∧ t (lnC ln) = lnM ln)) : tW1 (lnT ln v t) := by
  obtain ⟨h0, hk⟩ := h
  have hC : lnC ln = 0 := by unfold lnC; rw [if_neg (by omega), if_neg (by omega), if_neg (by omega)]
  have hM : lnM ln = 30 := by unfold lnM; rw [if_neg (by omega), if_neg (by omega), if_neg (by omega), if_neg (by omega)]
  have hne : t 0 ≠ ((30 : Nat) : Int) := fun w => hf ⟨by unfold lnAdds; omega, by rw [hC, hM]; exact w⟩
  obtain ⟨d, hd⟩ : ∃ d : Nat, t 0 = (d : Int) := ⟨(t 0).toNat, by omega⟩
  have ed : (t 0).toNat = d := by omega
  have hT : lnT ln v t = tK t 0 1 4 30 (fun i => if i = 0 then (ln : Int) - 7 else if i ≤ lnN ln then v (i - 1) else -1) := by
    unfold lnT
    rw [if_neg (by omega), if_neg (by omega), if_neg (by omega), if_neg (by omega), if_neg (by omega), if_neg (by omega), if_neg (by omega), if_neg (by omega), if_neg (by omega)]
  rw [hT]
  generalize hV : (fun i => if i = 0 then (ln : Int) - 7 else if i ≤ lnN ln then v (i - 1) else -1) = V
  have hD : tWd (V 0) (V 1) (V 2) (V 3) := by
    rw [← hV]
    unfold tWd
    rcases (show ln = 7 ∨ ln = 8 ∨ ln = 9 ∨ ln = 10 ∨ ln = 11 ∨ ln = 12 by omega) with rfl | rfl | rfl | rfl | rfl | rfl
    · have g0 := lnG (lo := 0) (hi := 5) (hg 0 (by decide)) (by decide) (by decide)
      have g1 := lnG (lo := 0) (hi := 3) (hg 1 (by decide)) (by decide) (by decide)
      exact Or.inl ⟨rfl, g0, g1, rfl⟩
    · have g0 := lnG (lo := 0) (hi := 5) (hg 0 (by decide)) (by decide) (by decide)
      have g1 := lnG (lo := 0) (hi := 5) (hg 1 (by decide)) (by decide) (by decide)
      have g2 := lnG (lo := 1) (hi := 20) (hg 2 (by decide)) (by decide) (by decide)
      exact Or.inr (Or.inl ⟨rfl, g0, g1, g2⟩)
    · have g0 := lnG (lo := 0) (hi := 5) (hg 0 (by decide)) (by decide) (by decide)
      have g1 := lnG (lo := 1) (hi := 20) (hg 1 (by decide)) (by decide) (by decide)
      exact Or.inr (Or.inr (Or.inl ⟨rfl, g0, g1, rfl⟩))
    · have g0 := lnG (lo := 0) (hi := 5) (hg 0 (by decide)) (by decide) (by decide)
      have g1 := lnG (lo := 0) (hi := 5) (hg 1 (by decide)) (by decide) (by decide)
      exact Or.inr (Or.inr (Or.inr (Or.inl ⟨Or.inl rfl, g0, g1, rfl⟩)))
    · have g0 := lnG (lo := 0) (hi := 5) (hg 0 (by decide)) (by decide) (by decide)
      have g1 := lnG (lo := 0) (hi := 5) (hg 1 (by decide)) (by decide) (by decide)
      exact Or.inr (Or.inr (Or.inr (Or.inl ⟨Or.inr rfl, g0, g1, rfl⟩)))
    · exact Or.inr (Or.inr (Or.inr (Or.inr ⟨rfl, rfl, rfl, rfl⟩)))
  have nc : tK t 0 1 4 30 V 0 = t 0 + 1 := tK_c1 hne
  have nw : ∀ r, r < 4 → tK t 0 1 4 30 V (1 + 4 * d + r) = V r := fun r hr => by
    have := @tK_new t 0 1 4 30 r V hne hr (by decide)
    rw [ed] at this
    exact this
  have ne : ∀ j, j ≠ 0 → ¬ (1 + 4 * d ≤ j ∧ j < 1 + 4 * d + 4) → tK t 0 1 4 30 V j = t j := fun j w1 w2 => tK_old w1 (by rw [ed]; exact w2)
  refine ⟨by rw [nc]; omega, fun k w => ?_⟩
  rw [nc]
  by_cases e : k = d
  · subst e
    have n0 := nw 0 (by decide)
    have n1 := nw 1 (by decide)
    have n2 := nw 2 (by decide)
    have n3 := nw 3 (by decide)
    rw [Nat.add_zero] at n0
    rw [show 2 + 4 * k = 1 + 4 * k + 1 by omega, show 3 + 4 * k = 1 + 4 * k + 2 by omega, show 4 + 4 * k = 1 + 4 * k + 3 by omega, n0, n1, n2, n3]
    exact ⟨fun _ => hD, fun w2 => by omega⟩
  · have := hk k w
    rw [ne _ (by omega) (by omega), ne _ (by omega) (by omega), ne _ (by omega) (by omega), ne _ (by omega) (by omega)]
    exact ⟨fun w2 => this.1 (by omega), fun w2 => this.2 (by omega)⟩
theorem lnT_W2 {ln : Nat} {v t : Nat → Int} (hln : 13 ≤ ln ∧ ln ≤ 14) (h : tW2 t) (hg : ∀ j, j < lnN ln → ¬ lnB ln v j) (hf : ¬ (lnAdds ln ∧ t (lnC ln) = lnM ln)) : tW2 (lnT ln v t) := by
  obtain ⟨h0, h1, hk, hm⟩ := h
  rcases (show ln = 13 ∨ ln = 14 by omega) with rfl | rfl
  · have hne : t 0 ≠ ((9 : Nat) : Int) := fun w => hf ⟨by unfold lnAdds; omega, w⟩
    obtain ⟨d, hd⟩ : ∃ d : Nat, t 0 = (d : Int) := ⟨(t 0).toNat, by omega⟩
    have ed : (t 0).toNat = d := by omega
    have g0 := lnG (lo := 0) (hi := 99) (hg 0 (by decide)) (by decide) (by decide)
    have g1 := lnG (lo := 0) (hi := 99) (hg 1 (by decide)) (by decide) (by decide)
    have g2 : v 0 ≤ v 1 := by
      have := hg 1 (by decide)
      unfold lnB at this
      omega
    show tW2 (tK t 0 2 2 9 v)
    have ne : ∀ j, j ≠ 0 → ¬ (2 + 2 * d ≤ j ∧ j < 2 + 2 * d + 2) → tK t 0 2 2 9 v j = t j := fun j w1 w2 => tK_old w1 (by rw [ed]; exact w2)
    have nw : ∀ r, r < 2 → tK t 0 2 2 9 v (2 + 2 * d + r) = v r := fun r hr => by
      have := @tK_new t 0 2 2 9 r v hne hr (by decide)
      rw [ed] at this
      exact this
    have nc : tK t 0 2 2 9 v 0 = t 0 + 1 := tK_c1 hne
    refine ⟨by rw [nc]; omega, by rw [ne 1 (by omega) (by omega)]; exact h1, fun k w => ?_, fun k w => by rw [ne (20 + 2 * k) (by omega) (by omega), ne (21 + 2 * k) (by omega) (by omega), ne 1 (by omega) (by omega)]; exact hm k w⟩
    by_cases e : k = d
    · subst e
      have n0 := nw 0 (by decide)
      have n1 := nw 1 (by decide)
      rw [Nat.add_zero] at n0
      rw [show 3 + 2 * k = 2 + 2 * k + 1 by omega, n0, n1]
      exact ⟨g0, g1, fun _ => g2⟩
    · have := hk k w
      rw [ne (2 + 2 * k) (by omega) (by omega), ne (3 + 2 * k) (by omega) (by omega), nc]
      exact ⟨this.1, this.2.1, fun w2 => this.2.2 (by omega)⟩
  · have hne : t 1 ≠ ((16 : Nat) : Int) := fun w => hf ⟨by unfold lnAdds; omega, w⟩
    obtain ⟨d, hd⟩ : ∃ d : Nat, t 1 = (d : Int) := ⟨(t 1).toNat, by omega⟩
    have ed : (t 1).toNat = d := by omega
    have g0 := lnG (lo := 0) (hi := 8) (hg 0 (by decide)) (by decide) (by decide)
    have g1 := lnG (lo := 0) (hi := 8) (hg 1 (by decide)) (by decide) (by decide)
    have g2 : v 0 ≠ v 1 := by
      have := hg 1 (by decide)
      unfold lnB at this
      omega
    show tW2 (tK t 1 20 2 16 v)
    have ne : ∀ j, j ≠ 1 → ¬ (20 + 2 * d ≤ j ∧ j < 20 + 2 * d + 2) → tK t 1 20 2 16 v j = t j := fun j w1 w2 => tK_old w1 (by rw [ed]; exact w2)
    have nw : ∀ r, r < 2 → tK t 1 20 2 16 v (20 + 2 * d + r) = v r := fun r hr => by
      have := @tK_new t 1 20 2 16 r v hne hr (by decide)
      rw [ed] at this
      exact this
    have nc : tK t 1 20 2 16 v 1 = t 1 + 1 := tK_c1 hne
    refine ⟨by rw [ne 0 (by omega) (by omega)]; exact h0, by rw [nc]; omega, fun k w => by rw [ne (2 + 2 * k) (by omega) (by omega), ne (3 + 2 * k) (by omega) (by omega), ne 0 (by omega) (by omega)]; exact hk k w, fun k w => ?_⟩
    by_cases e : k = d
    · subst e
      have n0 := nw 0 (by decide)
      have n1 := nw 1 (by decide)
      rw [Nat.add_zero] at n0
      rw [show 21 + 2 * k = 20 + 2 * k + 1 by omega, n0, n1]
      exact ⟨g0, g1, fun _ => g2⟩
    · have := hm k w
      rw [ne (20 + 2 * k) (by omega) (by omega), ne (21 + 2 * k) (by omega) (by omega), nc]
      exact ⟨this.1, this.2.1, fun w2 => this.2.2 (by omega)⟩
theorem lnT_W {of ln : Nat} {v t : Nat → Int} (hof : (of = 0 ∧ ln < 7) ∨ (of = 1 ∧ 7 ≤ ln ∧ ln ≤ 12) ∨ (of = 2 ∧ 13 ≤ ln ∧ ln ≤ 14)) (h : tWf of t) (hg : ∀ j, j < lnN ln → ¬ lnB ln v j) (hf : ¬ (lnAdds ln ∧ t (lnC ln) = lnM ln))   : tWf of (lnT ln v t) :=
  ⟨fun w => lnT_W0 (by omega) (h.1 w) hg hf, fun w => lnT_W1 (by omega) (h.2.1 w) hg hf, fun w => lnT_W2 (by omega) (h.2.2 w) hg hf⟩
end
section
/-! the reference: all lines -/
theorem zT0 : zTv 0 = [0, 7, 13, 15] := rfl
theorem lnIn_i {of ln : Nat} (hof : of ≤ 2) : lnIn of ln ↔ (of = 0 ∧ ln < 7) ∨ (of = 1 ∧ 7 ≤ ln ∧ ln ≤ 12) ∨ (of = 2 ∧ 13 ≤ ln ∧ ln ≤ 14) := by
  unfold lnIn
  rw [zT0]
  rcases (show of = 0 ∨ of = 1 ∨ of = 2 by omega) with rfl | rfl | rfl
  · simp
    omega
  · simp
    omega
  · simp
    omega
theorem lnAt_p {u : Nat → Int} {N of x : Nat} (h : lnAt u N of x ≠ 15) : tkK u N x = 2 ∧ lnIn of (lnAt u N of x) ∧ lnW.getD (lnAt u N of x) 0 = tkW u N x := by
  unfold lnAt at h ⊢
  split at h
  · rename_i hK
    rw [if_pos hK]
    generalize hP : (fun ln : Nat => decide ((zTv 0).getD of 0 ≤ (ln : Int)) && decide ((ln : Int) < (zTv 0).getD (of + 1) 0) && decide (lnW.getD ln 0 = tkW u N x)) = P at h ⊢
    have hle : (List.range 15).findIdx P ≤ (List.range 15).length := List.findIdx_le_length
    have hlt : (List.range 15).findIdx P < (List.range 15).length := by
      rw [List.length_range] at hle ⊢
      omega
    have := List.findIdx_getElem (w := hlt)
    rw [List.getElem_range, ← hP] at this
    rw [← hP]
    simp only [Bool.and_eq_true, decide_eq_true_eq] at this
    exact ⟨hK, ⟨this.1.1, this.1.2⟩, this.2⟩
  · exact absurd rfl h
theorem lnW_0 : ∀ ln, ln < 15 → lnW.getD ln 0 ≠ 0 := by decide
theorem lnAt_n {u : Nat → Int} {N of x ln : Nat} (h : lnAt u N of x = 15) (hl : ln < 15) (hi : lnIn of ln) : (if tkK u N x = 2 then tkW u N x else 0) ≠ lnW.getD ln 0 := by
  unfold lnAt at h
  split at h
  · rename_i hK
    rw [if_pos hK]
    intro e
    have h2 : (List.range 15).findIdx (fun ln : Nat => decide ((zTv 0).getD of 0 ≤ (ln : Int)) && decide ((ln : Int) < (zTv 0).getD (of + 1) 0) && decide (lnW.getD ln 0 = tkW u N x)) = (List.range 15).length := by rw [h, List.length_range]
    have := List.findIdx_eq_length.mp h2 ln (List.mem_range.mpr hl)
    simp only [Bool.and_eq_false_iff, decide_eq_false_iff_not] at this
    rcases this with (w | w) | w
    · exact w hi.1
    · exact w hi.2
    · exact w e.symm
  · rename_i hK
    rw [if_neg hK]
    exact fun e => lnW_0 ln hl e.symm
theorem ntL_0 {ln : Nat} {v p : Nat → Int} {q : Int × Int} : ∀ {k : Nat}, (ntL ln v p q k).1 = 0 → q.1 = 0 ∧ ntL ln v p q k = q ∧ ∀ i, i < k → ¬ lnB ln v i := by
  intro k
  induction k with
  | zero => intro h; exact ⟨h, rfl, fun i hi => by omega⟩
  | succ k ih =>
    intro h
    have hn : ¬ ((ntL ln v p q k).1 = 0 ∧ lnB ln v k) := by
      intro w
      simp only [ntL] at h
      rw [@nt_t _ _ (Classical.propDecidable _) _ _ w.1 w.2] at h
      simp at h
    have he : ntL ln v p q (k + 1) = ntL ln v p q k := by
      simp only [ntL]
      unfold nt
      rw [if_neg hn]
    rw [he] at h ⊢
    obtain ⟨h1, h2, h3⟩ := ih h
    exact ⟨h1, h2, fun i hi => by
      by_cases e : i = k
      · subst e
        exact fun w => hn ⟨h, w⟩
      · exact h3 i (by omega)⟩
/-- how a text ends: without a break -/
def lnE (u : Nat → Int) (N of : Nat) (R : (Int × Int) × (Nat → Int)) (h2 : yH) : Prop := ∃ (q : Int × Int) (t : Nat → Int) (c o : Int) (x : Nat), R = (@nt q (lnX of t c o) (Classical.propDecidable _) 4 (tkS u N x : Nat), t) ∧ tkK u N x = 0 ∧ h2 35 11 = (tkS u N x : Nat) ∧ rN h2 q ∧ (q.1 = 0 → q.2 = -1 ∧ h2 8 = t ∧ h2 35 20 = c ∧ h2 35 21 = o ∧ tWf of t) ∧ (q.1 = 0 ∨ q.2 < (tkS u N x : Nat)) ∧ rB of (h2 8)
theorem lines_e {u : Nat → Int} {N of : Nat} (hof : of ≤ 2) : ∀ (m x n : Nat) (q : Int × Int) (h : yH) (t : Nat → Int) (c o : Int), N - x < m → m + 1401 ≤ n → x ≤ N → rC u N h → tokA u N x h → rN h q → (q.1 = 0 ∨ q.2 < (tkS u N x : Nat)) → (q.1 = 0 → q.2 = -1 ∧ h 8 = t ∧ h 35 20 = c ∧ h 35 21 = o ∧ tWf of t) → rB of (h 8) → (-1 ≤ h 35 20 ∧ h 35 20 ≤ 99) → (-1 ≤ h 35 21 ∧ h 35 21 ≤ 99) →
    ∃ v h2, xl_X12_lines n 2 [35, (of : Int), 1] h = some (v, h2) ∧ pF h h2 ∧ rP h2 ∧ ((v = 0 ∧ (pRd u N of m x q t c o).1 = (1, h2 35 15)) ∨ (v = 1 ∧ lnE u N of (pRd u N of m x q t c o) h2)) := by
  intro m
  induction m with
  | zero => intro x n q h t c o e1; omega
  | succ m ih =>
    intro x n q h t c o e1 e2 hx hc hA hq hp hr hB hb20 hb21
    obtain ⟨n, rfl⟩ : ∃ n', n = n' + 1 := ⟨n - 1, by omega⟩
    have hn : 1400 ≤ n := by omega
    rw [e_X12_lines_2, if_neg (by decide)]
    by_cases hK0 : tkK u N x = 0
    · rw [if_pos (by rw [hA.2.2.1, hK0]; rfl), xg_pos (by decide)]
      refine ⟨1, h, rfl, pF.rfl', hc.2.2.2, Or.inr ⟨rfl, q, t, c, o, x, ?_, hK0, hA.2.1, hq, hr, hp, hB⟩⟩
      simp only [pRd]
      rw [if_pos hK0]
    · have e12 : h 35 12 = (tkK u N x : Nat) := hA.2.2.1
      rw [if_neg (by omega)]
      have hw : (if h 35 12 = 2 then xq_X12_lines_34 n (xl_X12_lines n) [35, (of : Int), 1, h 35 11, h 35 14] h else xq_X12_lines_34 n (xl_X12_lines n) [35, (of : Int), 1, h 35 11, 0] h) = xq_X12_lines_34 n (xl_X12_lines n) [35, (of : Int), 1, (tkS u N x : Nat), (if tkK u N x = 2 then tkW u N x else 0)] h := by
        rw [hA.2.1]
        by_cases hk : tkK u N x = 2
        · rw [if_pos (by omega), if_pos hk, hA.2.2.2.2 hk]
        · rw [if_neg (by omega), if_neg hk]
      rw [hw]
      -- the line's walk: of its sort
      have hF : ∀ (w : Int), xq_X12_lines_34 n (xl_X12_lines n) [35, (of : Int), 1, (tkS u N x : Nat), w] h = xb (if of = 0 then f_X12_seaLine n [35, w, (tkS u N x : Nat)] h else if of = 1 then f_X12_dayLine n [35, w, (tkS u N x : Nat)] h else f_X12_disputeLine n [35, w, (tkS u N x : Nat)] h) (fun v h7 => xq_X12_lines_72 n (xl_X12_lines n) [35, (of : Int), 1, (tkS u N x : Nat), w, v] h7) := by
        intro w
        rw [e_X12_lines_34]
        rcases (show of = 0 ∨ of = 1 ∨ of = 2 by omega) with rfl | rfl | rfl
        · rw [if_pos (by decide), if_pos (by decide)]
        · rw [if_neg (by decide), if_pos (by decide), if_neg (by decide), if_pos (by decide)]
        · rw [if_neg (by decide), if_neg (by decide), if_neg (by decide), if_neg (by decide)]
      rw [hF]
      -- a break
      have brk : ∀ (w : Int) (g : yH), xq_X12_lines_72 n (xl_X12_lines n) [35, (of : Int), 1, (tkS u N x : Nat), w, 0] g = some (0, g) := by
        intro w g
        obtain ⟨n, rfl⟩ : ∃ n', n = n' + 1 := ⟨n - 1, by omega⟩
        rw [e_X12_lines_72, if_pos rfl, if_pos rfl, e_X12_lines_2, if_pos rfl, xg_pos (by decide)]
      by_cases h15 : lnAt u N of x = 15
      · have hwn : ∀ ln, ln < 15 → lnIn of ln → (if tkK u N x = 2 then tkW u N x else 0) ≠ lnW.getD ln 0 := fun ln hl hi => lnAt_n h15 hl hi
        have hf : (if of = 0 then f_X12_seaLine n [35, (if tkK u N x = 2 then tkW u N x else 0), (tkS u N x : Nat)] h else if of = 1 then f_X12_dayLine n [35, (if tkK u N x = 2 then tkW u N x else 0), (tkS u N x : Nat)] h else f_X12_disputeLine n [35, (if tkK u N x = 2 then tkW u N x else 0), (tkS u N x : Nat)] h) = some (0, zup h 35 15 (h 35 11)) := by
          rcases (show of = 0 ∨ of = 1 ∨ of = 2 by omega) with rfl | rfl | rfl
          · rw [if_pos rfl]
            exact seaLine_n (fun ln hl => hwn ln (by omega) ((lnIn_i hof).mpr (by omega)))
          · rw [if_neg (by decide), if_pos rfl]
            exact dayLine_n (fun ln hl => hwn ln (by omega) ((lnIn_i hof).mpr (by omega)))
          · rw [if_neg (by decide), if_neg (by decide)]
            exact disputeLine_n (fun ln hl => hwn ln (by omega) ((lnIn_i hof).mpr (by omega)))
        rw [hf, xb_some, brk]
        refine ⟨0, _, rfl, pF.rfl'.up (by omega), hc.2.2.2.up (by omega), Or.inl ⟨rfl, ?_⟩⟩
        simp only [pRd]
        rw [if_neg hK0, if_pos h15, zup_at, hA.2.1]
      · obtain ⟨k2, hi, hwe⟩ := lnAt_p h15
        rw [if_pos k2, ← hwe]
        generalize hln : lnAt u N of x = ln at *
        have hl15 := (lnIn_i hof).mp hi
        -- what the line does
        have key : ((∀ i, i < lnN ln → tkK u N (tkN u N x (i + 1)) = 3) → ∃ h2, (if of = 0 then f_X12_seaLine n [35, lnW.getD ln 0, (tkS u N x : Nat)] h else if of = 1 then f_X12_dayLine n [35, lnW.getD ln 0, (tkS u N x : Nat)] h else f_X12_disputeLine n [35, lnW.getD ln 0, (tkS u N x : Nat)] h) = some (1, h2) ∧ lnD u N x of ln (ntF q ln (h 8) (tkS u N x : Nat)) h h2) ∧
            ∀ i, i < lnN ln → tkK u N (tkN u N x (i + 1)) ≠ 3 → (∀ j, j < i → tkK u N (tkN u N x (j + 1)) = 3) → ∃ h2, (if of = 0 then f_X12_seaLine n [35, lnW.getD ln 0, (tkS u N x : Nat)] h else if of = 1 then f_X12_dayLine n [35, lnW.getD ln 0, (tkS u N x : Nat)] h else f_X12_disputeLine n [35, lnW.getD ln 0, (tkS u N x : Nat)] h) = some (0, h2) ∧ lnX1 (lp u N x i) h h2 := by
          rcases (show of = 0 ∨ of = 1 ∨ of = 2 by omega) with rfl | rfl | rfl
          · rw [if_pos rfl]
            exact seaLine_e (by omega) hn hx hc hA hK0 hq hp hb20 hb21 hB
          · rw [if_neg (by decide), if_pos rfl]
            exact dayLine_e (by omega) hn hx hc hA hK0 hq hp hb21 hB
          · rw [if_neg (by decide), if_neg (by decide)]
            exact disputeLine_e (by omega) hn hx hc hA hK0 hq hp hb21 hB
        have hsx := tkS_next hK0
        have hXle := fun i => tkN_n (u := u) hx i
        rcases K3 u N x (lnN ln) with h3 | ⟨i, hi1, hi2, hi3⟩
        · obtain ⟨g, g1, g2⟩ := key.1 h3
          rw [g1, xb_some]
          obtain ⟨d1, d2, d3, d4, d5, d6, d7, d8, d9⟩ := g2
          have hex : ¬ ∃ i, i < lnN ln ∧ tkK u N (tkN u N x (i + 1)) ≠ 3 ∧ ∀ j, j < i → tkK u N (tkN u N x (j + 1)) = 3 := fun ⟨i, w1, w2, _⟩ => w2 (h3 i w1)
          by_cases hK4 : tkK u N (tkN u N x (lnN ln + 1)) = 4
          · -- on to the next line
            have hsn := tkS_next (u := u) (N := N) (x := tkN u N x (lnN ln + 1)) (by omega)
            rw [e_X12_lines_72, if_neg (by decide), if_pos (by rw [d2.2.2.1, hK4]; rfl), if_neg (by decide)]
            obtain ⟨g3, t0, t1, t2⟩ := token_e (n := n) hn d1.2.2.1 d1.1 d1.2.2.2.1 d1.2.1 d2.1 (tkE_n (hXle (lnN ln + 1)))
            rw [t0, xb_some]
            have hgrow : ∀ k, x ≤ tkN u N x k := by
              intro k
              induction k with
              | zero => exact Nat.le_refl _
              | succ k ihk => exact Nat.le_trans ihk (Nat.le_trans tkS_ge tkE_ge)
            have hx2 : x < tkE u N (tkN u N x (lnN ln + 1)) := by
              have hg1 := hgrow (lnN ln + 1)
              have hg2 := tkE_gt (tkK_lt (u := u) (N := N) (x := tkN u N x (lnN ln + 1)) (by omega))
              have hg3 := @tkS_ge u N (tkN u N x (lnN ln + 1))
              omega
            have hE2 := @tkE_n u N _ (hXle (lnN ln + 1))
            have f20 : g3 35 20 = lnFc ln (lv u N x) (h 35 20) := by rw [t2 35 20 (by omega)]; exact d7
            have f21 : g3 35 21 = lnFo ln (lv u N x) (h 35 21) := by rw [t2 35 21 (by omega)]; exact d8
            have hlv : ∀ j, j < lnN ln → 0 ≤ lv u N x j ∧ lv u N x j ≤ 99 := fun j hj => tkV_b (h3 j hj)
            have b20 : -1 ≤ g3 35 20 ∧ g3 35 20 ≤ 99 := by
              rw [f20]
              unfold lnFc
              split
              · rename_i w
                have := hlv 0 (by rcases w with rfl | rfl <;> decide)
                omega
              · exact hb20
            have b21 : -1 ≤ g3 35 21 ∧ g3 35 21 ≤ 99 := by
              rw [f21]
              unfold lnFo
              split
              · rename_i w
                have := hlv 0 (by subst w; decide)
                omega
              · split
                · rename_i w
                  have := hlv 0 (by subst w; decide)
                  have := hlv 1 (by subst w; decide)
                  omega
                · exact hb21
            have e38 : g3 8 = g 8 := by
              funext j
              exact t2 8 j (by omega)
            have q3 : rN g3 (ntL ln (lv u N x) (lp u N x) (ntF q ln (h 8) (tkS u N x : Nat)) (lnN ln)) := by
              obtain ⟨b1, b2, b3, b4⟩ := d3
              exact ⟨by rw [t2 35 16 (by omega)]; exact b1, fun w => by rw [t2 35 17 (by omega)]; exact b2 w, b3, b4⟩
            have hqm : (ntF q ln (h 8) (tkS u N x : Nat)).1 = 0 → q.1 = 0 ∧ ntF q ln (h 8) (tkS u N x : Nat) = q ∧ ¬ (lnAdds ln ∧ h 8 (lnC ln) = lnM ln) := by
              intro w
              unfold ntF nt at w ⊢
              split at w
              · simp at w
              · rename_i hne
                rw [if_neg hne]
                exact ⟨w, rfl, fun w2 => hne ⟨w, w2⟩⟩
            have hnt : ntF q ln (h 8) (tkS u N x : Nat) = @nt q (lnAdds ln ∧ t (lnC ln) = lnM ln) (Classical.propDecidable _) 3 (tkS u N x : Nat) := by
              by_cases hz : q.1 = 0
              · rw [← (hr hz).2.1]
                rfl
              · unfold ntF
                rw [@nt_n _ _ (Classical.propDecidable _) _ _ hz, @nt_n _ _ (Classical.propDecidable _) _ _ hz]
            obtain ⟨v, h2, y0, y1, y2, y3⟩ := ih (tkE u N (tkN u N x (lnN ln + 1))) n _ g3 (lnT ln (lv u N x) t) (lnFc ln (lv u N x) c) (lnFo ln (lv u N x) o) (by omega) (by omega) hE2 (t2.c d1) t1 q3 (by
                rcases d4 with d4 | d4
                · exact Or.inl d4
                · exact Or.inr (Int.lt_trans (show _ < ((tkS u N (tkN u N x (lnN ln + 1)) : Nat) : Int) from d4) (by omega))) (fun w => by
                obtain ⟨w1, w2, w3⟩ := ntL_0 w
                obtain ⟨w4, w5, w6⟩ := hqm w1
                obtain ⟨m1, m2, m3, m4, m5⟩ := hr w4
                refine ⟨by rw [w2, w5]; exact m1, ?_, by rw [f20, m3], by rw [f21, m4], lnT_W hl15 m5 w3 (by rw [← m2]; exact w6)⟩
                rw [e38, d5 w3, m2]) (by rw [e38]; exact d6) b20 b21
            refine ⟨v, h2, y0, (d9.tr t2.p).tr y1, y2, ?_⟩
            have hR : pRd u N of (m + 1) x q t c o = pRd u N of m (tkE u N (tkN u N x (lnN ln + 1))) (ntL ln (lv u N x) (lp u N x) (ntF q ln (h 8) (tkS u N x : Nat)) (lnN ln)) (lnT ln (lv u N x) t) (lnFc ln (lv u N x) c) (lnFo ln (lv u N x) o) := by
              simp only [pRd]
              rw [if_neg hK0, hln, if_neg h15, dif_neg hex, if_neg (by omega), hnt]
              rfl
            rw [hR]
            exact y3
          · -- no sign
            rw [e_X12_lines_72, if_neg (by decide), if_neg (by rw [d2.2.2.1]; omega), fails_e, xb_some, if_pos rfl]
            obtain ⟨n, rfl⟩ : ∃ n', n = n' + 1 := ⟨n - 1, by omega⟩
            rw [e_X12_lines_2, if_pos rfl, xg_pos (by decide)]
            refine ⟨0, _, rfl, d9.up (by omega), d1.2.2.2.up (by omega), Or.inl ⟨rfl, ?_⟩⟩
            simp only [pRd]
            rw [if_neg hK0, hln, if_neg h15, dif_neg hex, if_pos hK4, zup_at, d2.2.1]
        · obtain ⟨g, g1, g2⟩ := key.2 i hi1 hi2 hi3
          rw [g1, xb_some, brk]
          refine ⟨0, g, rfl, g2.2.2, g2.2.1, Or.inl ⟨rfl, ?_⟩⟩
          have hex : ∃ i, i < lnN ln ∧ tkK u N (tkN u N x (i + 1)) ≠ 3 ∧ ∀ j, j < i → tkK u N (tkN u N x (j + 1)) = 3 := ⟨i, hi1, hi2, hi3⟩
          have hch : hex.choose = i := by
            obtain ⟨w1, w2, w3⟩ := hex.choose_spec
            rcases Nat.lt_trichotomy hex.choose i with w | w | w
            · exact absurd (hi3 _ w) w2
            · exact w
            · exact absurd (w3 _ w) hi2
          simp only [pRd]
          rw [if_neg hK0]
          simp only [hln]
          rw [if_neg h15, dif_pos hex, hch, g2.1]
          rfl
end
section
/-! the reference: a text is read -/
/-- what is told ahead of all lines -/
def tI (of j : Nat) : Int := if of = 0 then (if j ≤ 1 then 6 else if j = 4 then 4 else if 7 ≤ j ∧ j < 19 then (if (j - 7) % 4 = 0 then 3 else if (j - 7) % 4 = 1 then 1 else if (j - 7) % 4 = 2 then 4 else 6) else 0) else 0
theorem tI_W {of : Nat} {t : Nat → Int} (hof : of ≤ 2) (ht : ∀ j, j < 121 → t j = tI of j) : tWf of t := by
  refine ⟨fun w => ?_, fun w => ?_, fun w => ?_⟩
  · subst w
    have e : ∀ j, j < 121 → t j = if j ≤ 1 then 6 else if j = 4 then 4 else if 7 ≤ j ∧ j < 19 then (if (j - 7) % 4 = 0 then 3 else if (j - 7) % 4 = 1 then 1 else if (j - 7) % 4 = 2 then 4 else 6) else 0 := fun j hj => by
      rw [ht j hj]
      unfold tI
      rw [if_pos rfl]
    refine ⟨by rw [e 0 (by decide)]; decide, by rw [e 1 (by decide)]; decide, by rw [e 2 (by decide)]; decide, by rw [e 3 (by decide)]; decide, by rw [e 4 (by decide)]; decide, by rw [e 5 (by decide)]; decide, by rw [e 6 (by decide)]; decide, by rw [e 49 (by decide)]; decide, fun c hc => ?_, fun s hs => ?_, fun b hb => ?_⟩
    · rcases (show c = 0 ∨ c = 1 ∨ c = 2 by omega) with rfl | rfl | rfl
      all_goals
        rw [e _ (by decide), e _ (by decide), e _ (by decide), e _ (by decide)]
        decide
    · have h5 : t 5 = 0 := by rw [e 5 (by decide)]; decide
      have z : ∀ j, 19 ≤ j → j < 121 → t j = 0 := fun j h1 h2 => by
        rw [e j h2, if_neg (by omega), if_neg (by omega), if_neg (by omega)]
      rw [z (19 + 3 * s) (by omega) (by omega), z (20 + 3 * s) (by omega) (by omega), z (21 + 3 * s) (by omega) (by omega), h5]
      omega
    · have z : ∀ j, 19 ≤ j → j < 121 → t j = 0 := fun j h1 h2 => by
        rw [e j h2, if_neg (by omega), if_neg (by omega), if_neg (by omega)]
      rw [z _ (by omega) (by omega), z _ (by omega) (by omega), z _ (by omega) (by omega)]
      omega
  · subst w
    have z : ∀ j, j < 121 → t j = 0 := fun j hj => by
      rw [ht j hj]
      rfl
    refine ⟨by rw [z 0 (by decide)]; decide, fun k hk => ?_⟩
    rw [z 0 (by decide), z _ (by omega), z _ (by omega), z _ (by omega), z _ (by omega)]
    exact ⟨fun w => by omega, fun _ => ⟨rfl, rfl, rfl, rfl⟩⟩
  · subst w
    have z : ∀ j, j < 121 → t j = 0 := fun j hj => by
      rw [ht j hj]
      rfl
    refine ⟨by rw [z 0 (by decide)]; decide, by rw [z 1 (by decide)]; decide, fun k hk => ?_, fun k hk => ?_⟩
    · rw [z 0 (by decide), z _ (by omega), z _ (by omega)]
      omega
    · rw [z 1 (by decide), z _ (by omega), z _ (by omega)]
      omega
theorem wrong_e {n of : Nat} {h : yH} (hof : of ≤ 2) (hp : rP h) (hW : tWf of (h 8)) : f_X12_isWrong n [35, (of : Int)] h = some (@ite Int (lnX of (h 8) (h 35 20) (h 35 21)) (Classical.propDecidable _) 1 0, h) := by
  have p18 : h 35 18 = 8 := hp.2.2.2.2.2.2.2.2.1
  rw [e_X12_isWrong]
  unfold lnX
  rcases (show of = 0 ∨ of = 1 ∨ of = 2 by omega) with rfl | rfl | rfl
  · obtain ⟨h0, h1, -⟩ := hW.1 rfl
    have b1 : 0 ≤ h 8 0 * h 8 1 := Int.mul_nonneg (by omega) (by omega)
    have b2 : h 8 0 * h 8 1 ≤ 8 * 8 := Int.mul_le_mul h0.2 h1.2 (by omega) (by omega)
    rw [if_pos (by decide), xg_pos p18, xg_pos p18, xg_pos (by omega)]
    by_cases c1 : h 35 20 < h 8 0 * h 8 1
    · rw [if_pos c1, xg_pos p18]
      by_cases c2 : h 35 21 < h 8 6
      · rw [if_pos c2, if_neg (by omega)]
      · rw [if_neg c2, if_pos (Or.inl ⟨rfl, Or.inr (by omega)⟩)]
    · rw [if_neg c1, if_pos (Or.inl ⟨rfl, Or.inl (by omega)⟩)]
  · rw [if_neg (by decide), if_neg (by decide), if_neg (by omega)]
  · rw [if_neg (by decide), if_pos (by decide), xg_pos p18]
    by_cases c1 : h 8 0 = 0
    · rw [if_pos c1, if_pos (Or.inr ⟨rfl, Or.inl c1⟩)]
    · rw [if_neg c1, xg_pos p18]
      by_cases c2 : h 35 21 < h 8 0
      · rw [if_pos c2, if_neg (by omega)]
      · rw [if_neg c2, if_pos (Or.inr ⟨rfl, Or.inr (by omega)⟩)]
/-- cells but those of the told text -/
theorem rt_zero {of : Nat} {h : yH} (p18 : h 35 18 = 8) : ∀ (m i n : Nat) (g : yH), 121 - i = m → i ≤ 121 → m ≤ n → (∀ a j, g a j = if a = 8 ∧ j < i then 0 else h a j) → ∃ g', xl_X12_readText n 2 [35, (of : Int), (i : Int)] g = xl_X12_readText (n - m) 2 [35, (of : Int), 121] g' ∧ ∀ a j, g' a j = if a = 8 ∧ j < 121 then 0 else h a j := by
  intro m
  induction m with
  | zero =>
    intro i n g e1 e2 e3 hg
    have : i = 121 := by omega
    subst this
    exact ⟨g, rfl, hg⟩
  | succ m ih =>
    intro i n g e1 e2 e3 hg
    obtain ⟨n, rfl⟩ : ∃ n', n = n' + 1 := ⟨n - 1, by omega⟩
    rw [e_X12_readText_2, if_pos (by omega), xg_pos (by rw [hg, if_neg (by omega)]; exact p18), xg_pos (by omega), xg_pos (by omega), Int.toNat_natCast, show n + 1 - (m + 1) = n - m by omega]
    refine ih (i + 1) n _ (by omega) (by omega) (by omega) (fun a j => ?_)
    by_cases w : a = 8 ∧ j = i
    · rw [w.1, w.2, zup_at, if_pos (by omega)]
    · rw [zup_ne w, hg]
      by_cases w2 : a = 8 ∧ j < i
      · rw [if_pos w2, if_pos (by omega)]
      · rw [if_neg w2, if_neg (by omega)]
theorem rt_coast {of : Int} {h : yH} (p18 : h 35 18 = 8) : ∀ (m c n : Nat) (g : yH), 3 - c = m → c ≤ 3 → m < n → (∀ a j, g a j = if a = 8 ∧ 7 ≤ j ∧ j < 7 + 4 * c then (if (j - 7) % 4 = 0 then 3 else if (j - 7) % 4 = 1 then 1 else if (j - 7) % 4 = 2 then 4 else 6) else h a j) → ∃ g', xl_X12_readText n 50 [35, of, (c : Int)] g = xq_X12_readText_116 (n - m - 1) (xl_X12_readText (n - m - 1)) [35, of, 3] g' ∧ ∀ a j, g' a j = if a = 8 ∧ 7 ≤ j ∧ j < 19 then (if (j - 7) % 4 = 0 then 3 else if (j - 7) % 4 = 1 then 1 else if (j - 7) % 4 = 2 then 4 else 6) else h a j := by
  intro m
  induction m with
  | zero =>
    intro c n g e1 e2 e3 hg
    obtain ⟨n, rfl⟩ : ∃ n', n = n' + 1 := ⟨n - 1, by omega⟩
    have : c = 3 := by omega
    subst this
    rw [e_X12_readText_50, if_neg (by decide)]
    exact ⟨g, rfl, hg⟩
  | succ m ih =>
    intro c n g e1 e2 e3 hg
    obtain ⟨n, rfl⟩ : ∃ n', n = n' + 1 := ⟨n - 1, by omega⟩
    have g18 : g 35 18 = 8 := by rw [hg, if_neg (by omega)]; exact p18
    rw [e_X12_readText_50, if_pos (by omega), xg_pos g18, xg_pos (by omega), xg_pos (by omega), xg_pos (by omega), xg_pos g18, xg_pos (by omega), xg_pos (by omega), xg_pos (by omega), xg_pos (by omega), xg_pos g18, xg_pos (by omega), xg_pos (by omega), xg_pos (by omega), xg_pos (by omega), xg_pos g18, xg_pos (by omega), xg_pos (by omega), xg_pos (by omega), xg_pos (by omega), xg_pos (by omega), show n + 1 - (m + 1) - 1 = n - m - 1 by omega, show (7 + 4 * (c : Int)).toNat = 7 + 4 * c by omega, show (7 + 4 * (c : Int) + 1).toNat = 7 + 4 * c + 1 by omega, show (7 + 4 * (c : Int) + 2).toNat = 7 + 4 * c + 2 by omega, show (7 + 4 * (c : Int) + 3).toNat = 7 + 4 * c + 3 by omega]
    refine ih (c + 1) n _ (by omega) (by omega) (by omega) (fun a j => ?_)
    by_cases w : a = 8 ∧ 7 + 4 * c ≤ j ∧ j < 7 + 4 * c + 4
    · rw [if_pos (by omega)]
      obtain ⟨rfl, w1, w2⟩ := w
      rcases (show j = 7 + 4 * c ∨ j = 7 + 4 * c + 1 ∨ j = 7 + 4 * c + 2 ∨ j = 7 + 4 * c + 3 by omega) with rfl | rfl | rfl | rfl
      · rw [zup_ne (by omega), zup_ne (by omega), zup_ne (by omega), zup_at, if_pos (by omega)]
      · rw [zup_ne (by omega), zup_ne (by omega), zup_at, if_neg (by omega), if_pos (by omega)]
      · rw [zup_ne (by omega), zup_at, if_neg (by omega), if_neg (by omega), if_pos (by omega)]
      · rw [zup_at, if_neg (by omega), if_neg (by omega), if_neg (by omega)]
    · rw [zup_ne (by omega), zup_ne (by omega), zup_ne (by omega), zup_ne (by omega), hg]
      by_cases w2 : a = 8 ∧ 7 ≤ j ∧ j < 7 + 4 * c
      · rw [if_pos w2]
        exact (if_pos (by omega)).symm
      · rw [if_neg w2, if_neg (by omega)]
/-- what is read: a fault, its place, what is told -/
def rtR (of : Nat) (R : (Int × Int) × (Nat → Int)) (h : yH) (v : Int) (h2 : yH) : Prop := h2 2 0 = R.1.1 ∧ h2 3 0 = R.1.2 ∧ v = (if R.1.1 = 0 then 1 else 0) ∧ (R.1.1 = 0 → h2 8 = R.2 ∧ tWf of R.2) ∧ rP h2 ∧ ∀ a j, a ≤ 7 ∨ a = 34 → ¬ (a = 2 ∧ j = 0) → ¬ (a = 3 ∧ j = 0) → h2 a j = h a j
theorem rt_191 {n of : Nat} {x2 y0 : Int} {h3 h : yH} {K : Nat → yK} {R : (Int × Int) × (Nat → Int)} (hof : of ≤ 2) (hK : K = xl_X12_readText n) (hp : rP h3) (hf : pF h h3) (hy : y0 = R.1.1) (hpl : R.1.2 = if x2 = 0 then h3 35 15 else if 0 < h3 35 16 then h3 35 17 else -1) (h8 : R.1.1 = 0 → h3 8 = R.2 ∧ tWf of R.2) : ∃ v h2, xq_X12_readText_191 n K [35, (of : Int), x2, y0, 0, 2] h3 = some (v, h2) ∧ rtR of R h v h2 := by
  have p3 : h3 35 3 = 2 := hp.2.2.1
  have p4 : h3 35 4 = 3 := hp.2.2.2.1
  subst hK
  rw [e_X12_readText_191, xg_pos (by decide), xg_pos p4]
  have fin : ∀ y : Int, y = R.1.2 → ∃ v h2, (xg (h3 35 3 = 2) (if y0 = 0 then some (1, zup (zup h3 2 0 y0) 3 0 y) else some (0, zup (zup h3 2 0 y0) 3 0 y))) = some (v, h2) ∧ rtR of R h v h2 := by
    intro y ey
    have e2 : ∀ z, rtR of R h z (zup (zup h3 2 0 y0) 3 0 y) ↔ z = if R.1.1 = 0 then 1 else 0 := by
      intro z
      constructor
      · exact fun w => w.2.2.1
      · intro w
        refine ⟨by rw [zup_ne (by omega), zup_at]; exact hy, by rw [zup_at]; exact ey, w, fun w0 => ?_, (hp.up (by omega)).up (by omega), fun a j w1 w2 w3 => by rw [zup_ne w3, zup_ne w2]; exact hf a j w1⟩
        rw [zup_row (by decide), zup_row (by decide)]
        exact h8 w0
    rw [xg_pos p3]
    by_cases hz : y0 = 0
    · rw [if_pos hz]
      exact ⟨1, _, rfl, (e2 1).mpr (by rw [if_pos (by omega)])⟩
    · rw [if_neg hz]
      exact ⟨0, _, rfl, (e2 0).mpr (by rw [if_neg (by omega)])⟩
  by_cases c1 : x2 = 0
  · rw [if_pos c1] at hpl ⊢
    exact fin _ hpl.symm
  · rw [if_neg c1] at hpl ⊢
    by_cases c2 : 0 < h3 35 16
    · rw [if_pos c2] at hpl ⊢
      exact fin _ hpl.symm
    · rw [if_neg c2] at hpl ⊢
      exact fin _ hpl.symm
set_option maxHeartbeats 1000000 in
theorem rt_116 {u : Nat → Int} {N of n : Nat} {x2 : Int} {h : yH} (hof : of ≤ 2) (hn : 2200 ≤ n) (hc : rC u N h) (ht : ∀ j, j < 121 → h 8 j = tI of j) : ∃ v h2, xq_X12_readText_116 n (xl_X12_readText n) [35, (of : Int), x2] h = some (v, h2) ∧ rtR of (pRd u N of 700 0 (0, -1) (h 8) (-1) (-1)) h v h2 := by
  have hN := hc.2.2.1
  have hW := tI_W hof ht
  rw [e_X12_readText_116]
  generalize hg0 : zup (zup (zup (zup h 35 20 (-1)) 35 21 (-1)) 35 9 0) 35 16 0 = g0
  have g0n : ∀ a j, ¬ (a = 35 ∧ (j = 20 ∨ j = 21 ∨ j = 9 ∨ j = 16)) → g0 a j = h a j := fun a j w => by rw [← hg0, zup_ne (by omega), zup_ne (by omega), zup_ne (by omega), zup_ne (by omega)]
  have g20 : g0 35 20 = -1 := by rw [← hg0, zup_ne (by omega), zup_ne (by omega), zup_ne (by omega), zup_at]
  have g21 : g0 35 21 = -1 := by rw [← hg0, zup_ne (by omega), zup_ne (by omega), zup_at]
  have g9 : g0 35 9 = ((0 : Nat) : Int) := by rw [← hg0, zup_ne (by omega), zup_at]; rfl
  have g16 : g0 35 16 = 0 := by rw [← hg0, zup_at]
  have c0 : rC u N g0 := hc.fr (fun i => g0n 0 i (by omega)) (fun j hj => g0n 35 j (by omega))
  obtain ⟨g1, t0, t1, t2⟩ := token_e (n := n) (by omega) hN c0.1 c0.2.2.2.1 c0.2.1 g9 (Nat.zero_le _)
  have e8 : g1 8 = h 8 := by
    funext j
    rw [t2 8 j (by omega), g0n 8 j (by omega)]
  have f20 : g1 35 20 = -1 := by rw [t2 35 20 (by omega)]; exact g20
  have f21 : g1 35 21 = -1 := by rw [t2 35 21 (by omega)]; exact g21
  obtain ⟨v, h3, y0, y1, y2, y3⟩ := lines_e hof 700 0 n (0, -1) g1 (h 8) (-1) (-1) (by omega) (by omega) (Nat.zero_le _) (t2.c c0) t1 ⟨by rw [t2 35 16 (by omega)]; exact g16, fun w => absurd rfl w, by decide, by decide⟩ (Or.inl rfl) (fun _ => ⟨rfl, e8, f20, f21, hW⟩) (by
    rw [e8]
    refine ⟨fun w => ?_, fun w => ?_, fun w => ?_⟩
    · obtain ⟨-, -, -, -, -, h5, h6, h49, -⟩ := hW.1 w
      exact ⟨h5, h6, h49⟩
    · exact (hW.2.1 w).1
    · exact ⟨(hW.2.2 w).1, (hW.2.2 w).2.1⟩) (by rw [f20]; decide) (by rw [f21]; decide)
  have pf : pF h h3 := pF.tr (fun a j w => by rw [t2 a j (by omega), g0n a j (by omega)]) y1
  have p3 : h3 35 3 = 2 := y2.2.2.1
  rw [t0, xb_some, e_X12_lines, y0, xb_some]
  generalize hR : pRd u N of 700 0 (0, -1) (h 8) (-1) (-1) = R at y3 ⊢
  rcases y3 with ⟨rfl, y3⟩ | ⟨rfl, y3⟩
  · rw [if_pos rfl, xg_pos p3, if_pos rfl]
    exact rt_191 hof rfl y2 pf (by rw [y3]) (by rw [y3, if_pos rfl]) (fun w => by rw [y3] at w; simp at w)
  · obtain ⟨q, t, c, o, x, z0, z1, z2, z3, z4, z5, z6⟩ := y3
    obtain ⟨b1, b2, b3, b4⟩ := z3
    rw [if_neg (by decide)]
    by_cases hq : q.1 = 0
    · obtain ⟨m1, m2, m3, m4, m5⟩ := z4 hq
      rw [if_pos (by omega), wrong_e hof y2 (by rw [m2]; exact m5), xb_some, m2, m3, m4]
      by_cases hX : lnX of t c o
      · rw [if_pos hX, if_neg (by decide)]
        obtain ⟨l1, l2⟩ := later_e (n := n) (f := 4) (p := h3 35 11) (q := q) ⟨b1, b2, b3, b4⟩ (Or.inl hq) (by decide)
        rw [l1, xb_some, if_pos hq]
        rw [if_pos hq, nt_t hq trivial] at l2
        have hRe : R.1 = (4, ((tkS u N x : Nat) : Int)) := by rw [z0]; exact @nt_t _ _ (Classical.propDecidable _) _ _ hq hX
        have e16 : zup (zup h3 35 16 4) 35 17 (h3 35 11) 35 16 = 4 := by rw [zup_ne (by omega), zup_at]
        rw [xg_pos (by rw [zup_ne (by omega), zup_ne (by omega)]; exact p3), if_neg (by decide), e16]
        refine rt_191 hof rfl ((y2.up (by omega)).up (by omega)) ((pf.up (by omega)).up (by omega)) (by rw [hRe]) ?_ (fun w => by rw [hRe] at w; simp at w)
        rw [hRe, if_neg (by decide), if_pos (by rw [e16]; decide), zup_at]
        exact z2.symm
      · rw [if_neg hX, if_pos rfl, xg_pos p3, if_neg (by decide), b1]
        have hRe : R = (q, t) := by rw [z0, @nt_f _ _ (Classical.propDecidable _) _ _ hX]
        refine rt_191 hof rfl y2 pf (by rw [hRe]) ?_ (fun _ => by rw [hRe]; exact ⟨m2, m5⟩)
        rw [hRe, if_neg (by decide), if_neg (by omega)]
        exact m1
    · have hRe : R = (q, t) := by rw [z0, @nt_n _ _ (Classical.propDecidable _) _ _ hq]
      rw [if_neg (by omega), xg_pos p3, if_neg (by decide), b1]
      refine rt_191 hof rfl y2 pf (by rw [hRe]) ?_ (fun w => by rw [hRe] at w; exact absurd w hq)
      rw [hRe, if_neg (by decide), if_pos (by omega)]
      exact (b2 hq).symm
theorem readText_e {u : Nat → Int} {N of n : Nat} {h : yH} (hof : of ≤ 2) (hn : 2400 ≤ n) (hc : rC u N h) : ∃ t0 v h2, (∀ j, j < 121 → t0 j = tI of j) ∧ f_X12_readText n [35, (of : Int)] h = some (v, h2) ∧ rtR of (pRd u N of 700 0 (0, -1) t0 (-1) (-1)) h v h2 := by
  have p18 : h 35 18 = 8 := hc.2.2.2.2.2.2.2.2.2.2.2.1
  obtain ⟨g, r0, r1⟩ := rt_zero (of := of) p18 121 0 n h rfl (by decide) (by omega) (fun a j => by rw [if_neg (by omega)])
  have r0 : xl_X12_readText n 2 [35, (of : Int), 0] h = xl_X12_readText (n - 121) 2 [35, (of : Int), 121] g := r0
  have g18 : g 35 18 = 8 := by rw [r1, if_neg (by omega)]; exact p18
  have cg : rC u N g := hc.fr (fun i => by rw [r1, if_neg (by omega)]) (fun j _ => by rw [r1, if_neg (by omega)])
  have pg : pF h g := fun a j w => by rw [r1, if_neg (by omega)]
  obtain ⟨k, hk⟩ : ∃ k, n - 121 = k + 1 := ⟨n - 122, by omega⟩
  rw [e_X12_readText, r0, hk, e_X12_readText_2, if_neg (by decide)]
  have back : ∀ {h0 : yH} {R : (Int × Int) × (Nat → Int)} {v : Int} {h2 : yH}, pF h h0 → rtR of R h0 v h2 → rtR of R h v h2 := by
    intro h0 R v h2 w1 ⟨a1, a2, a3, a4, a5, a6⟩
    exact ⟨a1, a2, a3, a4, a5, fun a j x1 x2 x3 => (a6 a j x1 x2 x3).trans (w1 a j x1)⟩
  by_cases h0 : of = 0
  · subst h0
    rw [if_pos (by decide), xg_pos g18, xg_pos g18, xg_pos g18]
    generalize hg1 : zup (zup (zup g 8 0 6) 8 1 6) 8 4 4 = g1
    have g1n : ∀ a j, a ≠ 8 → g1 a j = g a j := fun a j w => by rw [← hg1, zup_ne (by omega), zup_ne (by omega), zup_ne (by omega)]
    obtain ⟨g2, s0, s1⟩ := rt_coast (of := ((0 : Nat) : Int)) (h := g1) (by rw [g1n 35 18 (by decide)]; exact g18) 3 0 k g1 rfl (by decide) (by omega) (fun a j => by rw [if_neg (by omega)])
    have s0 : xl_X12_readText k 50 [35, ((0 : Nat) : Int), 0] g1 = xq_X12_readText_116 (k - 3 - 1) (xl_X12_readText (k - 3 - 1)) [35, ((0 : Nat) : Int), 3] g2 := s0
    have g2n : ∀ a j, a ≠ 8 → g2 a j = g a j := fun a j w => by rw [s1, if_neg (by omega)]; exact g1n a j w
    have ht : ∀ j, j < 121 → g2 8 j = tI 0 j := by
      intro j hj
      rw [s1]
      unfold tI
      rw [if_pos (rfl : (0 : Nat) = 0)]
      by_cases w : 7 ≤ j ∧ j < 19
      · rw [if_pos ⟨rfl, w⟩, if_neg (show ¬ j ≤ 1 by omega), if_neg (show ¬ j = 4 by omega), if_pos w]
      · rw [if_neg (fun x => w x.2), if_neg w, ← hg1]
        by_cases w1 : j ≤ 1
        · rw [if_pos w1]
          rcases (show j = 0 ∨ j = 1 by omega) with rfl | rfl
          · rw [zup_ne (by omega), zup_ne (by omega), zup_at]
          · rw [zup_ne (by omega), zup_at]
        · rw [if_neg w1]
          by_cases w4 : j = 4
          · rw [if_pos w4, w4, zup_at]
          · rw [if_neg w4, zup_ne (by omega), zup_ne (by omega), zup_ne (by omega), r1, if_pos ⟨rfl, hj⟩]
    obtain ⟨v, h2, y0, y1⟩ := rt_116 (n := k - 3 - 1) (x2 := 3) (h := g2) hof (by omega) (cg.fr (fun i => g2n 0 i (by decide)) (fun j _ => g2n 35 j (by decide))) ht
    exact ⟨g2 8, v, h2, ht, by rw [s0]; exact y0, back (pg.tr (fun a j w => g2n a j (by omega))) y1⟩
  · rw [if_neg (by omega)]
    have ht : ∀ j, j < 121 → g 8 j = tI of j := by
      intro j hj
      rw [r1, if_pos ⟨rfl, hj⟩]
      unfold tI
      rw [if_neg h0]
    obtain ⟨v, h2, y0, y1⟩ := rt_116 (n := k) (x2 := 121) (h := g) hof (by omega) cg ht
    exact ⟨g 8, v, h2, ht, y0, back pg y1⟩
end
