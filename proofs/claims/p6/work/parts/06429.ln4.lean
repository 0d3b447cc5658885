/-! the reference: lines of a day and of a dispute -/
theorem tokA.up {u : Nat → Int} {N x : Nat} {h : yH} {a j : Nat} {v : Int} (hA : tokA u N x h) (hj : ¬ (a = 35 ∧ (j = 9 ∨ (11 ≤ j ∧ j ≤ 14)))) : tokA u N x (zup h a j v) := by
  obtain ⟨a1, a2, a3, a4, a5⟩ := hA
  exact ⟨by rw [zup_ne (by omega)]; exact a1, by rw [zup_ne (by omega)]; exact a2, by rw [zup_ne (by omega)]; exact a3, fun w => by rw [zup_ne (by omega)]; exact a4 w, fun w => by rw [zup_ne (by omega)]; exact a5 w⟩
theorem tokA.fr {u : Nat → Int} {N x : Nat} {h h1 : yH} (hA : tokA u N x h) (f : ∀ j, j = 9 ∨ (11 ≤ j ∧ j ≤ 14) → h1 35 j = h 35 j) : tokA u N x h1 := by
  obtain ⟨a1, a2, a3, a4, a5⟩ := hA
  exact ⟨by rw [f 9 (by omega)]; exact a1, by rw [f 11 (by omega)]; exact a2, by rw [f 12 (by omega)]; exact a3, fun w => by rw [f 13 (by omega)]; exact a4 w, fun w => by rw [f 14 (by omega)]; exact a5 w⟩
theorem rN.up {h : yH} {q : Int × Int} {a j : Nat} {v : Int} (hq : rN h q) (hj : ¬ (a = 35 ∧ (j = 16 ∨ j = 17))) : rN (zup h a j v) q := by
  obtain ⟨b1, b2, b3, b4⟩ := hq
  exact ⟨by rw [zup_ne (by omega)]; exact b1, fun w => by rw [zup_ne (by omega)]; exact b2 w, b3, b4⟩
theorem rC.fr {u : Nat → Int} {N : Nat} {h h1 : yH} (hc : rC u N h) (f0 : ∀ i, h1 0 i = h 0 i) (f : ∀ j, (1 ≤ j ∧ j ≤ 8) ∨ j = 10 ∨ j = 18 ∨ j = 19 → h1 35 j = h 35 j) : rC u N h1 :=
  ⟨by
    rw [← hc.1]
    funext i
    unfold uR
    rw [f0], by rw [f 10 (by omega)]; exact hc.2.1, hc.2.2.1, hc.2.2.2.fr (fun j hj => f j (by omega))⟩
/-- one too many, then the first number -/
theorem begin_e {u : Nat → Int} {N x n ln ct : Nat} {most : Int} {h : yH} {q : Int × Int} (hn : 1400 ≤ n) (hx : x ≤ N) (hc : rC u N h) (hA : tokA u N x h) (hK : tkK u N x ≠ 0) (hq : rN h q) (h0 : q.1 = 0 ∨ q.2 < (tkS u N x : Nat)) (hct : ct < 121) (h1 : lnAdds ln) (h2 : lnC ln = ct) (h3 : lnM ln = most) :
    ∃ g1 g2, f_X12_full n [35, (ct : Int), most, (tkS u N x : Nat)] h = some (0, g1) ∧ f_X12_token n [35] g1 = some (0, g2) ∧ rC u N g2 ∧ tokA u N (tkN u N x 1) g2 ∧ rN g2 (ntF q ln (h 8) (tkS u N x : Nat)) ∧ ((ntF q ln (h 8) (tkS u N x : Nat)).1 = 0 ∨ (ntF q ln (h 8) (tkS u N x : Nat)).2 < lp u N x 0) ∧ (∀ a j, ¬ (a = 35 ∧ (j = 9 ∨ (11 ≤ j ∧ j ≤ 14) ∨ j = 16 ∨ j = 17)) → g2 a j = h a j) := by
  obtain ⟨g1, r1, q1, f1⟩ := @full_e n h ct most (tkS u N x : Nat) q hc.2.2.2 hct hq h0 (lnAdds ln ∧ h 8 (lnC ln) = lnM ln) (Classical.propDecidable _) (by rw [h2, h3]; exact ⟨fun w => w.2, fun w => ⟨h1, w⟩⟩)
  have q1 : rN g1 (ntF q ln (h 8) (tkS u N x : Nat)) := q1
  obtain ⟨g2, r2, c2, a2, q2, l2, f2⟩ := start_e (n := n) hn hx (hc.fr (fun i => f1 0 i (by omega)) (fun j hj => f1 35 j (by omega))) (hA.fr (fun j hj => f1 35 j (by omega))) hK q1 (ntF_le h0)
  exact ⟨g1, g2, r1, r2, c2, a2, q2, l2, fun a j w => by rw [f2 a j (by omega), f1 a j (by omega)]⟩
set_option maxHeartbeats 1000000 in
theorem dayLine_e {u : Nat → Int} {N x n ln : Nat} {q : Int × Int} {h : yH} (hln : 7 ≤ ln ∧ ln ≤ 12) (hn : 1400 ≤ n) (hx : x ≤ N) (hc : rC u N h) (hA : tokA u N x h) (hK : tkK u N x ≠ 0) (hq : rN h q) (h0 : q.1 = 0 ∨ q.2 < (tkS u N x : Nat)) (hb21 : -1 ≤ h 35 21 ∧ h 35 21 ≤ 99) (hB : rB 1 (h 8)) :
    ((∀ i, i < lnN ln → tkK u N (tkN u N x (i + 1)) = 3) → ∃ h2, f_X12_dayLine n [35, lnW.getD ln 0, (tkS u N x : Nat)] h = some (1, h2) ∧ lnD u N x 1 ln (ntF q ln (h 8) (tkS u N x : Nat)) h h2) ∧
    ∀ i, i < lnN ln → tkK u N (tkN u N x (i + 1)) ≠ 3 → (∀ j, j < i → tkK u N (tkN u N x (j + 1)) = 3) → ∃ h2, f_X12_dayLine n [35, lnW.getD ln 0, (tkS u N x : Nat)] h = some (0, h2) ∧ lnX1 (lp u N x i) h h2 := by
  rcases (show ln = 7 ∨ ln = 8 ∨ ln = 9 ∨ ln = 10 ∨ ln = 11 ∨ ln = 12 by omega) with rfl | rfl | rfl | rfl | rfl | rfl
  · rw [show lnW.getD 7 0 = 7499639 from rfl]
    have ln' : lnN 7 = 2 := by decide
    have hd : f_X12_deedBy n [7499639] h = some (0, h) := by
      rw [e_X12_deedBy, if_pos rfl]
    obtain ⟨g1, g2, r1, r2, c2, a2, q2, l2, f2⟩ := begin_e (n := n) (ln := 7) (ct := 0) (most := 30) hn hx hc hA hK hq h0 (by decide) (by unfold lnAdds; omega) (by decide) (by decide)
    have r1 : f_X12_full n [35, 0, 30, (tkS u N x : Nat)] h = some (0, g1) := r1
    have p19 : g2 35 19 = 9 := c2.2.2.2.2.2.2.2.2.2.2.2.2
    obtain ⟨hz, ez⟩ : ∃ hz, hz = (zup (zup (zup (zup g2 9 0 0) 9 1 (-1)) 9 2 (-1)) 9 3 (-1)) := ⟨_, rfl⟩
    have hS : rS u N x 7 1 (ntF q 7 (h 8) (tkS u N x : Nat)) hz 0 hz := by
      rw [ez]
      exact rS_0 ((((c2.up (by decide) (by omega)).up (by decide) (by omega)).up (by decide) (by omega)).up (by decide) (by omega)) ((((a2.up (by omega)).up (by omega)).up (by omega)).up (by omega)) ((((q2.up (by omega)).up (by omega)).up (by omega)).up (by omega)) l2
    have z0 : hz 9 0 = 0 := by rw [ez, zup_ne (by omega), zup_ne (by omega), zup_ne (by omega), zup_at]
    have z1 : hz 9 1 = -1 := by rw [ez, zup_ne (by omega), zup_ne (by omega), zup_at]
    have z2 : hz 9 2 = -1 := by rw [ez, zup_ne (by omega), zup_at]
    have z3 : hz 9 3 = -1 := by rw [ez, zup_at]
    have zn : ∀ a j, a ≠ 9 → hz a j = g2 a j := fun a j w => by rw [ez, zup_ne (by omega), zup_ne (by omega), zup_ne (by omega), zup_ne (by omega)]
    have pp : pF h hz := fun a j w => by rw [zn a j (by omega), f2 a j (by omega)]
    have e8 : hz 8 = h 8 := by
      funext j
      rw [zn 8 j (by decide), f2 8 j (by omega)]
    have e20 : hz 35 20 = h 35 20 := by rw [zn 35 20 (by decide), f2 35 20 (by omega)]
    have e21 : hz 35 21 = h 35 21 := by rw [zn 35 21 (by decide), f2 35 21 (by omega)]
    have t0 : tkK u N (tkN u N x 1) = 3 → ∃ g3, f_X12_take n [35, 1, 0, 5] hz = some (1, g3) ∧ rS u N x 7 1 (ntF q 7 (h 8) (tkS u N x : Nat)) hz 1 g3 := fun hK => take_t hn hx hS hK rfl (by decide) (fun _ => lnB_t (by decide) (by decide) (by decide))
    have t1 : ∀ g, rS u N x 7 1 (ntF q 7 (h 8) (tkS u N x : Nat)) hz 1 g → tkK u N (tkN u N x 2) = 3 → ∃ g3, f_X12_take n [35, 2, 0, 3] g = some (1, g3) ∧ rS u N x 7 1 (ntF q 7 (h 8) (tkS u N x : Nat)) hz 2 g3 := fun g hS hK => take_t hn hx hS hK rfl (by decide) (fun _ => lnB_t (by decide) (by decide) (by decide))
    have fin : ∀ g, rS u N x 7 1 (ntF q 7 (h 8) (tkS u N x : Nat)) hz 2 g → ∃ g3, f_X12_keep n [35, 0, 1, 4, 30] g = some (0, g3) ∧ lnD u N x 1 7 (ntF q 7 (h 8) (tkS u N x : Nat)) h g3 := by
      intro g sg
      have hv := sg.2.2.2.2.1
      have hF := sg.2.2.2.2.2.2.2
      have g8 : g 8 = h 8 := by
        rw [← e8]
        funext j
        exact hF 8 j (by omega) (by omega)
      have w0 : g 9 0 = 0 := by rw [hF 9 0 (by omega) (by omega)]; exact z0
      have w1 : g 9 1 = lv u N x 0 ∧ 0 ≤ lv u N x 0 ∧ lv u N x 0 ≤ 99 := hv 0 (by decide)
      have w2 : g 9 2 = lv u N x 1 ∧ 0 ≤ lv u N x 1 ∧ lv u N x 1 ≤ 99 := hv 1 (by decide)
      have w3 : g 9 3 = -1 := by rw [hF 9 3 (by omega) (by omega)]; exact z3
      obtain ⟨g3, k0, k1, k2⟩ := keep_e (n := n) (h := g) (ct := 0) (from_ := 1) (wide := 4) (most := 30) (by omega) sg.1.2.2.2 (by rw [g8]; exact (hB.2.1 rfl).1) (by rw [g8]; exact (hB.2.1 rfl).2) (by decide) (by decide) (by decide) (by decide) (fun i hi => by
        rcases (show i = 0 ∨ i = 1 ∨ i = 2 ∨ i = 3 by omega) with rfl | rfl | rfl | rfl <;> omega)
      have k3 : g3 8 = lnT 7 (lv u N x) (hz 8) := by
        rw [k1, g8, e8]
        show _ = tK (h 8) 0 1 4 30 (fun i => if i = 0 then ((7 : Nat) : Int) - 7 else if i ≤ lnN 7 then lv u N x (i - 1) else -1)
        refine tK_congr (fun i hi => ?_)
        rw [ln']
        rcases (show i = 0 ∨ i = 1 ∨ i = 2 ∨ i = 3 by omega) with rfl | rfl | rfl | rfl
        · exact w0
        · exact w1.1
        · exact w2.1
        · exact w3
      refine ⟨g3, k0, (lnD_of (of := 1) sg ln' (fun _ => k3) ⟨fun w => by omega, fun _ => ?_, fun w => by omega⟩ (by rw [k2 35 20 (by decide), hF 35 20 (by omega) (by omega)]; rfl) (by rw [k2 35 21 (by decide), hF 35 21 (by omega) (by omega)]; rfl) (fun a j w _ => k2 a j w)).back e8 e20 e21 pp⟩
      rw [k1, g8]
      exact tK_ct (hB.2.1 rfl).1 (hB.2.1 rfl).2
    have pre : f_X12_dayLine n [35, 7499639, (tkS u N x : Nat)] h = xb (f_X12_take n [35, 1, 0, 5] hz) (fun v h => if v = 0 then some (0, h) else xq_X12_dayLine_87 n [35, 7499639, (tkS u N x : Nat), 0, 0, 2, 35] h) := by
      rw [e_X12_dayLine, hd, xb_some, if_neg (by decide), r1, xb_some, r2, xb_some, xg_pos p19, xg_pos (by decide), xg_pos p19, xg_pos p19, xg_pos p19, if_neg (by decide), ← ez]
      refine congrArg (xb _) (funext fun v => funext fun g => ?_)
      by_cases hv : v = 0
      · rw [if_pos hv, if_pos hv]
      · rw [if_neg hv, if_neg hv, if_neg (by decide)]
    refine ⟨fun hK3 => ?_, fun i hi hKi hj => ?_⟩
    · obtain ⟨g3, k0, s3⟩ := t0 (hK3 0 (by omega))
      obtain ⟨g4, k1, s4⟩ := t1 g3 s3 (hK3 1 (by omega))
      obtain ⟨g6, k3, k4⟩ := fin g4 s4
      exact ⟨g6, by rw [pre, k0, xb_some, if_neg (by decide), e_X12_dayLine_87, if_pos rfl, k1, xb_some, if_neg (by decide), e_X12_dayLine_116, if_neg (by decide), k3, xb_some], k4⟩
    · rcases (show i = 0 ∨ i = 1 by omega) with rfl | rfl
      · exact ⟨_, by rw [pre, take_f hS hKi, xb_some, if_pos rfl], hS.x pp⟩
      · obtain ⟨g3, k0, s3⟩ := t0 (hj 0 (by omega))
        exact ⟨_, by rw [pre, k0, xb_some, if_neg (by decide), e_X12_dayLine_87, if_pos rfl, take_f s3 hKi, xb_some, if_pos rfl], s3.x pp⟩
  · rw [show lnW.getD 8 0 = 427020085613 from rfl]
    have ln' : lnN 8 = 3 := by decide
    have hd : f_X12_deedBy n [427020085613] h = some (1, h) := by
      rw [e_X12_deedBy, if_neg (by decide), if_pos rfl]
    obtain ⟨g1, g2, r1, r2, c2, a2, q2, l2, f2⟩ := begin_e (n := n) (ln := 8) (ct := 0) (most := 30) hn hx hc hA hK hq h0 (by decide) (by unfold lnAdds; omega) (by decide) (by decide)
    have r1 : f_X12_full n [35, 0, 30, (tkS u N x : Nat)] h = some (0, g1) := r1
    have p19 : g2 35 19 = 9 := c2.2.2.2.2.2.2.2.2.2.2.2.2
    obtain ⟨hz, ez⟩ : ∃ hz, hz = (zup (zup (zup (zup g2 9 0 1) 9 1 (-1)) 9 2 (-1)) 9 3 (-1)) := ⟨_, rfl⟩
    have hS : rS u N x 8 1 (ntF q 8 (h 8) (tkS u N x : Nat)) hz 0 hz := by
      rw [ez]
      exact rS_0 ((((c2.up (by decide) (by omega)).up (by decide) (by omega)).up (by decide) (by omega)).up (by decide) (by omega)) ((((a2.up (by omega)).up (by omega)).up (by omega)).up (by omega)) ((((q2.up (by omega)).up (by omega)).up (by omega)).up (by omega)) l2
    have z0 : hz 9 0 = 1 := by rw [ez, zup_ne (by omega), zup_ne (by omega), zup_ne (by omega), zup_at]
    have z1 : hz 9 1 = -1 := by rw [ez, zup_ne (by omega), zup_ne (by omega), zup_at]
    have z2 : hz 9 2 = -1 := by rw [ez, zup_ne (by omega), zup_at]
    have z3 : hz 9 3 = -1 := by rw [ez, zup_at]
    have zn : ∀ a j, a ≠ 9 → hz a j = g2 a j := fun a j w => by rw [ez, zup_ne (by omega), zup_ne (by omega), zup_ne (by omega), zup_ne (by omega)]
    have pp : pF h hz := fun a j w => by rw [zn a j (by omega), f2 a j (by omega)]
    have e8 : hz 8 = h 8 := by
      funext j
      rw [zn 8 j (by decide), f2 8 j (by omega)]
    have e20 : hz 35 20 = h 35 20 := by rw [zn 35 20 (by decide), f2 35 20 (by omega)]
    have e21 : hz 35 21 = h 35 21 := by rw [zn 35 21 (by decide), f2 35 21 (by omega)]
    have t0 : tkK u N (tkN u N x 1) = 3 → ∃ g3, f_X12_take n [35, 1, 0, 5] hz = some (1, g3) ∧ rS u N x 8 1 (ntF q 8 (h 8) (tkS u N x : Nat)) hz 1 g3 := fun hK => take_t hn hx hS hK rfl (by decide) (fun _ => lnB_t (by decide) (by decide) (by decide))
    have t1 : ∀ g, rS u N x 8 1 (ntF q 8 (h 8) (tkS u N x : Nat)) hz 1 g → tkK u N (tkN u N x 2) = 3 → ∃ g3, f_X12_take n [35, 2, 0, 5] g = some (1, g3) ∧ rS u N x 8 1 (ntF q 8 (h 8) (tkS u N x : Nat)) hz 2 g3 := fun g hS hK => take_t hn hx hS hK rfl (by decide) (fun _ => lnB_t (by decide) (by decide) (by decide))
    have t2 : ∀ g, rS u N x 8 1 (ntF q 8 (h 8) (tkS u N x : Nat)) hz 2 g → tkK u N (tkN u N x 3) = 3 → ∃ g3, f_X12_take n [35, 3, 1, 20] g = some (1, g3) ∧ rS u N x 8 1 (ntF q 8 (h 8) (tkS u N x : Nat)) hz 3 g3 := fun g hS hK => take_t hn hx hS hK rfl (by decide) (fun _ => lnB_t (by decide) (by decide) (by decide))
    have fin : ∀ g, rS u N x 8 1 (ntF q 8 (h 8) (tkS u N x : Nat)) hz 3 g → ∃ g3, f_X12_keep n [35, 0, 1, 4, 30] g = some (0, g3) ∧ lnD u N x 1 8 (ntF q 8 (h 8) (tkS u N x : Nat)) h g3 := by
      intro g sg
      have hv := sg.2.2.2.2.1
      have hF := sg.2.2.2.2.2.2.2
      have g8 : g 8 = h 8 := by
        rw [← e8]
        funext j
        exact hF 8 j (by omega) (by omega)
      have w0 : g 9 0 = 1 := by rw [hF 9 0 (by omega) (by omega)]; exact z0
      have w1 : g 9 1 = lv u N x 0 ∧ 0 ≤ lv u N x 0 ∧ lv u N x 0 ≤ 99 := hv 0 (by decide)
      have w2 : g 9 2 = lv u N x 1 ∧ 0 ≤ lv u N x 1 ∧ lv u N x 1 ≤ 99 := hv 1 (by decide)
      have w3 : g 9 3 = lv u N x 2 ∧ 0 ≤ lv u N x 2 ∧ lv u N x 2 ≤ 99 := hv 2 (by decide)
      obtain ⟨g3, k0, k1, k2⟩ := keep_e (n := n) (h := g) (ct := 0) (from_ := 1) (wide := 4) (most := 30) (by omega) sg.1.2.2.2 (by rw [g8]; exact (hB.2.1 rfl).1) (by rw [g8]; exact (hB.2.1 rfl).2) (by decide) (by decide) (by decide) (by decide) (fun i hi => by
        rcases (show i = 0 ∨ i = 1 ∨ i = 2 ∨ i = 3 by omega) with rfl | rfl | rfl | rfl <;> omega)
      have k3 : g3 8 = lnT 8 (lv u N x) (hz 8) := by
        rw [k1, g8, e8]
        show _ = tK (h 8) 0 1 4 30 (fun i => if i = 0 then ((8 : Nat) : Int) - 7 else if i ≤ lnN 8 then lv u N x (i - 1) else -1)
        refine tK_congr (fun i hi => ?_)
        rw [ln']
        rcases (show i = 0 ∨ i = 1 ∨ i = 2 ∨ i = 3 by omega) with rfl | rfl | rfl | rfl
        · exact w0
        · exact w1.1
        · exact w2.1
        · exact w3.1
      refine ⟨g3, k0, (lnD_of (of := 1) sg ln' (fun _ => k3) ⟨fun w => by omega, fun _ => ?_, fun w => by omega⟩ (by rw [k2 35 20 (by decide), hF 35 20 (by omega) (by omega)]; rfl) (by rw [k2 35 21 (by decide), hF 35 21 (by omega) (by omega)]; rfl) (fun a j w _ => k2 a j w)).back e8 e20 e21 pp⟩
      rw [k1, g8]
      exact tK_ct (hB.2.1 rfl).1 (hB.2.1 rfl).2
    have pre : f_X12_dayLine n [35, 427020085613, (tkS u N x : Nat)] h = xb (f_X12_take n [35, 1, 0, 5] hz) (fun v h => if v = 0 then some (0, h) else xq_X12_dayLine_87 n [35, 427020085613, (tkS u N x : Nat), 1, 0, 2, 35] h) := by
      rw [e_X12_dayLine, hd, xb_some, if_neg (by decide), r1, xb_some, r2, xb_some, xg_pos p19, xg_pos (by decide), xg_pos p19, xg_pos p19, xg_pos p19, if_neg (by decide), ← ez]
      refine congrArg (xb _) (funext fun v => funext fun g => ?_)
      by_cases hv : v = 0
      · rw [if_pos hv, if_pos hv]
      · rw [if_neg hv, if_neg hv, if_neg (by decide)]
    refine ⟨fun hK3 => ?_, fun i hi hKi hj => ?_⟩
    · obtain ⟨g3, k0, s3⟩ := t0 (hK3 0 (by omega))
      obtain ⟨g4, k1, s4⟩ := t1 g3 s3 (hK3 1 (by omega))
      obtain ⟨g5, k2, s5⟩ := t2 g4 s4 (hK3 2 (by omega))
      obtain ⟨g6, k3, k4⟩ := fin g5 s5
      exact ⟨g6, by rw [pre, k0, xb_some, if_neg (by decide), e_X12_dayLine_87, if_neg (by decide), if_neg (by decide), k1, xb_some, if_neg (by decide), e_X12_dayLine_116, if_pos rfl, k2, xb_some, if_neg (by decide), k3, xb_some], k4⟩
    · rcases (show i = 0 ∨ i = 1 ∨ i = 2 by omega) with rfl | rfl | rfl
      · exact ⟨_, by rw [pre, take_f hS hKi, xb_some, if_pos rfl], hS.x pp⟩
      · obtain ⟨g3, k0, s3⟩ := t0 (hj 0 (by omega))
        exact ⟨_, by rw [pre, k0, xb_some, if_neg (by decide), e_X12_dayLine_87, if_neg (by decide), if_neg (by decide), take_f s3 hKi, xb_some, if_pos rfl], s3.x pp⟩
      · obtain ⟨g3, k0, s3⟩ := t0 (hj 0 (by omega))
        obtain ⟨g4, k1, s4⟩ := t1 g3 s3 (hj 1 (by omega))
        exact ⟨_, by rw [pre, k0, xb_some, if_neg (by decide), e_X12_dayLine_87, if_neg (by decide), if_neg (by decide), k1, xb_some, if_neg (by decide), e_X12_dayLine_116, if_pos rfl, take_f s4 hKi, xb_some, if_pos rfl], s4.x pp⟩
  · rw [show lnW.getD 9 0 = 6384748 from rfl]
    have ln' : lnN 9 = 2 := by decide
    have hd : f_X12_deedBy n [6384748] h = some (2, h) := by
      rw [e_X12_deedBy, if_neg (by decide), if_neg (by decide), if_pos rfl]
    obtain ⟨g1, g2, r1, r2, c2, a2, q2, l2, f2⟩ := begin_e (n := n) (ln := 9) (ct := 0) (most := 30) hn hx hc hA hK hq h0 (by decide) (by unfold lnAdds; omega) (by decide) (by decide)
    have r1 : f_X12_full n [35, 0, 30, (tkS u N x : Nat)] h = some (0, g1) := r1
    have p19 : g2 35 19 = 9 := c2.2.2.2.2.2.2.2.2.2.2.2.2
    obtain ⟨hz, ez⟩ : ∃ hz, hz = (zup (zup (zup (zup g2 9 0 2) 9 1 (-1)) 9 2 (-1)) 9 3 (-1)) := ⟨_, rfl⟩
    have hS : rS u N x 9 1 (ntF q 9 (h 8) (tkS u N x : Nat)) hz 0 hz := by
      rw [ez]
      exact rS_0 ((((c2.up (by decide) (by omega)).up (by decide) (by omega)).up (by decide) (by omega)).up (by decide) (by omega)) ((((a2.up (by omega)).up (by omega)).up (by omega)).up (by omega)) ((((q2.up (by omega)).up (by omega)).up (by omega)).up (by omega)) l2
    have z0 : hz 9 0 = 2 := by rw [ez, zup_ne (by omega), zup_ne (by omega), zup_ne (by omega), zup_at]
    have z1 : hz 9 1 = -1 := by rw [ez, zup_ne (by omega), zup_ne (by omega), zup_at]
    have z2 : hz 9 2 = -1 := by rw [ez, zup_ne (by omega), zup_at]
    have z3 : hz 9 3 = -1 := by rw [ez, zup_at]
    have zn : ∀ a j, a ≠ 9 → hz a j = g2 a j := fun a j w => by rw [ez, zup_ne (by omega), zup_ne (by omega), zup_ne (by omega), zup_ne (by omega)]
    have pp : pF h hz := fun a j w => by rw [zn a j (by omega), f2 a j (by omega)]
    have e8 : hz 8 = h 8 := by
      funext j
      rw [zn 8 j (by decide), f2 8 j (by omega)]
    have e20 : hz 35 20 = h 35 20 := by rw [zn 35 20 (by decide), f2 35 20 (by omega)]
    have e21 : hz 35 21 = h 35 21 := by rw [zn 35 21 (by decide), f2 35 21 (by omega)]
    have t0 : tkK u N (tkN u N x 1) = 3 → ∃ g3, f_X12_take n [35, 1, 0, 5] hz = some (1, g3) ∧ rS u N x 9 1 (ntF q 9 (h 8) (tkS u N x : Nat)) hz 1 g3 := fun hK => take_t hn hx hS hK rfl (by decide) (fun _ => lnB_t (by decide) (by decide) (by decide))
    have t1 : ∀ g, rS u N x 9 1 (ntF q 9 (h 8) (tkS u N x : Nat)) hz 1 g → tkK u N (tkN u N x 2) = 3 → ∃ g3, f_X12_take n [35, 2, 1, 20] g = some (1, g3) ∧ rS u N x 9 1 (ntF q 9 (h 8) (tkS u N x : Nat)) hz 2 g3 := fun g hS hK => take_t hn hx hS hK rfl (by decide) (fun _ => lnB_t (by decide) (by decide) (by decide))
    have fin : ∀ g, rS u N x 9 1 (ntF q 9 (h 8) (tkS u N x : Nat)) hz 2 g → ∃ g3, f_X12_keep n [35, 0, 1, 4, 30] g = some (0, g3) ∧ lnD u N x 1 9 (ntF q 9 (h 8) (tkS u N x : Nat)) h g3 := by
      intro g sg
      have hv := sg.2.2.2.2.1
      have hF := sg.2.2.2.2.2.2.2
      have g8 : g 8 = h 8 := by
        rw [← e8]
        funext j
        exact hF 8 j (by omega) (by omega)
      have w0 : g 9 0 = 2 := by rw [hF 9 0 (by omega) (by omega)]; exact z0
      have w1 : g 9 1 = lv u N x 0 ∧ 0 ≤ lv u N x 0 ∧ lv u N x 0 ≤ 99 := hv 0 (by decide)
      have w2 : g 9 2 = lv u N x 1 ∧ 0 ≤ lv u N x 1 ∧ lv u N x 1 ≤ 99 := hv 1 (by decide)
      have w3 : g 9 3 = -1 := by rw [hF 9 3 (by omega) (by omega)]; exact z3
      obtain ⟨g3, k0, k1, k2⟩ := keep_e (n := n) (h := g) (ct := 0) (from_ := 1) (wide := 4) (most := 30) (by omega) sg.1.2.2.2 (by rw [g8]; exact (hB.2.1 rfl).1) (by rw [g8]; exact (hB.2.1 rfl).2) (by decide) (by decide) (by decide) (by decide) (fun i hi => by
        rcases (show i = 0 ∨ i = 1 ∨ i = 2 ∨ i = 3 by omega) with rfl | rfl | rfl | rfl <;> omega)
      have k3 : g3 8 = lnT 9 (lv u N x) (hz 8) := by
        rw [k1, g8, e8]
        show _ = tK (h 8) 0 1 4 30 (fun i => if i = 0 then ((9 : Nat) : Int) - 7 else if i ≤ lnN 9 then lv u N x (i - 1) else -1)
        refine tK_congr (fun i hi => ?_)
        rw [ln']
        rcases (show i = 0 ∨ i = 1 ∨ i = 2 ∨ i = 3 by omega) with rfl | rfl | rfl | rfl
        · exact w0
        · exact w1.1
        · exact w2.1
        · exact w3
      refine ⟨g3, k0, (lnD_of (of := 1) sg ln' (fun _ => k3) ⟨fun w => by omega, fun _ => ?_, fun w => by omega⟩ (by rw [k2 35 20 (by decide), hF 35 20 (by omega) (by omega)]; rfl) (by rw [k2 35 21 (by decide), hF 35 21 (by omega) (by omega)]; rfl) (fun a j w _ => k2 a j w)).back e8 e20 e21 pp⟩
      rw [k1, g8]
      exact tK_ct (hB.2.1 rfl).1 (hB.2.1 rfl).2
    have pre : f_X12_dayLine n [35, 6384748, (tkS u N x : Nat)] h = xb (f_X12_take n [35, 1, 0, 5] hz) (fun v h => if v = 0 then some (0, h) else xq_X12_dayLine_87 n [35, 6384748, (tkS u N x : Nat), 2, 1, 2, 35] h) := by
      rw [e_X12_dayLine, hd, xb_some, if_neg (by decide), r1, xb_some, r2, xb_some, xg_pos p19, xg_pos (by decide), xg_pos p19, xg_pos p19, xg_pos p19, if_neg (by decide), ← ez]
      refine congrArg (xb _) (funext fun v => funext fun g => ?_)
      by_cases hv : v = 0
      · rw [if_pos hv, if_pos hv]
      · rw [if_neg hv, if_neg hv, if_pos rfl]
    refine ⟨fun hK3 => ?_, fun i hi hKi hj => ?_⟩
    · obtain ⟨g3, k0, s3⟩ := t0 (hK3 0 (by omega))
      obtain ⟨g4, k1, s4⟩ := t1 g3 s3 (hK3 1 (by omega))
      obtain ⟨g6, k3, k4⟩ := fin g4 s4
      exact ⟨g6, by rw [pre, k0, xb_some, if_neg (by decide), e_X12_dayLine_87, if_neg (by decide), if_pos rfl, k1, xb_some, if_neg (by decide), e_X12_dayLine_116, if_neg (by decide), k3, xb_some], k4⟩
    · rcases (show i = 0 ∨ i = 1 by omega) with rfl | rfl
      · exact ⟨_, by rw [pre, take_f hS hKi, xb_some, if_pos rfl], hS.x pp⟩
      · obtain ⟨g3, k0, s3⟩ := t0 (hj 0 (by omega))
        exact ⟨_, by rw [pre, k0, xb_some, if_neg (by decide), e_X12_dayLine_87, if_neg (by decide), if_pos rfl, take_f s3 hKi, xb_some, if_pos rfl], s3.x pp⟩
  · rw [show lnW.getD 10 0 = 495807392116 from rfl]
    have ln' : lnN 10 = 2 := by decide
    have hd : f_X12_deedBy n [495807392116] h = some (3, h) := by
      rw [e_X12_deedBy, if_neg (by decide), if_neg (by decide), if_neg (by decide), if_pos rfl]
    obtain ⟨g1, g2, r1, r2, c2, a2, q2, l2, f2⟩ := begin_e (n := n) (ln := 10) (ct := 0) (most := 30) hn hx hc hA hK hq h0 (by decide) (by unfold lnAdds; omega) (by decide) (by decide)
    have r1 : f_X12_full n [35, 0, 30, (tkS u N x : Nat)] h = some (0, g1) := r1
    have p19 : g2 35 19 = 9 := c2.2.2.2.2.2.2.2.2.2.2.2.2
    obtain ⟨hz, ez⟩ : ∃ hz, hz = (zup (zup (zup (zup g2 9 0 3) 9 1 (-1)) 9 2 (-1)) 9 3 (-1)) := ⟨_, rfl⟩
    have hS : rS u N x 10 1 (ntF q 10 (h 8) (tkS u N x : Nat)) hz 0 hz := by
      rw [ez]
      exact rS_0 ((((c2.up (by decide) (by omega)).up (by decide) (by omega)).up (by decide) (by omega)).up (by decide) (by omega)) ((((a2.up (by omega)).up (by omega)).up (by omega)).up (by omega)) ((((q2.up (by omega)).up (by omega)).up (by omega)).up (by omega)) l2
    have z0 : hz 9 0 = 3 := by rw [ez, zup_ne (by omega), zup_ne (by omega), zup_ne (by omega), zup_at]
    have z1 : hz 9 1 = -1 := by rw [ez, zup_ne (by omega), zup_ne (by omega), zup_at]
    have z2 : hz 9 2 = -1 := by rw [ez, zup_ne (by omega), zup_at]
    have z3 : hz 9 3 = -1 := by rw [ez, zup_at]
    have zn : ∀ a j, a ≠ 9 → hz a j = g2 a j := fun a j w => by rw [ez, zup_ne (by omega), zup_ne (by omega), zup_ne (by omega), zup_ne (by omega)]
    have pp : pF h hz := fun a j w => by rw [zn a j (by omega), f2 a j (by omega)]
    have e8 : hz 8 = h 8 := by
      funext j
      rw [zn 8 j (by decide), f2 8 j (by omega)]
    have e20 : hz 35 20 = h 35 20 := by rw [zn 35 20 (by decide), f2 35 20 (by omega)]
    have e21 : hz 35 21 = h 35 21 := by rw [zn 35 21 (by decide), f2 35 21 (by omega)]
    have t0 : tkK u N (tkN u N x 1) = 3 → ∃ g3, f_X12_take n [35, 1, 0, 5] hz = some (1, g3) ∧ rS u N x 10 1 (ntF q 10 (h 8) (tkS u N x : Nat)) hz 1 g3 := fun hK => take_t hn hx hS hK rfl (by decide) (fun _ => lnB_t (by decide) (by decide) (by decide))
    have t1 : ∀ g, rS u N x 10 1 (ntF q 10 (h 8) (tkS u N x : Nat)) hz 1 g → tkK u N (tkN u N x 2) = 3 → ∃ g3, f_X12_take n [35, 2, 0, 5] g = some (1, g3) ∧ rS u N x 10 1 (ntF q 10 (h 8) (tkS u N x : Nat)) hz 2 g3 := fun g hS hK => take_t hn hx hS hK rfl (by decide) (fun _ => lnB_t (by decide) (by decide) (by decide))
    have fin : ∀ g, rS u N x 10 1 (ntF q 10 (h 8) (tkS u N x : Nat)) hz 2 g → ∃ g3, f_X12_keep n [35, 0, 1, 4, 30] g = some (0, g3) ∧ lnD u N x 1 10 (ntF q 10 (h 8) (tkS u N x : Nat)) h g3 := by
      intro g sg
      have hv := sg.2.2.2.2.1
      have hF := sg.2.2.2.2.2.2.2
      have g8 : g 8 = h 8 := by
        rw [← e8]
        funext j
        exact hF 8 j (by omega) (by omega)
      have w0 : g 9 0 = 3 := by rw [hF 9 0 (by omega) (by omega)]; exact z0
      have w1 : g 9 1 = lv u N x 0 ∧ 0 ≤ lv u N x 0 ∧ lv u N x 0 ≤ 99 := hv 0 (by decide)
      have w2 : g 9 2 = lv u N x 1 ∧ 0 ≤ lv u N x 1 ∧ lv u N x 1 ≤ 99 := hv 1 (by decide)
      have w3 : g 9 3 = -1 := by rw [hF 9 3 (by omega) (by omega)]; exact z3
      obtain ⟨g3, k0, k1, k2⟩ := keep_e (n := n) (h := g) (ct := 0) (from_ := 1) (wide := 4) (most := 30) (by omega) sg.1.2.2.2 (by rw [g8]; exact (hB.2.1 rfl).1) (by rw [g8]; exact (hB.2.1 rfl).2) (by decide) (by decide) (by decide) (by decide) (fun i hi => by
        rcases (show i = 0 ∨ i = 1 ∨ i = 2 ∨ i = 3 by omega) with rfl | rfl | rfl | rfl <;> omega)
      have k3 : g3 8 = lnT 10 (lv u N x) (hz 8) := by
        rw [k1, g8, e8]
        show _ = tK (h 8) 0 1 4 30 (fun i => if i = 0 then ((10 : Nat) : Int) - 7 else if i ≤ lnN 10 then lv u N x (i - 1) else -1)
        refine tK_congr (fun i hi => ?_)
        rw [ln']
        rcases (show i = 0 ∨ i = 1 ∨ i = 2 ∨ i = 3 by omega) with rfl | rfl | rfl | rfl
        · exact w0
        · exact w1.1
        · exact w2.1
        · exact w3
      refine ⟨g3, k0, (lnD_of (of := 1) sg ln' (fun _ => k3) ⟨fun w => by omega, fun _ => ?_, fun w => by omega⟩ (by rw [k2 35 20 (by decide), hF 35 20 (by omega) (by omega)]; rfl) (by rw [k2 35 21 (by decide), hF 35 21 (by omega) (by omega)]; rfl) (fun a j w _ => k2 a j w)).back e8 e20 e21 pp⟩
      rw [k1, g8]
      exact tK_ct (hB.2.1 rfl).1 (hB.2.1 rfl).2
    have pre : f_X12_dayLine n [35, 495807392116, (tkS u N x : Nat)] h = xb (f_X12_take n [35, 1, 0, 5] hz) (fun v h => if v = 0 then some (0, h) else xq_X12_dayLine_87 n [35, 495807392116, (tkS u N x : Nat), 3, 0, 2, 35] h) := by
      rw [e_X12_dayLine, hd, xb_some, if_neg (by decide), r1, xb_some, r2, xb_some, xg_pos p19, xg_pos (by decide), xg_pos p19, xg_pos p19, xg_pos p19, if_neg (by decide), ← ez]
      refine congrArg (xb _) (funext fun v => funext fun g => ?_)
      by_cases hv : v = 0
      · rw [if_pos hv, if_pos hv]
      · rw [if_neg hv, if_neg hv, if_neg (by decide)]
    refine ⟨fun hK3 => ?_, fun i hi hKi hj => ?_⟩
    · obtain ⟨g3, k0, s3⟩ := t0 (hK3 0 (by omega))
      obtain ⟨g4, k1, s4⟩ := t1 g3 s3 (hK3 1 (by omega))
      obtain ⟨g6, k3, k4⟩ := fin g4 s4
      exact ⟨g6, by rw [pre, k0, xb_some, if_neg (by decide), e_X12_dayLine_87, if_neg (by decide), if_neg (by decide), k1, xb_some, if_neg (by decide), e_X12_dayLine_116, if_neg (by decide), k3, xb_some], k4⟩
    · rcases (show i = 0 ∨ i = 1 by omega) with rfl | rfl
      · exact ⟨_, by rw [pre, take_f hS hKi, xb_some, if_pos rfl], hS.x pp⟩
      · obtain ⟨g3, k0, s3⟩ := t0 (hj 0 (by omega))
        exact ⟨_, by rw [pre, k0, xb_some, if_neg (by decide), e_X12_dayLine_87, if_neg (by decide), if_neg (by decide), take_f s3 hKi, xb_some, if_pos rfl], s3.x pp⟩
  · rw [show lnW.getD 11 0 = 7234932 from rfl]
    have ln' : lnN 11 = 2 := by decide
    have hd : f_X12_deedBy n [7234932] h = some (4, h) := by
      rw [e_X12_deedBy, if_neg (by decide), if_neg (by decide), if_neg (by decide), if_neg (by decide), if_pos rfl]
    obtain ⟨g1, g2, r1, r2, c2, a2, q2, l2, f2⟩ := begin_e (n := n) (ln := 11) (ct := 0) (most := 30) hn hx hc hA hK hq h0 (by decide) (by unfold lnAdds; omega) (by decide) (by decide)
    have r1 : f_X12_full n [35, 0, 30, (tkS u N x : Nat)] h = some (0, g1) := r1
    have p19 : g2 35 19 = 9 := c2.2.2.2.2.2.2.2.2.2.2.2.2
    obtain ⟨hz, ez⟩ : ∃ hz, hz = (zup (zup (zup (zup g2 9 0 4) 9 1 (-1)) 9 2 (-1)) 9 3 (-1)) := ⟨_, rfl⟩
    have hS : rS u N x 11 1 (ntF q 11 (h 8) (tkS u N x : Nat)) hz 0 hz := by
      rw [ez]
      exact rS_0 ((((c2.up (by decide) (by omega)).up (by decide) (by omega)).up (by decide) (by omega)).up (by decide) (by omega)) ((((a2.up (by omega)).up (by omega)).up (by omega)).up (by omega)) ((((q2.up (by omega)).up (by omega)).up (by omega)).up (by omega)) l2
    have z0 : hz 9 0 = 4 := by rw [ez, zup_ne (by omega), zup_ne (by omega), zup_ne (by omega), zup_at]
    have z1 : hz 9 1 = -1 := by rw [ez, zup_ne (by omega), zup_ne (by omega), zup_at]
    have z2 : hz 9 2 = -1 := by rw [ez, zup_ne (by omega), zup_at]
    have z3 : hz 9 3 = -1 := by rw [ez, zup_at]
    have zn : ∀ a j, a ≠ 9 → hz a j = g2 a j := fun a j w => by rw [ez, zup_ne (by omega), zup_ne (by omega), zup_ne (by omega), zup_ne (by omega)]
    have pp : pF h hz := fun a j w => by rw [zn a j (by omega), f2 a j (by omega)]
    have e8 : hz 8 = h 8 := by
      funext j
      rw [zn 8 j (by decide), f2 8 j (by omega)]
    have e20 : hz 35 20 = h 35 20 := by rw [zn 35 20 (by decide), f2 35 20 (by omega)]
    have e21 : hz 35 21 = h 35 21 := by rw [zn 35 21 (by decide), f2 35 21 (by omega)]
    have t0 : tkK u N (tkN u N x 1) = 3 → ∃ g3, f_X12_take n [35, 1, 0, 5] hz = some (1, g3) ∧ rS u N x 11 1 (ntF q 11 (h 8) (tkS u N x : Nat)) hz 1 g3 := fun hK => take_t hn hx hS hK rfl (by decide) (fun _ => lnB_t (by decide) (by decide) (by decide))
    have t1 : ∀ g, rS u N x 11 1 (ntF q 11 (h 8) (tkS u N x : Nat)) hz 1 g → tkK u N (tkN u N x 2) = 3 → ∃ g3, f_X12_take n [35, 2, 0, 5] g = some (1, g3) ∧ rS u N x 11 1 (ntF q 11 (h 8) (tkS u N x : Nat)) hz 2 g3 := fun g hS hK => take_t hn hx hS hK rfl (by decide) (fun _ => lnB_t (by decide) (by decide) (by decide))
    have fin : ∀ g, rS u N x 11 1 (ntF q 11 (h 8) (tkS u N x : Nat)) hz 2 g → ∃ g3, f_X12_keep n [35, 0, 1, 4, 30] g = some (0, g3) ∧ lnD u N x 1 11 (ntF q 11 (h 8) (tkS u N x : Nat)) h g3 := by
      intro g sg
      have hv := sg.2.2.2.2.1
      have hF := sg.2.2.2.2.2.2.2
      have g8 : g 8 = h 8 := by
        rw [← e8]
        funext j
        exact hF 8 j (by omega) (by omega)
      have w0 : g 9 0 = 4 := by rw [hF 9 0 (by omega) (by omega)]; exact z0
      have w1 : g 9 1 = lv u N x 0 ∧ 0 ≤ lv u N x 0 ∧ lv u N x 0 ≤ 99 := hv 0 (by decide)
      have w2 : g 9 2 = lv u N x 1 ∧ 0 ≤ lv u N x 1 ∧ lv u N x 1 ≤ 99 := hv 1 (by decide)
      have w3 : g 9 3 = -1 := by rw [hF 9 3 (by omega) (by omega)]; exact z3
      obtain ⟨g3, k0, k1, k2⟩ := keep_e (n := n) (h := g) (ct := 0) (from_ := 1) (wide := 4) (most := 30) (by omega) sg.1.2.2.2 (by rw [g8]; exact (hB.2.1 rfl).1) (by rw [g8]; exact (hB.2.1 rfl).2) (by decide) (by decide) (by decide) (by decide) (fun i hi => by
        rcases (show i = 0 ∨ i = 1 ∨ i = 2 ∨ i = 3 by omega) with rfl | rfl | rfl | rfl <;> omega)
      have k3 : g3 8 = lnT 11 (lv u N x) (hz 8) := by
        rw [k1, g8, e8]
        show _ = tK (h 8) 0 1 4 30 (fun i => if i = 0 then ((11 : Nat) : Int) - 7 else if i ≤ lnN 11 then lv u N x (i - 1) else -1)
        refine tK_congr (fun i hi => ?_)
        rw [ln']
        rcases (show i = 0 ∨ i = 1 ∨ i = 2 ∨ i = 3 by omega) with rfl | rfl | rfl | rfl
        · exact w0
        · exact w1.1
        · exact w2.1
        · exact w3
      refine ⟨g3, k0, (lnD_of (of := 1) sg ln' (fun _ => k3) ⟨fun w => by omega, fun _ => ?_, fun w => by omega⟩ (by rw [k2 35 20 (by decide), hF 35 20 (by omega) (by omega)]; rfl) (by rw [k2 35 21 (by decide), hF 35 21 (by omega) (by omega)]; rfl) (fun a j w _ => k2 a j w)).back e8 e20 e21 pp⟩
      rw [k1, g8]
      exact tK_ct (hB.2.1 rfl).1 (hB.2.1 rfl).2
    have pre : f_X12_dayLine n [35, 7234932, (tkS u N x : Nat)] h = xb (f_X12_take n [35, 1, 0, 5] hz) (fun v h => if v = 0 then some (0, h) else xq_X12_dayLine_87 n [35, 7234932, (tkS u N x : Nat), 4, 0, 2, 35] h) := by
      rw [e_X12_dayLine, hd, xb_some, if_neg (by decide), r1, xb_some, r2, xb_some, xg_pos p19, xg_pos (by decide), xg_pos p19, xg_pos p19, xg_pos p19, if_neg (by decide), ← ez]
      refine congrArg (xb _) (funext fun v => funext fun g => ?_)
      by_cases hv : v = 0
      · rw [if_pos hv, if_pos hv]
      · rw [if_neg hv, if_neg hv, if_neg (by decide)]
    refine ⟨fun hK3 => ?_, fun i hi hKi hj => ?_⟩
    · obtain ⟨g3, k0, s3⟩ := t0 (hK3 0 (by omega))
      obtain ⟨g4, k1, s4⟩ := t1 g3 s3 (hK3 1 (by omega))
      obtain ⟨g6, k3, k4⟩ := fin g4 s4
      exact ⟨g6, by rw [pre, k0, xb_some, if_neg (by decide), e_X12_dayLine_87, if_neg (by decide), if_neg (by decide), k1, xb_some, if_neg (by decide), e_X12_dayLine_116, if_neg (by decide), k3, xb_some], k4⟩
    · rcases (show i = 0 ∨ i = 1 by omega) with rfl | rfl
      · exact ⟨_, by rw [pre, take_f hS hKi, xb_some, if_pos rfl], hS.x pp⟩
      · obtain ⟨g3, k0, s3⟩ := t0 (hj 0 (by omega))
        exact ⟨_, by rw [pre, k0, xb_some, if_neg (by decide), e_X12_dayLine_87, if_neg (by decide), if_neg (by decide), take_f s3 hKi, xb_some, if_pos rfl], s3.x pp⟩
  · rw [show lnW.getD 12 0 = 2002872692 from rfl]
    have ln' : lnN 12 = 0 := by decide
    have hd : f_X12_deedBy n [2002872692] h = some (5, h) := by
      rw [e_X12_deedBy, if_neg (by decide), if_neg (by decide), if_neg (by decide), if_neg (by decide), if_neg (by decide), if_pos rfl]
    obtain ⟨g1, g2, r1, r2, c2, a2, q2, l2, f2⟩ := begin_e (n := n) (ln := 12) (ct := 0) (most := 30) hn hx hc hA hK hq h0 (by decide) (by unfold lnAdds; omega) (by decide) (by decide)
    have r1 : f_X12_full n [35, 0, 30, (tkS u N x : Nat)] h = some (0, g1) := r1
    have p19 : g2 35 19 = 9 := c2.2.2.2.2.2.2.2.2.2.2.2.2
    obtain ⟨hz, ez⟩ : ∃ hz, hz = (zup (zup (zup (zup g2 9 0 5) 9 1 (-1)) 9 2 (-1)) 9 3 (-1)) := ⟨_, rfl⟩
    have hS : rS u N x 12 1 (ntF q 12 (h 8) (tkS u N x : Nat)) hz 0 hz := by
      rw [ez]
      exact rS_0 ((((c2.up (by decide) (by omega)).up (by decide) (by omega)).up (by decide) (by omega)).up (by decide) (by omega)) ((((a2.up (by omega)).up (by omega)).up (by omega)).up (by omega)) ((((q2.up (by omega)).up (by omega)).up (by omega)).up (by omega)) l2
    have z0 : hz 9 0 = 5 := by rw [ez, zup_ne (by omega), zup_ne (by omega), zup_ne (by omega), zup_at]
    have z1 : hz 9 1 = -1 := by rw [ez, zup_ne (by omega), zup_ne (by omega), zup_at]
    have z2 : hz 9 2 = -1 := by rw [ez, zup_ne (by omega), zup_at]
    have z3 : hz 9 3 = -1 := by rw [ez, zup_at]
    have zn : ∀ a j, a ≠ 9 → hz a j = g2 a j := fun a j w => by rw [ez, zup_ne (by omega), zup_ne (by omega), zup_ne (by omega), zup_ne (by omega)]
    have pp : pF h hz := fun a j w => by rw [zn a j (by omega), f2 a j (by omega)]
    have e8 : hz 8 = h 8 := by
      funext j
      rw [zn 8 j (by decide), f2 8 j (by omega)]
    have e20 : hz 35 20 = h 35 20 := by rw [zn 35 20 (by decide), f2 35 20 (by omega)]
    have e21 : hz 35 21 = h 35 21 := by rw [zn 35 21 (by decide), f2 35 21 (by omega)]
    have fin : ∀ g, rS u N x 12 1 (ntF q 12 (h 8) (tkS u N x : Nat)) hz 0 g → ∃ g3, f_X12_keep n [35, 0, 1, 4, 30] g = some (0, g3) ∧ lnD u N x 1 12 (ntF q 12 (h 8) (tkS u N x : Nat)) h g3 := by
      intro g sg
      have hv := sg.2.2.2.2.1
      have hF := sg.2.2.2.2.2.2.2
      have g8 : g 8 = h 8 := by
        rw [← e8]
        funext j
        exact hF 8 j (by omega) (by omega)
      have w0 : g 9 0 = 5 := by rw [hF 9 0 (by omega) (by omega)]; exact z0
      have w1 : g 9 1 = -1 := by rw [hF 9 1 (by omega) (by omega)]; exact z1
      have w2 : g 9 2 = -1 := by rw [hF 9 2 (by omega) (by omega)]; exact z2
      have w3 : g 9 3 = -1 := by rw [hF 9 3 (by omega) (by omega)]; exact z3
      obtain ⟨g3, k0, k1, k2⟩ := keep_e (n := n) (h := g) (ct := 0) (from_ := 1) (wide := 4) (most := 30) (by omega) sg.1.2.2.2 (by rw [g8]; exact (hB.2.1 rfl).1) (by rw [g8]; exact (hB.2.1 rfl).2) (by decide) (by decide) (by decide) (by decide) (fun i hi => by
        rcases (show i = 0 ∨ i = 1 ∨ i = 2 ∨ i = 3 by omega) with rfl | rfl | rfl | rfl <;> omega)
      have k3 : g3 8 = lnT 12 (lv u N x) (hz 8) := by
        rw [k1, g8, e8]
        show _ = tK (h 8) 0 1 4 30 (fun i => if i = 0 then ((12 : Nat) : Int) - 7 else if i ≤ lnN 12 then lv u N x (i - 1) else -1)
        refine tK_congr (fun i hi => ?_)
        rw [ln']
        rcases (show i = 0 ∨ i = 1 ∨ i = 2 ∨ i = 3 by omega) with rfl | rfl | rfl | rfl
        · exact w0
        · exact w1
        · exact w2
        · exact w3
      refine ⟨g3, k0, (lnD_of (of := 1) sg ln' (fun _ => k3) ⟨fun w => by omega, fun _ => ?_, fun w => by omega⟩ (by rw [k2 35 20 (by decide), hF 35 20 (by omega) (by omega)]; rfl) (by rw [k2 35 21 (by decide), hF 35 21 (by omega) (by omega)]; rfl) (fun a j w _ => k2 a j w)).back e8 e20 e21 pp⟩
      rw [k1, g8]
      exact tK_ct (hB.2.1 rfl).1 (hB.2.1 rfl).2
    have pre : f_X12_dayLine n [35, 2002872692, (tkS u N x : Nat)] h = xq_X12_dayLine_116 n [35, 2002872692, (tkS u N x : Nat), 5] hz := by
      rw [e_X12_dayLine, hd, xb_some, if_neg (by decide), r1, xb_some, r2, xb_some, xg_pos p19, xg_pos (by decide), xg_pos p19, xg_pos p19, xg_pos p19, if_pos rfl, ← ez]
    refine ⟨fun _ => ?_, fun i hi => by omega⟩
    obtain ⟨g3, k0, k1⟩ := fin hz hS
    exact ⟨g3, by rw [pre, e_X12_dayLine_116, if_neg (by decide), k0, xb_some], k1⟩
theorem dayLine_n {n : Nat} {w p : Int} {h : yH} (hw : ∀ ln, 7 ≤ ln ∧ ln ≤ 12 → w ≠ lnW.getD ln 0) : f_X12_dayLine n [35, w, p] h = some (0, zup h 35 15 (h 35 11)) := by
  have hd : f_X12_deedBy n [w] h = some (-1, h) := by
    rw [e_X12_deedBy, if_neg (show ¬ w = 7499639 from hw 7 (by decide)), if_neg (show ¬ w = 427020085613 from hw 8 (by decide)), if_neg (show ¬ w = 6384748 from hw 9 (by decide)), if_neg (show ¬ w = 495807392116 from hw 10 (by decide)), if_neg (show ¬ w = 7234932 from hw 11 (by decide)), if_neg (show ¬ w = 2002872692 from hw 12 (by decide))]
  rw [e_X12_dayLine, hd, xb_some, if_pos rfl, fails_e, xb_some, xg_pos (by decide)]
set_option maxHeartbeats 1000000 in
theorem disputeLine_e {u : Nat → Int} {N x n ln : Nat} {q : Int × Int} {h : yH} (hln : 13 ≤ ln ∧ ln ≤ 14) (hn : 1400 ≤ n) (hx : x ≤ N) (hc : rC u N h) (hA : tokA u N x h) (hK : tkK u N x ≠ 0) (hq : rN h q) (h0 : q.1 = 0 ∨ q.2 < (tkS u N x : Nat)) (hb21 : -1 ≤ h 35 21 ∧ h 35 21 ≤ 99) (hB : rB 2 (h 8)) :
    ((∀ i, i < lnN ln → tkK u N (tkN u N x (i + 1)) = 3) → ∃ h2, f_X12_disputeLine n [35, lnW.getD ln 0, (tkS u N x : Nat)] h = some (1, h2) ∧ lnD u N x 2 ln (ntF q ln (h 8) (tkS u N x : Nat)) h h2) ∧
    ∀ i, i < lnN ln → tkK u N (tkN u N x (i + 1)) ≠ 3 → (∀ j, j < i → tkK u N (tkN u N x (j + 1)) = 3) → ∃ h2, f_X12_disputeLine n [35, lnW.getD ln 0, (tkS u N x : Nat)] h = some (0, h2) ∧ lnX1 (lp u N x i) h h2 := by
  rcases (show ln = 13 ∨ ln = 14 by omega) with rfl | rfl
  · rw [show lnW.getD 13 0 = 1935763812 from rfl]
    have ln' : lnN 13 = 2 := by decide
    obtain ⟨g1, g2, r1, r2, c2, a2, q2, l2, f2⟩ := begin_e (n := n) (ln := 13) (ct := 0) (most := 9) hn hx hc hA hK hq h0 (by decide) (by unfold lnAdds; omega) (by decide) (by decide)
    have r1 : f_X12_full n [35, 0, 9, (tkS u N x : Nat)] h = some (0, g1) := r1
    have hS : rS u N x 13 0 (ntF q 13 (h 8) (tkS u N x : Nat)) g2 0 g2 := rS_0 c2 a2 q2 l2
    have pp : pF h g2 := fun a j w => f2 a j (by omega)
    have e8 : g2 8 = h 8 := by
      funext j
      exact f2 8 j (by omega)
    have e20 : g2 35 20 = h 35 20 := f2 35 20 (by omega)
    have e21 : g2 35 21 = h 35 21 := f2 35 21 (by omega)
    have t0 : tkK u N (tkN u N x 1) = 3 → ∃ g3, f_X12_take n [35, 0, 0, 99] g2 = some (1, g3) ∧ rS u N x 13 0 (ntF q 13 (h 8) (tkS u N x : Nat)) g2 1 g3 := fun hK => take_t hn hx hS hK rfl (by decide) (fun _ => by
      unfold lnB
      rw [show lnL 13 0 = 0 by decide, show lnH 13 0 = 99 by decide]
      omega)
    have t1 : ∀ g, rS u N x 13 0 (ntF q 13 (h 8) (tkS u N x : Nat)) g2 1 g → tkK u N (tkN u N x 2) = 3 → ∃ g3, f_X12_take n [35, 1, g 9 0, 99] g = some (1, g3) ∧ rS u N x 13 0 (ntF q 13 (h 8) (tkS u N x : Nat)) g2 2 g3 := by
      intro g sg hK
      have w0 := sg.2.2.2.2.1 0 (by decide)
      rw [Nat.zero_add] at w0
      rw [w0.1]
      refine take_t hn hx sg hK rfl (by decide) (fun _ => ?_)
      unfold lnB
      rw [show lnL 13 1 = 0 by decide, show lnH 13 1 = 99 by decide]
      omega
    have pre : f_X12_disputeLine n [35, 1935763812, (tkS u N x : Nat)] h = xb (f_X12_take n [35, 0, 0, 99] g2) (fun v h => if v = 0 then some (0, h) else (xg (h 35 19 = 9) (xb (f_X12_take n [35, 1, h 9 0, 99] h) (fun v h => if v = 0 then some (0, h) else xb (f_X12_keep n [35, 0, 2, 2, 9] h) (fun _ h => some (1, h)))))) := by
      rw [e_X12_disputeLine, if_pos rfl, if_pos rfl, e_X12_disputeLine_34, if_neg (by decide), if_neg (by decide), e_X12_disputeLine_59, r1, xb_some, r2, xb_some, if_neg (by decide)]
    refine ⟨fun hK3 => ?_, fun i hi hKi hj => ?_⟩
    · obtain ⟨g3, k0, s3⟩ := t0 (hK3 0 (by omega))
      obtain ⟨g4, k1, s4⟩ := t1 g3 s3 (hK3 1 (by omega))
      have p19 : g3 35 19 = 9 := s3.1.2.2.2.2.2.2.2.2.2.2.2.2
      have hv := s4.2.2.2.2.1
      have hF := s4.2.2.2.2.2.2.2
      have w0 := hv 0 (by decide)
      have w1 := hv 1 (by decide)
      rw [Nat.zero_add] at w0 w1
      have g8 : g4 8 = h 8 := by
        rw [← e8]
        funext j
        exact hF 8 j (by omega) (by omega)
      obtain ⟨g5, m0, m1, m2⟩ := keep_e (n := n) (h := g4) (ct := 0) (from_ := 2) (wide := 2) (most := 9) (by omega) s4.1.2.2.2 (by rw [g8]; exact (hB.2.2 rfl).1.1) (by rw [g8]; exact (hB.2.2 rfl).1.2) (by decide) (by decide) (by decide) (by decide) (fun i hi => by rcases (show i = 0 ∨ i = 1 by omega) with rfl | rfl <;> omega)
      have m0 : f_X12_keep n [35, 0, 2, 2, 9] g4 = some (0, g5) := m0
      refine ⟨g5, by rw [pre, k0, xb_some, if_neg (by decide), xg_pos p19, k1, xb_some, if_neg (by decide), m0, xb_some], (lnD_of (of := 2) s4 ln' (fun _ => ?_) ⟨fun w => by omega, fun w => by omega, fun _ => ?_⟩ (by rw [m2 35 20 (by decide), hF 35 20 (by omega) (by omega)]; rfl) (by rw [m2 35 21 (by decide), hF 35 21 (by omega) (by omega)]; rfl) (fun a j w _ => m2 a j w)).back e8 e20 e21 pp⟩
      · rw [m1, g8, e8]
        show _ = tK (h 8) 0 2 2 9 (lv u N x)
        exact tK_congr (fun i hi => by rcases (show i = 0 ∨ i = 1 by omega) with rfl | rfl; exact w0.1; exact w1.1)
      · rw [m1, g8]
        exact ⟨tK_ct (hB.2.2 rfl).1.1 (hB.2.2 rfl).1.2, by rw [tK_lo (by decide) (by decide)]; exact (hB.2.2 rfl).2⟩
    · rcases (show i = 0 ∨ i = 1 by omega) with rfl | rfl
      · exact ⟨_, by rw [pre, take_f hS hKi, xb_some, if_pos rfl], hS.x pp⟩
      · obtain ⟨g3, k0, s3⟩ := t0 (hj 0 (by omega))
        have p19 : g3 35 19 = 9 := s3.1.2.2.2.2.2.2.2.2.2.2.2.2
        exact ⟨_, by rw [pre, k0, xb_some, if_neg (by decide), xg_pos p19, take_f s3 hKi, xb_some, if_pos rfl], s3.x pp⟩
  · rw [show lnW.getD 14 0 = 418363302244 from rfl]
    have ln' : lnN 14 = 2 := by decide
    obtain ⟨g1, g2, r1, r2, c2, a2, q2, l2, f2⟩ := begin_e (n := n) (ln := 14) (ct := 1) (most := 16) hn hx hc hA hK hq h0 (by decide) (by unfold lnAdds; omega) (by decide) (by decide)
    have r1 : f_X12_full n [35, 1, 16, (tkS u N x : Nat)] h = some (0, g1) := r1
    have hS : rS u N x 14 0 (ntF q 14 (h 8) (tkS u N x : Nat)) g2 0 g2 := rS_0 c2 a2 q2 l2
    have pp : pF h g2 := fun a j w => f2 a j (by omega)
    have e8 : g2 8 = h 8 := by
      funext j
      exact f2 8 j (by omega)
    have e20 : g2 35 20 = h 35 20 := f2 35 20 (by omega)
    have e21 : g2 35 21 = h 35 21 := f2 35 21 (by omega)
    have t0 : tkK u N (tkN u N x 1) = 3 → ∃ g3, f_X12_take n [35, 0, 0, 8] g2 = some (1, g3) ∧ rS u N x 14 0 (ntF q 14 (h 8) (tkS u N x : Nat)) g2 1 g3 := fun hK => take_t hn hx hS hK rfl (by decide) (fun _ => by
      unfold lnB
      rw [show lnL 14 0 = 0 by decide, show lnH 14 0 = 8 by decide]
      omega)
    have t1 : ∀ g, rS u N x 14 0 (ntF q 14 (h 8) (tkS u N x : Nat)) g2 1 g → tkK u N (tkN u N x 2) = 3 → ∃ g3, f_X12_takeBut n [35, 1, 0, 8, g 9 0] g = some (1, g3) ∧ rS u N x 14 0 (ntF q 14 (h 8) (tkS u N x : Nat)) g2 2 g3 := by
      intro g sg hK
      have w0 := sg.2.2.2.2.1 0 (by decide)
      rw [Nat.zero_add] at w0
      rw [w0.1]
      refine rS_t hn hx sg hK rfl (by decide) ?_
      unfold lnB
      rw [show lnL 14 1 = 0 by decide, show lnH 14 1 = 8 by decide]
      omega
    have pre : f_X12_disputeLine n [35, 418363302244, (tkS u N x : Nat)] h = xb (f_X12_take n [35, 0, 0, 8] g2) (fun v h => if v = 0 then some (0, h) else (xg (h 35 19 = 9) (xb (f_X12_takeBut n [35, 1, 0, 8, h 9 0] h) (fun v h => if v = 0 then some (0, h) else (xg (h 35 19 = 9) (xg (h 35 19 = 9) (xb (f_X12_greater n [(h 9 0), (h 9 1)] h) (fun v5 h5 => xb (f_X12_greater n [(h 35 21), v5] h5) (fun v6 h6 => xg ((-1) ≤ v6 ∧ v6 ≤ 99) (xb (f_X12_keep n [35, 1, 20, 2, 16] (zup h6 35 21 v6)) (fun _ h7 => some (1, h7)))))))))))) := by
      rw [e_X12_disputeLine, if_neg (by decide), if_pos rfl, if_neg (by decide), e_X12_disputeLine_34, if_pos rfl, if_pos rfl, e_X12_disputeLine_59, r1, xb_some, r2, xb_some, if_pos rfl]
    refine ⟨fun hK3 => ?_, fun i hi hKi hj => ?_⟩
    · obtain ⟨g3, k0, s3⟩ := t0 (hK3 0 (by omega))
      obtain ⟨g4, k1, s4⟩ := t1 g3 s3 (hK3 1 (by omega))
      have p19 : g3 35 19 = 9 := s3.1.2.2.2.2.2.2.2.2.2.2.2.2
      have hv := s4.2.2.2.2.1
      have hF := s4.2.2.2.2.2.2.2
      have w0 := hv 0 (by decide)
      have w1 := hv 1 (by decide)
      rw [Nat.zero_add] at w0 w1
      have g8 : g4 8 = h 8 := by
        rw [← e8]
        funext j
        exact hF 8 j (by omega) (by omega)
      have p19b : g4 35 19 = 9 := s4.1.2.2.2.2.2.2.2.2.2.2.2.2
      have f21 : g4 35 21 = h 35 21 := by rw [hF 35 21 (by omega) (by omega)]; exact e21
      have z8 : ∀ v, (zup g4 35 21 v) 8 = h 8 := fun v => by rw [zup_row (by decide)]; exact g8
      obtain ⟨g5, m0, m1, m2⟩ := keep_e (n := n) (h := zup g4 35 21 (max (h 35 21) (max (lv u N x 0) (lv u N x 1)))) (ct := 1) (from_ := 20) (wide := 2) (most := 16) (by omega) (s4.1.2.2.2.up (by omega)) (by rw [z8]; exact (hB.2.2 rfl).2.1) (by rw [z8]; exact (hB.2.2 rfl).2.2) (by decide) (by decide) (by decide) (by decide) (fun i hi => by rw [zup_ne (by omega)]; rcases (show i = 0 ∨ i = 1 by omega) with rfl | rfl <;> omega)
      have m0 : f_X12_keep n [35, 1, 20, 2, 16] (zup g4 35 21 (max (h 35 21) (max (lv u N x 0) (lv u N x 1)))) = some (0, g5) := m0
      refine ⟨g5, by rw [pre, k0, xb_some, if_neg (by decide), xg_pos p19, k1, xb_some, if_neg (by decide), xg_pos p19b, xg_pos p19b, gr_e, xb_some, gr_e, xb_some, w0.1, w1.1, f21, xg_pos (by omega), m0, xb_some], (lnD_of (of := 2) s4 ln' (fun _ => ?_) ⟨fun w => by omega, fun w => by omega, fun _ => ?_⟩ (by rw [m2 35 20 (by decide), zup_ne (by omega), hF 35 20 (by omega) (by omega)]; rfl) (by rw [m2 35 21 (by decide), zup_at, e21]; rfl) (fun a j w w2 => by rw [m2 a j w, zup_ne (by omega)])).back e8 e20 e21 pp⟩
      · rw [m1, z8, e8]
        show _ = tK (h 8) 1 20 2 16 (lv u N x)
        exact tK_congr (fun i hi => by rw [zup_ne (by omega)]; rcases (show i = 0 ∨ i = 1 by omega) with rfl | rfl; exact w0.1; exact w1.1)
      · rw [m1, z8]
        exact ⟨by rw [tK_lo (by decide) (by decide)]; exact (hB.2.2 rfl).1, tK_ct (hB.2.2 rfl).2.1 (hB.2.2 rfl).2.2⟩
    · rcases (show i = 0 ∨ i = 1 by omega) with rfl | rfl
      · exact ⟨_, by rw [pre, take_f hS hKi, xb_some, if_pos rfl], hS.x pp⟩
      · obtain ⟨g3, k0, s3⟩ := t0 (hj 0 (by omega))
        have p19 : g3 35 19 = 9 := s3.1.2.2.2.2.2.2.2.2.2.2.2.2
        exact ⟨_, by rw [pre, k0, xb_some, if_neg (by decide), xg_pos p19, rS_f s3 hKi, xb_some, if_pos rfl], s3.x pp⟩
theorem disputeLine_n {n : Nat} {w p : Int} {h : yH} (hw : ∀ ln, 13 ≤ ln ∧ ln ≤ 14 → w ≠ lnW.getD ln 0) : f_X12_disputeLine n [35, w, p] h = some (0, zup h 35 15 (h 35 11)) := by
  rw [e_X12_disputeLine, if_neg (show ¬ w = 1935763812 from hw 13 (by decide)), if_neg (show ¬ w = 418363302244 from hw 14 (by decide)), fails_e, xb_some, xg_pos (by decide)]
