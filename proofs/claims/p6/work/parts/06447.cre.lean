/-! the class: read() -/
theorem tkS_le {u : Nat → Int} {N x : Nat} : x ≤ tkS u N x := tGo_le
theorem tkN_le {u : Nat → Int} {N x : Nat} : ∀ i, x ≤ tkN u N x i := by
  intro i
  induction i with
  | zero => exact Nat.le_refl _
  | succ i ih => exact Nat.le_trans ih (Nat.le_trans tkS_le tkS_E)
theorem tkK_0 {u : Nat → Int} {N x : Nat} (hx : x ≤ N) : tkK u N x = 0 ↔ tkS u N x = N := by
  have hs : tkS u N x ≤ N := tkS_n hx
  unfold tkK
  by_cases h : N ≤ tkS u N x
  · rw [if_pos h]
    exact ⟨fun _ => by omega, fun _ => rfl⟩
  · rw [if_neg h]
    refine ⟨fun w => ?_, fun w => by omega⟩
    split at w
    · cases w
    · split at w
      · split at w <;> cases w
      · split at w <;> cases w
theorem tc_0 {k : Nat} (hk : k ≤ 4) : tc k = 0 ↔ k = 0 := by
  unfold tc
  split
  · omega
  · split <;> omega
theorem tc_1 {k : Nat} (hk : k ≤ 4) : tc k = 1 ↔ k = 2 := by
  unfold tc
  split
  · omega
  · split <;> omega
theorem brk_e {u : Nat → Int} {N n of : Nat} {x4 : Int} {q : Int × Int} {t : Nat → Int} {g : yH} (hof : of ≤ 2) (hc : cC u N g) (hH : cH of q t g) (hq : q.1 ≠ 0) (hn : 41 ≤ n) : xl_X4_read n 41 [80, 4, (of : Int), 0, x4] g = some (0, g) := by
  obtain ⟨n, rfl⟩ : ∃ n', n = n' + 1 := ⟨n - 1, by omega⟩
  rw [e_X4_read_41, if_pos rfl]
  obtain ⟨X, g1, -⟩ := end_e (n := n) (x3 := 0) (x4 := x4) hof hc hH (by omega)
  rw [g1, ntn hq, cN_self hH.1 hH.2.1]
set_option maxHeartbeats 1000000 in
theorem read_l {u : Nat → Int} {N of : Nat} (hof : of ≤ 2) : ∀ (m l x n : Nat) (q : Int × Int) (h : yH) (t : Nat → Int) (c o : Int), N - x < m → m + 2000 ≤ n → x ≤ N → l ≤ x → cC u N h → h 80 9 = (x : Int) → cH of q t h → (q.1 = 0 → cI of t c o) →
    ∃ h2, xl_X4_read n 41 [80, 4, (of : Int), 1, (l : Int)] h = some (0, h2) ∧ cC u N h2 ∧ cX h h2 ∧ cH of (pRd u N of m x q t c o).1 (pRd u N of m x q t c o).2 h2 := by
  intro m
  induction m with
  | zero => intro l x n q h t c o e1; omega
  | succ m ih =>
    intro l x n q h t c o e1 e2 hx hl hc h9 hH hI
    obtain ⟨n, rfl⟩ : ∃ n', n = n' + 1 := ⟨n - 1, by omega⟩
    have hN := hc.2.1
    rw [e_X4_read_41, if_neg (by decide), if_neg (by omega), e_X4_readLine, nextToken_e hc h9 hx (by omega), xb_some, cTk_7, cTk_8]
    have hc1 := cTk_C (x := x) hc
    have hH1 := cTk_H (u := u) (N := N) (x := x) hH
    have hX1 : cX h (cTk u N x h) := fun a j w => cTk_ne (by omega)
    have h18 : cTk u N x h 80 8 = (tkS u N x : Int) := cTk_8
    have h19 : cTk u N x h 80 9 = (tkE u N x : Int) := cTk_9
    generalize cTk u N x h = g at *
    simp only [pRd]
    by_cases hK0 : tkK u N x = 0
    · rw [if_pos ((tc_0 tkK_4).mpr hK0), xb_some, xg_pos (by omega), if_pos hK0]
      obtain ⟨n, rfl⟩ : ∃ n', n = n' + 1 := ⟨n - 1, by omega⟩
      rw [e_X4_read_41, if_pos rfl]
      obtain ⟨X, g1, g2⟩ := end_e (n := n) (x3 := 0) (x4 := (l : Int) + 1) hof hc1 hH1 (by omega)
      have hS : tkS u N x = N := (tkK_0 hx).mp hK0
      have eQ : @nt q X (Classical.propDecidable _) 4 (N : Int) = @nt q (lnX of t c o) (Classical.propDecidable _) 4 (tkS u N x : Nat) := by
        rw [hS]
        by_cases hq : q.1 = 0
        · exact nt_iff (g2 c o hq (hI hq))
        · rw [ntn hq, ntn hq]
      rw [g1, eQ]
      refine ⟨_, rfl, cN_C hc1, fun a j w => by rw [cN_ne (by omega)]; exact hX1 a j w, ?_⟩
      obtain ⟨e3, e4, t2, er, ew, et⟩ := hH1
      refine ⟨cN_3, cN_4, t2, er.fr (fun a j _ _ => cN_ne (by omega)), ew, fun w => et ?_⟩
      by_cases hq : q.1 = 0
      · exact hq
      · simp only at w
        rw [ntn hq] at w
        exact w
    · rw [if_neg (fun w => hK0 ((tc_0 tkK_4).mp w)), if_neg hK0]
      by_cases h15 : lnAt u N of x = 15
      · rw [if_pos h15]
        have hb : cH of (1, (tkS u N x : Nat)) t (cN (1, (tkS u N x : Int)) g) := cN_H hH1 (show (1 : Int) ≠ 0 by decide)
        have hcb : cC u N (cN (1, (tkS u N x : Int)) g) := cN_C hc1
        have fin : xl_X4_read n 41 [80, 4, (of : Int), 0, (l : Int) + 1] (cN (1, (tkS u N x : Int)) g) = some (0, cN (1, (tkS u N x : Int)) g) := brk_e hof hcb hb (show (1 : Int) ≠ 0 by decide) (by omega)
        refine ⟨cN (1, (tkS u N x : Int)) g, ?_, hcb, fun a j w => by rw [cN_ne (by omega)]; exact hX1 a j w, hb⟩
        by_cases hk2 : tkK u N x = 2
        · rw [if_pos ((tc_1 tkK_4).mpr hk2), lineOf_e hof hc1 h18 h19 hk2 hx (by omega), xb_some, if_pos h15, if_pos rfl, break_e, xb_some, xg_pos (by decide), xb_some, xg_pos (by omega), h18]
          exact fin
        · rw [if_neg (fun w => hk2 ((tc_1 tkK_4).mp w)), if_pos trivial, break_e, xb_some, xg_pos (by decide), xb_some, xg_pos (by omega), h18]
          exact fin
      · rw [if_neg h15]
        obtain ⟨hk2, hi, hwe⟩ := lnAt_p h15
        have hln : lnAt u N of x < 15 := by have := lnIn_j hof hi; omega
        rw [if_pos ((tc_1 tkK_4).mpr hk2), lineOf_e hof hc1 h18 h19 hk2 hx (by omega), xb_some, if_neg h15, if_neg (by omega)]
        generalize lnAt u N of x = ln at *
        have hb5 := (lnN_b ⟨ln, hln⟩).2
        simp only at hb5
        obtain ⟨v, h2, r1, r2, r3, r4⟩ := line_l (q := q) (t := t) hof hi hln hx (lnN ln) 0 n g rfl (by omega) (by omega) hc1 h19 hH1 (fun j hj => by omega)
        have r1' : xl_X4_readLine n 53 [80, 4, (of : Int), (tkS u N x : Int), (ln : Int), 0] g = some (v, h2) := r1
        rw [r1', xb_some, xg_pos (by omega)]
        have hX2 : cX h h2 := fun a j w => by rw [r3 a j w]; exact hX1 a j w
        rcases r4 with ⟨rfl, k, k1, k2, k3, k4⟩ | ⟨ka, ⟨rfl, k2, k4⟩ | ⟨rfl, k2, k9, k4⟩⟩
        · have hex : ∃ i, i < lnN ln ∧ tkK u N (tkN u N x (i + 1)) ≠ 3 ∧ ∀ j, j < i → tkK u N (tkN u N x (j + 1)) = 3 := ⟨k, k1, k2, k3⟩
          rw [dif_pos hex]
          have hch := hex.choose_spec
          have hek : hex.choose = k := by
            rcases Nat.lt_trichotomy hex.choose k with w | w | w
            · exact absurd (k3 _ w) hch.2.1
            · exact w
            · exact absurd (hch.2.2 k w) k2
          rw [hek]
          exact ⟨h2, brk_e hof r2 k4 (show (1 : Int) ≠ 0 by decide) (by omega), r2, hX2, k4⟩
        · rw [dif_neg (fun ⟨i, i1, i2, _⟩ => i2 (ka i i1)), if_pos k2]
          exact ⟨h2, brk_e hof r2 k4 (show (1 : Int) ≠ 0 by decide) (by omega), r2, hX2, k4⟩
        · rw [dif_neg (fun ⟨i, i1, i2, _⟩ => i2 (ka i i1)), if_neg (fun w => w k2)]
          have y1 : x ≤ tkN u N x (lnN ln + 1) := tkN_le _
          have y2 : tkN u N x (lnN ln + 1) ≤ N := tkN_m hx _
          have y3 : tkS u N (tkN u N x (lnN ln + 1)) < N := by
            have a1 : tkS u N (tkN u N x (lnN ln + 1)) ≤ N := tkS_n y2
            have a2 : ¬ tkS u N (tkN u N x (lnN ln + 1)) = N := fun w => by
              have := (tkK_0 y2).mpr w
              omega
            omega
          have y4 := tkE_gt y3
          have y5 : tkN u N x (lnN ln + 1) ≤ tkS u N (tkN u N x (lnN ln + 1)) := tkS_le
          have y6 : tkE u N (tkN u N x (lnN ln + 1)) ≤ N := tkE_n y2
          obtain ⟨h3, s1, s2, s3, s4⟩ := ih (l + 1) (tkE u N (tkN u N x (lnN ln + 1))) n _ h2 _ (lnFc ln (fun i => tkV u N (tkN u N x (i + 1))) c) (lnFo ln (fun i => tkV u N (tkN u N x (i + 1))) o) (by omega) (by omega) y6 (by omega) r2 k9 k4 (fun w => by
            obtain ⟨z1, z2, z3⟩ := ntL_0 w
            have hq : q.1 = 0 := by
              by_cases hq : q.1 = 0
              · exact hq
              · rw [ntn hq] at z1; exact absurd z1 hq
            have hM : ¬ (lnAdds ln ∧ t (lnC ln) = lnM ln) := by
              intro w2
              rw [ntt hq w2] at z1
              exact absurd z1 (show ¬ (3 : Int) = 0 by decide)
            obtain ⟨-, -, t2, -, ew, et⟩ := hH1
            rw [et hq] at ew
            exact cI_T hof hi (hI hq) ew z3 hM)
          exact ⟨h3, s1, s2, fun a j w => by rw [s3 a j w]; exact hX2 a j w, s4⟩
theorem clear_s {n c : Nat} {h : yH} (hP : cP h) (hc : c < 3) : xl_X6_clear (n + 1) 29 [90, (c : Int)] h = xl_X6_clear n 29 [90, ((c + 1 : Nat) : Int)] (zup (zup (zup (zup h 91 (4 * c) 3) 91 (4 * c + 1) 1) 91 (4 * c + 2) 4) 91 (4 * c + 3) 6) := by
  have p91 := hP.p (a := 90) (j := 5) (v := 91) (by decide)
  rw [e_X6_clear_29, if_pos (by omega), xg_pos p91, xg_pos (by omega), xg_pos (by omega), xg_pos (by omega), xg_pos p91, xg_pos (by omega), xg_pos (by omega), xg_pos (by omega), xg_pos p91, xg_pos (by omega), xg_pos (by omega), xg_pos (by omega), xg_pos p91, xg_pos (by omega), xg_pos (by omega), xg_pos (by omega), xg_pos (by omega), show (4 * (c : Int) + 0).toNat = 4 * c by omega, show (4 * (c : Int) + 1).toNat = 4 * c + 1 by omega, show (4 * (c : Int) + 2).toNat = 4 * c + 2 by omega, show (4 * (c : Int) + 3).toNat = 4 * c + 3 by omega]
  rfl
theorem cF_91 : ∀ j, cF 91 j = false := fun j => by
  unfold cF
  rw [List.any_eq_false]
  intro p hp
  have : ∀ p ∈ cPL, p.1 ≠ 91 := by decide +kernel
  simp [this p hp]
/-- what is told at the beginning -/
theorem clear_e {n : Nat} {h : yH} (hP : cP h) (hn : 5 ≤ n) : ∃ h2, f_X6_clear n [90] h = some (0, h2) ∧ cP h2 ∧ (∀ a j, ¬ (a = 90 ∨ a = 91) → h2 a j = h a j) ∧ ∀ t : Nat → Int, (∀ j, j < 121 → t j = tI 0 j) → cS 90 t h2 := by
  obtain ⟨n, rfl⟩ : ∃ n', n = n' + 4 := ⟨n - 4, by omega⟩
  have q0 : cP (zup (zup (zup (zup (zup h 90 0 6) 90 1 6) 90 2 0) 90 3 0) 90 4 4) := ((((hP.up (by decide)).up (by decide)).up (by decide)).up (by decide)).up (by decide)
  rw [e_X6_clear]
  have nx : ∀ c g, cP g → cP (zup (zup (zup (zup g 91 (4 * c) 3) 91 (4 * c + 1) 1) 91 (4 * c + 2) 4) 91 (4 * c + 3) 6) := fun c g w => (((w.up (cF_91 _)).up (cF_91 _)).up (cF_91 _)).up (cF_91 _)
  have s0 := clear_s (n := n + 3) (c := 0) q0 (by decide)
  have s1 := clear_s (n := n + 2) (c := 1) (nx 0 _ q0) (by decide)
  have s2 := clear_s (n := n + 1) (c := 2) (nx 1 _ (nx 0 _ q0)) (by decide)
  have q3 := nx 2 _ (nx 1 _ (nx 0 _ q0))
  have s3 : xl_X6_clear (n + 1) 29 [90, ((2 + 1 : Nat) : Int)] _ = _ := (e_X6_clear_29 (n := n) (x1 := ((2 + 1 : Nat) : Int)) (h := (zup (zup (zup (zup (zup (zup (zup (zup (zup (zup (zup (zup (zup (zup (zup (zup (zup h 90 0 6) 90 1 6) 90 2 0) 90 3 0) 90 4 4) 91 (4 * 0) 3) 91 (4 * 0 + 1) 1) 91 (4 * 0 + 2) 4) 91 (4 * 0 + 3) 6) 91 (4 * 1) 3) 91 (4 * 1 + 1) 1) 91 (4 * 1 + 2) 4) 91 (4 * 1 + 3) 6) 91 (4 * 2) 3) 91 (4 * 2 + 1) 1) 91 (4 * 2 + 2) 4) 91 (4 * 2 + 3) 6))).trans (if_neg (by decide))
  refine ⟨_, s0.trans (s1.trans (s2.trans s3)), ((q3.up (by decide)).up (by decide)).up (by decide), fun a j w => ?_, fun t ht => ?_⟩
  · rw [zup_ne (by omega), zup_ne (by omega), zup_ne (by omega), zup_ne (by omega), zup_ne (by omega), zup_ne (by omega), zup_ne (by omega), zup_ne (by omega), zup_ne (by omega), zup_ne (by omega), zup_ne (by omega), zup_ne (by omega), zup_ne (by omega), zup_ne (by omega), zup_ne (by omega), zup_ne (by omega), zup_ne (by omega), zup_ne (by omega), zup_ne (by omega), zup_ne (by omega)]
  · have t5 : t 5 = 0 := by rw [ht 5 (by decide)]; rfl
    have t6 : t 6 = 0 := by rw [ht 6 (by decide)]; rfl
    refine ⟨by rw [ht 0 (by decide)]; rfl, by rw [ht 1 (by decide)]; rfl, by rw [ht 2 (by decide)]; rfl, by rw [ht 3 (by decide)]; rfl, by rw [ht 4 (by decide)]; rfl, by rw [ht 5 (by decide)]; rfl, by rw [ht 6 (by decide)]; rfl, by rw [ht 49 (by decide)]; rfl, fun i hi => ?_, fun k hk => by omega, fun k hk => by omega⟩
    rw [ht (7 + i) (by omega)]
    rcases (show i = 0 ∨ i = 1 ∨ i = 2 ∨ i = 3 ∨ i = 4 ∨ i = 5 ∨ i = 6 ∨ i = 7 ∨ i = 8 ∨ i = 9 ∨ i = 10 ∨ i = 11 by omega) with rfl | rfl | rfl | rfl | rfl | rfl | rfl | rfl | rfl | rfl | rfl | rfl <;> rfl
theorem cI_0 {of : Nat} {t : Nat → Int} (hof : of ≤ 2) (ht : ∀ j, j < 121 → t j = tI of j) : cI of t (-1) (-1) := by
  refine ⟨fun e => ?_, fun e => ?_⟩
  · subst e
    have t5 : t 5 = 0 := by rw [ht 5 (by decide)]; rfl
    have t6 : t 6 = 0 := by rw [ht 6 (by decide)]; rfl
    have t49 : t 49 = 0 := by rw [ht 49 (by decide)]; rfl
    refine ⟨fun k hk => by omega, fun k hk => by omega, Or.inl rfl, ?_⟩
    rw [t49]
    unfold dI
    decide
  · subst e
    have t1 : t 1 = 0 := by rw [ht 1 (by decide)]; rfl
    exact ⟨fun k hk => by omega, Or.inl rfl⟩
/-- read(): as the document reads a text -/
theorem read_e {u : Nat → Int} {N of n : Nat} {t0 : Nat → Int} {h : yH} (hof : of ≤ 2) (hn : 2800 ≤ n) (hc : cC u N h) (ht : ∀ j, j < 121 → t0 j = tI of j) : ∃ h2, f_X4_read n [80, 4, (of : Int)] h = some (0, h2) ∧ cC u N h2 ∧ cX h h2 ∧ cH of (pRd u N of 700 0 (0, -1) t0 (-1) (-1)).1 (pRd u N of 700 0 (0, -1) t0 (-1) (-1)).2 h2 := by
  have hP := hc.2.2.2
  have hN := hc.2.1
  obtain ⟨g, g1, g2, g3, g4⟩ := clear_e (n := n) hP (by omega)
  rw [e_X4_read, xg_pos (hP.p (by decide)), g1, xb_some, xg_pos (g2.p (by decide)), e_X1_clear, xb_some, xg_pos ((g2.up (by decide)).p (by decide)), e_X2_clear, xb_some]
  generalize hk : zup (zup (zup (zup (zup (zup g 100 0 0) 110 0 0) 110 3 0) 80 3 0) 80 4 (-1)) 80 9 0 = k
  have kn : ∀ a j, ¬ (a = 100 ∧ j = 0) → ¬ (a = 110 ∧ (j = 0 ∨ j = 3)) → ¬ (a = 80 ∧ (j = 3 ∨ j = 4 ∨ j = 9)) → k a j = g a j := fun a j w1 w2 w3 => by rw [← hk, zup_ne (by omega), zup_ne (by omega), zup_ne (by omega), zup_ne (by omega), zup_ne (by omega), zup_ne (by omega)]
  have kP : cP k := by
    rw [← hk]
    exact (((((g2.up (by decide)).up (by decide)).up (by decide)).up (by decide)).up (by decide)).up (by decide)
  have k9 : k 80 9 = ((0 : Nat) : Int) := by rw [← hk, zup_at]; rfl
  have k4 : k 80 4 = -1 := by rw [← hk, zup_ne (by omega), zup_at]
  have k3 : k 80 3 = 0 := by rw [← hk, zup_ne (by omega), zup_ne (by omega), zup_at]
  have k113 : k 110 3 = 0 := by rw [← hk, zup_ne (by omega), zup_ne (by omega), zup_ne (by omega), zup_at]
  have k110 : k 110 0 = 0 := by rw [← hk, zup_ne (by omega), zup_ne (by omega), zup_ne (by omega), zup_ne (by omega), zup_at]
  have k100 : k 100 0 = 0 := by rw [← hk, zup_ne (by omega), zup_ne (by omega), zup_ne (by omega), zup_ne (by omega), zup_ne (by omega), zup_at]
  have kX : cX h k := fun a j w => by rw [kn a j (by omega) (by omega) (by omega), g3 a j (by omega)]
  have kC : cC u N k := ⟨by rw [kX 4 1 (by omega)]; exact hc.1, hN, fun i hi => by rw [kX 5 i (by omega)]; exact hc.2.2.1 i hi, kP⟩
  have kR : cR of t0 k := by
    refine ⟨fun e => ?_, fun e => ?_, fun e => ?_⟩
    · subst e
      exact (g4 t0 ht).fr (fun a j w1 w2 => kn a j (by omega) (by omega) (by omega))
    · subst e
      have z : t0 0 = 0 := by rw [ht 0 (by decide)]; rfl
      exact ⟨by rw [k100, z], fun j hj => by omega⟩
    · subst e
      have z0 : t0 0 = 0 := by rw [ht 0 (by decide)]; rfl
      have z1 : t0 1 = 0 := by rw [ht 1 (by decide)]; rfl
      exact ⟨by rw [k110, z0], by rw [k113, z1], fun j hj => by omega, fun j hj => by omega⟩
  obtain ⟨h2, r1, r2, r3, r4⟩ := read_l (u := u) (N := N) hof 700 0 0 n (0, -1) k t0 (-1) (-1) (by omega) (by omega) (by omega) (by omega) kC k9 ⟨k3, k4, t0, kR, tI_W hof ht, fun _ => rfl⟩ (fun _ => cI_0 hof ht)
  exact ⟨h2, r1, r2, fun a j w => by rw [r3 a j w]; exact kX a j w, r4⟩
